theorem m_1_16 : Cond.initialized "ZoneFiles$FileParser" ∈ T0 := tb_1 16 rfl rfl
theorem m_1_43 : Cond.fieldLink "ZoneFiles$FileParser" 56 "ZoneFiles$Bytes" "size" "I" ∈ T0 := tb_1 43 rfl rfl
theorem m_1_163 : Cond.fieldLink "ZoneFiles$FileParser" 27 "ZoneFiles$Zone" "version" "I" ∈ T0 := tb_1 163 rfl rfl
theorem m_1_167 : Cond.fieldLink "ZoneFiles$FileParser" 81 "ZoneFiles$Zone" "timeCount" "I" ∈ T0 := tb_1 167 rfl rfl
theorem m_1_173 : Cond.fieldLink "ZoneFiles$FileParser" 126 "ZoneFiles$Zone" "typeCount" "I" ∈ T0 := tb_1 173 rfl rfl
theorem m_1_177 : Cond.fieldLink "ZoneFiles$FileParser" 129 "ZoneFiles$Zone" "leapCount" "I" ∈ T0 := tb_1 177 rfl rfl
theorem m_1_181 : Cond.fieldLink "ZoneFiles$FileParser" 132 "ZoneFiles$Zone" "stdCount" "I" ∈ T0 := tb_1 181 rfl rfl
theorem m_1_185 : Cond.fieldLink "ZoneFiles$FileParser" 135 "ZoneFiles$Zone" "utCount" "I" ∈ T0 := tb_1 185 rfl rfl
theorem m_1_187 : Cond.fieldLink "ZoneFiles$FileParser" 87 "ZoneFiles$Zone" "times" "[J" ∈ T0 := tb_1 187 rfl rfl
theorem m_1_191 : Cond.fieldLink "ZoneFiles$FileParser" 94 "ZoneFiles$Zone" "timeTypes" "[I" ∈ T0 := tb_1 191 rfl rfl
theorem m_1_197 : Cond.fieldLink "ZoneFiles$FileParser" 169 "ZoneFiles$Zone" "offsets" "[I" ∈ T0 := tb_1 197 rfl rfl
theorem m_1_201 : Cond.fieldLink "ZoneFiles$FileParser" 172 "ZoneFiles$Zone" "dsts" "[I" ∈ T0 := tb_1 201 rfl rfl
theorem m_1_205 : Cond.fieldLink "ZoneFiles$FileParser" 175 "ZoneFiles$Zone" "indexes" "[I" ∈ T0 := tb_1 205 rfl rfl
theorem m_1_209 : Cond.fieldLink "ZoneFiles$FileParser" 213 "ZoneFiles$Zone" "stds" "[I" ∈ T0 := tb_1 209 rfl rfl
theorem m_1_213 : Cond.fieldLink "ZoneFiles$FileParser" 216 "ZoneFiles$Zone" "uts" "[I" ∈ T0 := tb_1 213 rfl rfl
theorem m_1_217 : Cond.fieldLink "ZoneFiles$FileParser" 178 "ZoneFiles$Zone" "chars" "LZoneFiles$Bytes;" ∈ T0 := tb_1 217 rfl rfl
theorem m_1_221 : Cond.fieldLink "ZoneFiles$FileParser" 199 "ZoneFiles$Zone" "leapTimes" "[J" ∈ T0 := tb_1 221 rfl rfl
theorem m_1_225 : Cond.fieldLink "ZoneFiles$FileParser" 204 "ZoneFiles$Zone" "leapCorrections" "[I" ∈ T0 := tb_1 225 rfl rfl
theorem m_2_228 : Cond.static ⟨"java/lang/Math", "abs", "(J)J"⟩ ∈ T0 := tb_2 228 rfl rfl
theorem m_2_229 : Cond.code ⟨"java/lang/Math", "abs", "(J)J"⟩ prog_20_method_61_code 2 (some .long) ∈ T0 := tb_2 229 rfl rfl
theorem m_3_157 : Cond.fieldLink "ZoneFiles$FileParser" 101 "ZoneFiles$FileParser" "fault" "I" ∈ T0 := tb_3 157 rfl rfl
theorem m_3_159 : Cond.fieldLink "ZoneFiles$FileParser" 104 "ZoneFiles$FileParser" "place" "I" ∈ T0 := tb_3 159 rfl rfl
theorem m_3_160 : Cond.fieldLink "ZoneFiles$FileParser" 9 "ZoneFiles$FileParser" "tape" "LZoneFiles$Bytes;" ∈ T0 := tb_3 160 rfl rfl
theorem m_3_161 : Cond.fieldLink "ZoneFiles$FileParser" 15 "ZoneFiles$FileParser" "zone" "LZoneFiles$Zone;" ∈ T0 := tb_3 161 rfl rfl
theorem m_3_162 : Cond.fieldLink "ZoneFiles$FileParser" 19 "ZoneFiles$FileParser" "counts" "[J" ∈ T0 := tb_3 162 rfl rfl
theorem m_3_163 : Cond.fieldLink "ZoneFiles$FileParser" 44 "ZoneFiles$FileParser" "pos" "I" ∈ T0 := tb_3 163 rfl rfl
theorem m_3_190 : Cond.methodLink "ZoneFiles$FileParser" 61 ⟨"ZoneFiles$Bytes", "get", "(I)I"⟩ ∈ T0 := tb_3 190 rfl rfl
theorem m_3_191 : Cond.methodLink "ZoneFiles$FileParser" 64 ⟨"ZoneFiles$FileParser", "fail", "(II)Z"⟩ ∈ T0 := tb_3 191 rfl rfl
theorem m_3_193 : Cond.instanceMethod ⟨"ZoneFiles$FileParser", "fail", "(II)Z"⟩ ∈ T0 := tb_3 193 rfl rfl
theorem m_3_194 : Cond.code ⟨"ZoneFiles$FileParser", "fail", "(II)Z"⟩ prog_6_method_5_code 3 (some .boolean) ∈ T0 := tb_3 194 rfl rfl
theorem m_3_195 : Cond.methodLink "ZoneFiles$FileParser" 110 ⟨"ZoneFiles$FileParser", "isVersion", "(IZ)Z"⟩ ∈ T0 := tb_3 195 rfl rfl
theorem m_3_197 : Cond.instanceMethod ⟨"ZoneFiles$FileParser", "isVersion", "(IZ)Z"⟩ ∈ T0 := tb_3 197 rfl rfl
theorem m_3_198 : Cond.code ⟨"ZoneFiles$FileParser", "isVersion", "(IZ)Z"⟩ prog_6_method_9_code 3 (some .boolean) ∈ T0 := tb_3 198 rfl rfl
theorem m_3_199 : Cond.methodLink "ZoneFiles$FileParser" 41 ⟨"ZoneFiles$FileParser", "hasMore", "(I)Z"⟩ ∈ T0 := tb_3 199 rfl rfl
theorem m_3_201 : Cond.instanceMethod ⟨"ZoneFiles$FileParser", "hasMore", "(I)Z"⟩ ∈ T0 := tb_3 201 rfl rfl
theorem m_3_202 : Cond.code ⟨"ZoneFiles$FileParser", "hasMore", "(I)Z"⟩ prog_6_method_6_code 2 (some .boolean) ∈ T0 := tb_3 202 rfl rfl
theorem m_3_203 : Cond.methodLink "ZoneFiles$FileParser" 114 ⟨"ZoneFiles$Bytes", "unsignedAt", "(I)J"⟩ ∈ T0 := tb_3 203 rfl rfl
theorem m_3_204 : Cond.instanceMethod ⟨"ZoneFiles$Bytes", "unsignedAt", "(I)J"⟩ ∈ T0 := tb_3 204 rfl rfl
theorem m_3_205 : Cond.selects "ZoneFiles$Bytes" ⟨"ZoneFiles$Bytes", "unsignedAt", "(I)J"⟩ ⟨"ZoneFiles$Bytes", "unsignedAt", "(I)J"⟩ ∈ T0 := tb_3 205 rfl rfl
theorem m_3_206 : Cond.code ⟨"ZoneFiles$Bytes", "unsignedAt", "(I)J"⟩ prog_2_method_8_code 2 (some .long) ∈ T0 := tb_3 206 rfl rfl
theorem m_3_213 : Cond.methodLink "ZoneFiles$FileParser" 118 ⟨"ZoneFiles$FileParser", "countFits", "(IJ)Z"⟩ ∈ T0 := tb_3 213 rfl rfl
theorem m_3_215 : Cond.instanceMethod ⟨"ZoneFiles$FileParser", "countFits", "(IJ)Z"⟩ ∈ T0 := tb_3 215 rfl rfl
theorem m_3_216 : Cond.code ⟨"ZoneFiles$FileParser", "countFits", "(IJ)Z"⟩ prog_6_method_10_code 4 (some .boolean) ∈ T0 := tb_3 216 rfl rfl
theorem m_3_217 : Cond.constantLong "ZoneFiles$FileParser" 122 40 ∈ T0 := tb_3 217 rfl rfl
theorem m_3_218 : Cond.constantLong "ZoneFiles$FileParser" 124 200 ∈ T0 := tb_3 218 rfl rfl
theorem m_3_223 : Cond.methodLink "ZoneFiles$FileParser" 37 ⟨"ZoneFiles$FileParser", "count", "(I)I"⟩ ∈ T0 := tb_3 223 rfl rfl
theorem m_3_225 : Cond.instanceMethod ⟨"ZoneFiles$FileParser", "count", "(I)I"⟩ ∈ T0 := tb_3 225 rfl rfl
theorem m_3_226 : Cond.code ⟨"ZoneFiles$FileParser", "count", "(I)I"⟩ prog_6_method_7_code 2 (some .int) ∈ T0 := tb_3 226 rfl rfl
theorem m_3_231 : Cond.methodLink "ZoneFiles$FileParser" 159 ⟨"ZoneFiles$Bytes", "signedAt", "(II)J"⟩ ∈ T0 := tb_3 231 rfl rfl
theorem m_3_233 : Cond.static ⟨"ZoneFiles", "isInstant", "(J)Z"⟩ ∈ T0 := tb_3 233 rfl rfl
theorem m_3_234 : Cond.code ⟨"ZoneFiles", "isInstant", "(J)Z"⟩ prog_1_method_32_code 2 (some .boolean) ∈ T0 := tb_3 234 rfl rfl
theorem m_4_5 : Cond.constant "ZoneFiles$FileParser" 167 (-89999) ∈ T0 := tb_4 5 rfl rfl
theorem m_4_6 : Cond.constant "ZoneFiles$FileParser" 168 93599 ∈ T0 := tb_4 6 rfl rfl
theorem m_4_11 : Cond.methodLink "ZoneFiles$FileParser" 181 ⟨"ZoneFiles$Bytes", "clear", "()V"⟩ ∈ T0 := tb_4 11 rfl rfl
theorem m_4_12 : Cond.methodLink "ZoneFiles$FileParser" 182 ⟨"ZoneFiles$Bytes", "putAll", "(LZoneFiles$Bytes;II)V"⟩ ∈ T0 := tb_4 12 rfl rfl
theorem m_4_13 : Cond.methodLink "ZoneFiles$FileParser" 186 ⟨"ZoneFiles$FileParser", "nameFits", "(I)Z"⟩ ∈ T0 := tb_4 13 rfl rfl
theorem m_4_15 : Cond.instanceMethod ⟨"ZoneFiles$FileParser", "nameFits", "(I)Z"⟩ ∈ T0 := tb_4 15 rfl rfl
theorem m_4_16 : Cond.code ⟨"ZoneFiles$FileParser", "nameFits", "(I)Z"⟩ prog_6_method_16_code 4 (some .boolean) ∈ T0 := tb_4 16 rfl rfl
theorem m_4_17 : Cond.methodLink "ZoneFiles$FileParser" 189 ⟨"ZoneFiles$Zone", "nameSize", "(I)I"⟩ ∈ T0 := tb_4 17 rfl rfl
theorem m_4_18 : Cond.methodLink "ZoneFiles$FileParser" 192 ⟨"ZoneFiles$Zone", "nameByte", "(II)I"⟩ ∈ T0 := tb_4 18 rfl rfl
theorem m_4_30 : Cond.constantLong "ZoneFiles$FileParser" 202 2419199 ∈ T0 := tb_4 30 rfl rfl
theorem m_4_31 : Cond.methodLink "ZoneFiles$FileParser" 207 ⟨"java/lang/Math", "abs", "(J)J"⟩ ∈ T0 := tb_4 31 rfl rfl
theorem msel_16 : Cond.selects "ZoneFiles$FileParser" ⟨"ZoneFiles$FileParser", "fail", "(II)Z"⟩ ⟨"ZoneFiles$FileParser", "fail", "(II)Z"⟩ ∈ T0 := ps_2 (q := (⟨"ZoneFiles$FileParser", "fail", "(II)Z"⟩, 7)) 0 rfl
theorem msel_17 : Cond.selects "ZoneFiles$FileParser" ⟨"ZoneFiles$FileParser", "isVersion", "(IZ)Z"⟩ ⟨"ZoneFiles$FileParser", "isVersion", "(IZ)Z"⟩ ∈ T0 := ps_2 (q := (⟨"ZoneFiles$FileParser", "isVersion", "(IZ)Z"⟩, 7)) 1 rfl
theorem msel_18 : Cond.selects "ZoneFiles$FileParser" ⟨"ZoneFiles$FileParser", "hasMore", "(I)Z"⟩ ⟨"ZoneFiles$FileParser", "hasMore", "(I)Z"⟩ ∈ T0 := ps_2 (q := (⟨"ZoneFiles$FileParser", "hasMore", "(I)Z"⟩, 7)) 2 rfl
theorem msel_19 : Cond.selects "ZoneFiles$FileParser" ⟨"ZoneFiles$FileParser", "countFits", "(IJ)Z"⟩ ⟨"ZoneFiles$FileParser", "countFits", "(IJ)Z"⟩ ∈ T0 := ps_2 (q := (⟨"ZoneFiles$FileParser", "countFits", "(IJ)Z"⟩, 7)) 3 rfl
theorem msel_21 : Cond.selects "ZoneFiles$FileParser" ⟨"ZoneFiles$FileParser", "count", "(I)I"⟩ ⟨"ZoneFiles$FileParser", "count", "(I)I"⟩ ∈ T0 := ps_2 (q := (⟨"ZoneFiles$FileParser", "count", "(I)I"⟩, 7)) 5 rfl
theorem msel_26 : Cond.selects "ZoneFiles$FileParser" ⟨"ZoneFiles$FileParser", "nameFits", "(I)Z"⟩ ⟨"ZoneFiles$FileParser", "nameFits", "(I)Z"⟩ ∈ T0 := ps_2 (q := (⟨"ZoneFiles$FileParser", "nameFits", "(I)Z"⟩, 7)) 10 rfl
abbrev b_FP_fail : ByteArray := prog_6_method_5_code
def y_FP_fail : MethodName := ⟨"ZoneFiles$FileParser", "fail", "(II)Z"⟩
theorem d_FP_fail_0 : decode b_FP_fail 0 = .ok (.aload_n 0, 1) := by decide +kernel
theorem d_FP_fail_1 : decode b_FP_fail 1 = .ok (.iload_n 1, 1) := by decide +kernel
theorem d_FP_fail_2 : decode b_FP_fail 2 = .ok (.putfield 101, 3) := by decide +kernel
theorem d_FP_fail_5 : decode b_FP_fail 5 = .ok (.aload_n 0, 1) := by decide +kernel
theorem d_FP_fail_6 : decode b_FP_fail 6 = .ok (.iload_n 2, 1) := by decide +kernel
theorem d_FP_fail_7 : decode b_FP_fail 7 = .ok (.putfield 104, 3) := by decide +kernel
theorem d_FP_fail_10 : decode b_FP_fail 10 = .ok (.iconst 0, 1) := by decide +kernel
theorem d_FP_fail_11 : decode b_FP_fail 11 = .ok (.ireturn, 1) := by decide +kernel
abbrev b_FP_hasMore : ByteArray := prog_6_method_6_code
def y_FP_hasMore : MethodName := ⟨"ZoneFiles$FileParser", "hasMore", "(I)Z"⟩
theorem d_FP_hasMore_0 : decode b_FP_hasMore 0 = .ok (.aload_n 0, 1) := by decide +kernel
theorem d_FP_hasMore_1 : decode b_FP_hasMore 1 = .ok (.getfield 9, 3) := by decide +kernel
theorem d_FP_hasMore_4 : decode b_FP_hasMore 4 = .ok (.getfield 56, 3) := by decide +kernel
theorem d_FP_hasMore_7 : decode b_FP_hasMore 7 = .ok (.aload_n 0, 1) := by decide +kernel
theorem d_FP_hasMore_8 : decode b_FP_hasMore 8 = .ok (.getfield 44, 3) := by decide +kernel
theorem d_FP_hasMore_11 : decode b_FP_hasMore 11 = .ok (.isub, 1) := by decide +kernel
theorem d_FP_hasMore_12 : decode b_FP_hasMore 12 = .ok (.iload_n 1, 1) := by decide +kernel
theorem d_FP_hasMore_13 : decode b_FP_hasMore 13 = .ok (.if_icmp .ge 18, 3) := by decide +kernel
theorem d_FP_hasMore_16 : decode b_FP_hasMore 16 = .ok (.aload_n 0, 1) := by decide +kernel
theorem d_FP_hasMore_17 : decode b_FP_hasMore 17 = .ok (.iconst 1, 1) := by decide +kernel
theorem d_FP_hasMore_18 : decode b_FP_hasMore 18 = .ok (.aload_n 0, 1) := by decide +kernel
theorem d_FP_hasMore_19 : decode b_FP_hasMore 19 = .ok (.getfield 9, 3) := by decide +kernel
theorem d_FP_hasMore_22 : decode b_FP_hasMore 22 = .ok (.getfield 56, 3) := by decide +kernel
theorem d_FP_hasMore_25 : decode b_FP_hasMore 25 = .ok (.invokevirtual 64, 3) := by decide +kernel
theorem d_FP_hasMore_28 : decode b_FP_hasMore 28 = .ok (.ifCond .eq 7, 3) := by decide +kernel
theorem d_FP_hasMore_31 : decode b_FP_hasMore 31 = .ok (.iconst 1, 1) := by decide +kernel
theorem d_FP_hasMore_32 : decode b_FP_hasMore 32 = .ok (.goto 4, 3) := by decide +kernel
theorem d_FP_hasMore_35 : decode b_FP_hasMore 35 = .ok (.iconst 0, 1) := by decide +kernel
theorem d_FP_hasMore_36 : decode b_FP_hasMore 36 = .ok (.ireturn, 1) := by decide +kernel
abbrev b_FP_count : ByteArray := prog_6_method_7_code
def y_FP_count : MethodName := ⟨"ZoneFiles$FileParser", "count", "(I)I"⟩
theorem d_FP_count_0 : decode b_FP_count 0 = .ok (.iload_n 1, 1) := by decide +kernel
theorem d_FP_count_1 : decode b_FP_count 1 = .ok (.ifCond .lt 12, 3) := by decide +kernel
theorem d_FP_count_4 : decode b_FP_count 4 = .ok (.iload_n 1, 1) := by decide +kernel
theorem d_FP_count_5 : decode b_FP_count 5 = .ok (.aload_n 0, 1) := by decide +kernel
theorem d_FP_count_6 : decode b_FP_count 6 = .ok (.getfield 19, 3) := by decide +kernel
theorem d_FP_count_9 : decode b_FP_count 9 = .ok (.arraylength, 1) := by decide +kernel
theorem d_FP_count_10 : decode b_FP_count 10 = .ok (.if_icmp .lt 7, 3) := by decide +kernel
theorem d_FP_count_13 : decode b_FP_count 13 = .ok (.iconst 0, 1) := by decide +kernel
theorem d_FP_count_14 : decode b_FP_count 14 = .ok (.goto 10, 3) := by decide +kernel
theorem d_FP_count_17 : decode b_FP_count 17 = .ok (.aload_n 0, 1) := by decide +kernel
theorem d_FP_count_18 : decode b_FP_count 18 = .ok (.getfield 19, 3) := by decide +kernel
theorem d_FP_count_21 : decode b_FP_count 21 = .ok (.iload_n 1, 1) := by decide +kernel
theorem d_FP_count_22 : decode b_FP_count 22 = .ok (.laload, 1) := by decide +kernel
theorem d_FP_count_23 : decode b_FP_count 23 = .ok (.l2i, 1) := by decide +kernel
theorem d_FP_count_24 : decode b_FP_count 24 = .ok (.ireturn, 1) := by decide +kernel
abbrev b_FP_isVersion : ByteArray := prog_6_method_9_code
def y_FP_isVersion : MethodName := ⟨"ZoneFiles$FileParser", "isVersion", "(IZ)Z"⟩
theorem d_FP_isVersion_0 : decode b_FP_isVersion 0 = .ok (.iload_n 2, 1) := by decide +kernel
theorem d_FP_isVersion_1 : decode b_FP_isVersion 1 = .ok (.ifCond .ne 20, 3) := by decide +kernel
theorem d_FP_isVersion_4 : decode b_FP_isVersion 4 = .ok (.iload_n 1, 1) := by decide +kernel
theorem d_FP_isVersion_5 : decode b_FP_isVersion 5 = .ok (.aload_n 0, 1) := by decide +kernel
theorem d_FP_isVersion_6 : decode b_FP_isVersion 6 = .ok (.getfield 15, 3) := by decide +kernel
theorem d_FP_isVersion_9 : decode b_FP_isVersion 9 = .ok (.getfield 27, 3) := by decide +kernel
theorem d_FP_isVersion_12 : decode b_FP_isVersion 12 = .ok (.if_icmp .ne 7, 3) := by decide +kernel
theorem d_FP_isVersion_15 : decode b_FP_isVersion 15 = .ok (.iconst 1, 1) := by decide +kernel
theorem d_FP_isVersion_16 : decode b_FP_isVersion 16 = .ok (.goto 4, 3) := by decide +kernel
theorem d_FP_isVersion_19 : decode b_FP_isVersion 19 = .ok (.iconst 0, 1) := by decide +kernel
theorem d_FP_isVersion_20 : decode b_FP_isVersion 20 = .ok (.ireturn, 1) := by decide +kernel
theorem d_FP_isVersion_21 : decode b_FP_isVersion 21 = .ok (.iload_n 1, 1) := by decide +kernel
theorem d_FP_isVersion_22 : decode b_FP_isVersion 22 = .ok (.ifCond .eq 15, 3) := by decide +kernel
theorem d_FP_isVersion_25 : decode b_FP_isVersion 25 = .ok (.iload_n 1, 1) := by decide +kernel
theorem d_FP_isVersion_26 : decode b_FP_isVersion 26 = .ok (.bipush 50, 2) := by decide +kernel
theorem d_FP_isVersion_28 : decode b_FP_isVersion 28 = .ok (.if_icmp .eq 9, 3) := by decide +kernel
theorem d_FP_isVersion_31 : decode b_FP_isVersion 31 = .ok (.iload_n 1, 1) := by decide +kernel
theorem d_FP_isVersion_32 : decode b_FP_isVersion 32 = .ok (.bipush 51, 2) := by decide +kernel
theorem d_FP_isVersion_34 : decode b_FP_isVersion 34 = .ok (.if_icmp .ne 7, 3) := by decide +kernel
theorem d_FP_isVersion_37 : decode b_FP_isVersion 37 = .ok (.iconst 1, 1) := by decide +kernel
theorem d_FP_isVersion_38 : decode b_FP_isVersion 38 = .ok (.goto 4, 3) := by decide +kernel
theorem d_FP_isVersion_41 : decode b_FP_isVersion 41 = .ok (.iconst 0, 1) := by decide +kernel
theorem d_FP_isVersion_42 : decode b_FP_isVersion 42 = .ok (.ireturn, 1) := by decide +kernel
abbrev b_FP_countFits : ByteArray := prog_6_method_10_code
def y_FP_countFits : MethodName := ⟨"ZoneFiles$FileParser", "countFits", "(IJ)Z"⟩
theorem d_FP_countFits_0 : decode b_FP_countFits 0 = .ok (.iload_n 1, 1) := by decide +kernel
theorem d_FP_countFits_1 : decode b_FP_countFits 1 = .ok (.tableswitch 99 2 5 #[31, 45, 59, 79], 31) := by decide +kernel
theorem d_FP_countFits_32 : decode b_FP_countFits 32 = .ok (.lload_n 2, 1) := by decide +kernel
theorem d_FP_countFits_33 : decode b_FP_countFits 33 = .ok (.ldc2_w 122, 3) := by decide +kernel
theorem d_FP_countFits_36 : decode b_FP_countFits 36 = .ok (.lcmp, 1) := by decide +kernel
theorem d_FP_countFits_37 : decode b_FP_countFits 37 = .ok (.ifCond .gt 7, 3) := by decide +kernel
theorem d_FP_countFits_40 : decode b_FP_countFits 40 = .ok (.iconst 1, 1) := by decide +kernel
theorem d_FP_countFits_41 : decode b_FP_countFits 41 = .ok (.goto 4, 3) := by decide +kernel
theorem d_FP_countFits_44 : decode b_FP_countFits 44 = .ok (.iconst 0, 1) := by decide +kernel
theorem d_FP_countFits_45 : decode b_FP_countFits 45 = .ok (.ireturn, 1) := by decide +kernel
theorem d_FP_countFits_46 : decode b_FP_countFits 46 = .ok (.lload_n 2, 1) := by decide +kernel
theorem d_FP_countFits_47 : decode b_FP_countFits 47 = .ok (.ldc2_w 124, 3) := by decide +kernel
theorem d_FP_countFits_50 : decode b_FP_countFits 50 = .ok (.lcmp, 1) := by decide +kernel
theorem d_FP_countFits_51 : decode b_FP_countFits 51 = .ok (.ifCond .gt 7, 3) := by decide +kernel
theorem d_FP_countFits_54 : decode b_FP_countFits 54 = .ok (.iconst 1, 1) := by decide +kernel
theorem d_FP_countFits_55 : decode b_FP_countFits 55 = .ok (.goto 4, 3) := by decide +kernel
theorem d_FP_countFits_58 : decode b_FP_countFits 58 = .ok (.iconst 0, 1) := by decide +kernel
theorem d_FP_countFits_59 : decode b_FP_countFits 59 = .ok (.ireturn, 1) := by decide +kernel
theorem d_FP_countFits_60 : decode b_FP_countFits 60 = .ok (.lload_n 2, 1) := by decide +kernel
theorem d_FP_countFits_61 : decode b_FP_countFits 61 = .ok (.lconst 1, 1) := by decide +kernel
theorem d_FP_countFits_62 : decode b_FP_countFits 62 = .ok (.lcmp, 1) := by decide +kernel
theorem d_FP_countFits_63 : decode b_FP_countFits 63 = .ok (.ifCond .lt 15, 3) := by decide +kernel
theorem d_FP_countFits_66 : decode b_FP_countFits 66 = .ok (.lload_n 2, 1) := by decide +kernel
theorem d_FP_countFits_67 : decode b_FP_countFits 67 = .ok (.ldc2_w 122, 3) := by decide +kernel
theorem d_FP_countFits_70 : decode b_FP_countFits 70 = .ok (.lcmp, 1) := by decide +kernel
theorem d_FP_countFits_71 : decode b_FP_countFits 71 = .ok (.ifCond .gt 7, 3) := by decide +kernel
theorem d_FP_countFits_74 : decode b_FP_countFits 74 = .ok (.iconst 1, 1) := by decide +kernel
theorem d_FP_countFits_75 : decode b_FP_countFits 75 = .ok (.goto 4, 3) := by decide +kernel
theorem d_FP_countFits_78 : decode b_FP_countFits 78 = .ok (.iconst 0, 1) := by decide +kernel
theorem d_FP_countFits_79 : decode b_FP_countFits 79 = .ok (.ireturn, 1) := by decide +kernel
theorem d_FP_countFits_80 : decode b_FP_countFits 80 = .ok (.lload_n 2, 1) := by decide +kernel
theorem d_FP_countFits_81 : decode b_FP_countFits 81 = .ok (.lconst 1, 1) := by decide +kernel
theorem d_FP_countFits_82 : decode b_FP_countFits 82 = .ok (.lcmp, 1) := by decide +kernel
theorem d_FP_countFits_83 : decode b_FP_countFits 83 = .ok (.ifCond .lt 15, 3) := by decide +kernel
theorem d_FP_countFits_86 : decode b_FP_countFits 86 = .ok (.lload_n 2, 1) := by decide +kernel
theorem d_FP_countFits_87 : decode b_FP_countFits 87 = .ok (.ldc2_w 124, 3) := by decide +kernel
theorem d_FP_countFits_90 : decode b_FP_countFits 90 = .ok (.lcmp, 1) := by decide +kernel
theorem d_FP_countFits_91 : decode b_FP_countFits 91 = .ok (.ifCond .gt 7, 3) := by decide +kernel
theorem d_FP_countFits_94 : decode b_FP_countFits 94 = .ok (.iconst 1, 1) := by decide +kernel
theorem d_FP_countFits_95 : decode b_FP_countFits 95 = .ok (.goto 4, 3) := by decide +kernel
theorem d_FP_countFits_98 : decode b_FP_countFits 98 = .ok (.iconst 0, 1) := by decide +kernel
theorem d_FP_countFits_99 : decode b_FP_countFits 99 = .ok (.ireturn, 1) := by decide +kernel
theorem d_FP_countFits_100 : decode b_FP_countFits 100 = .ok (.lload_n 2, 1) := by decide +kernel
theorem d_FP_countFits_101 : decode b_FP_countFits 101 = .ok (.lconst 0, 1) := by decide +kernel
theorem d_FP_countFits_102 : decode b_FP_countFits 102 = .ok (.lcmp, 1) := by decide +kernel
theorem d_FP_countFits_103 : decode b_FP_countFits 103 = .ok (.ifCond .eq 14, 3) := by decide +kernel
theorem d_FP_countFits_106 : decode b_FP_countFits 106 = .ok (.lload_n 2, 1) := by decide +kernel
theorem d_FP_countFits_107 : decode b_FP_countFits 107 = .ok (.aload_n 0, 1) := by decide +kernel
theorem d_FP_countFits_108 : decode b_FP_countFits 108 = .ok (.getfield 19, 3) := by decide +kernel
theorem d_FP_countFits_111 : decode b_FP_countFits 111 = .ok (.iconst 4, 1) := by decide +kernel
theorem d_FP_countFits_112 : decode b_FP_countFits 112 = .ok (.laload, 1) := by decide +kernel
theorem d_FP_countFits_113 : decode b_FP_countFits 113 = .ok (.lcmp, 1) := by decide +kernel
theorem d_FP_countFits_114 : decode b_FP_countFits 114 = .ok (.ifCond .ne 7, 3) := by decide +kernel
theorem d_FP_countFits_117 : decode b_FP_countFits 117 = .ok (.iconst 1, 1) := by decide +kernel
theorem d_FP_countFits_118 : decode b_FP_countFits 118 = .ok (.goto 4, 3) := by decide +kernel
theorem d_FP_countFits_121 : decode b_FP_countFits 121 = .ok (.iconst 0, 1) := by decide +kernel
theorem d_FP_countFits_122 : decode b_FP_countFits 122 = .ok (.ireturn, 1) := by decide +kernel
abbrev b_FP_nameFits : ByteArray := prog_6_method_16_code
def y_FP_nameFits : MethodName := ⟨"ZoneFiles$FileParser", "nameFits", "(I)Z"⟩
theorem d_FP_nameFits_0 : decode b_FP_nameFits 0 = .ok (.aload_n 0, 1) := by decide +kernel
theorem d_FP_nameFits_1 : decode b_FP_nameFits 1 = .ok (.getfield 15, 3) := by decide +kernel
theorem d_FP_nameFits_4 : decode b_FP_nameFits 4 = .ok (.iload_n 1, 1) := by decide +kernel
theorem d_FP_nameFits_5 : decode b_FP_nameFits 5 = .ok (.invokevirtual 189, 3) := by decide +kernel
theorem d_FP_nameFits_8 : decode b_FP_nameFits 8 = .ok (.istore_n 2, 1) := by decide +kernel
theorem d_FP_nameFits_9 : decode b_FP_nameFits 9 = .ok (.iload_n 2, 1) := by decide +kernel
theorem d_FP_nameFits_10 : decode b_FP_nameFits 10 = .ok (.iconst 3, 1) := by decide +kernel
theorem d_FP_nameFits_11 : decode b_FP_nameFits 11 = .ok (.if_icmp .lt 21, 3) := by decide +kernel
theorem d_FP_nameFits_14 : decode b_FP_nameFits 14 = .ok (.iload_n 2, 1) := by decide +kernel
theorem d_FP_nameFits_15 : decode b_FP_nameFits 15 = .ok (.bipush 10, 2) := by decide +kernel
theorem d_FP_nameFits_17 : decode b_FP_nameFits 17 = .ok (.if_icmp .gt 15, 3) := by decide +kernel
theorem d_FP_nameFits_20 : decode b_FP_nameFits 20 = .ok (.aload_n 0, 1) := by decide +kernel
theorem d_FP_nameFits_21 : decode b_FP_nameFits 21 = .ok (.getfield 15, 3) := by decide +kernel
theorem d_FP_nameFits_24 : decode b_FP_nameFits 24 = .ok (.iload_n 1, 1) := by decide +kernel
theorem d_FP_nameFits_25 : decode b_FP_nameFits 25 = .ok (.iload_n 2, 1) := by decide +kernel
theorem d_FP_nameFits_26 : decode b_FP_nameFits 26 = .ok (.invokevirtual 192, 3) := by decide +kernel
theorem d_FP_nameFits_29 : decode b_FP_nameFits 29 = .ok (.ifCond .eq 5, 3) := by decide +kernel
theorem d_FP_nameFits_32 : decode b_FP_nameFits 32 = .ok (.iconst 0, 1) := by decide +kernel
theorem d_FP_nameFits_33 : decode b_FP_nameFits 33 = .ok (.ireturn, 1) := by decide +kernel
theorem d_FP_nameFits_34 : decode b_FP_nameFits 34 = .ok (.iconst 0, 1) := by decide +kernel
theorem d_FP_nameFits_35 : decode b_FP_nameFits 35 = .ok (.istore_n 3, 1) := by decide +kernel
theorem d_FP_nameFits_36 : decode b_FP_nameFits 36 = .ok (.iload_n 3, 1) := by decide +kernel
theorem d_FP_nameFits_37 : decode b_FP_nameFits 37 = .ok (.iload_n 2, 1) := by decide +kernel
theorem d_FP_nameFits_38 : decode b_FP_nameFits 38 = .ok (.if_icmp .ge 26, 3) := by decide +kernel
theorem d_FP_nameFits_41 : decode b_FP_nameFits 41 = .ok (.aload_n 0, 1) := by decide +kernel
theorem d_FP_nameFits_42 : decode b_FP_nameFits 42 = .ok (.getfield 15, 3) := by decide +kernel
theorem d_FP_nameFits_45 : decode b_FP_nameFits 45 = .ok (.iload_n 1, 1) := by decide +kernel
theorem d_FP_nameFits_46 : decode b_FP_nameFits 46 = .ok (.iload_n 3, 1) := by decide +kernel
theorem d_FP_nameFits_47 : decode b_FP_nameFits 47 = .ok (.invokevirtual 192, 3) := by decide +kernel
theorem d_FP_nameFits_50 : decode b_FP_nameFits 50 = .ok (.invokestatic 196, 3) := by decide +kernel
theorem d_FP_nameFits_53 : decode b_FP_nameFits 53 = .ok (.ifCond .ne 5, 3) := by decide +kernel
theorem d_FP_nameFits_56 : decode b_FP_nameFits 56 = .ok (.iconst 0, 1) := by decide +kernel
theorem d_FP_nameFits_57 : decode b_FP_nameFits 57 = .ok (.ireturn, 1) := by decide +kernel
theorem d_FP_nameFits_58 : decode b_FP_nameFits 58 = .ok (.iinc 3 1, 3) := by decide +kernel
theorem d_FP_nameFits_61 : decode b_FP_nameFits 61 = .ok (.goto (-25), 3) := by decide +kernel
theorem d_FP_nameFits_64 : decode b_FP_nameFits 64 = .ok (.iconst 1, 1) := by decide +kernel
theorem d_FP_nameFits_65 : decode b_FP_nameFits 65 = .ok (.ireturn, 1) := by decide +kernel
abbrev b_FP_readHeader : ByteArray := prog_6_method_8_code
def y_FP_readHeader : MethodName := ⟨"ZoneFiles$FileParser", "readHeader", "(Z)Z"⟩
theorem d_FP_readHeader_0 : decode b_FP_readHeader 0 = .ok (.iconst 0, 1) := by decide +kernel
theorem d_FP_readHeader_1 : decode b_FP_readHeader 1 = .ok (.istore_n 2, 1) := by decide +kernel
theorem d_FP_readHeader_2 : decode b_FP_readHeader 2 = .ok (.iload_n 2, 1) := by decide +kernel
theorem d_FP_readHeader_3 : decode b_FP_readHeader 3 = .ok (.getstatic 107, 3) := by decide +kernel
theorem d_FP_readHeader_6 : decode b_FP_readHeader 6 = .ok (.arraylength, 1) := by decide +kernel
theorem d_FP_readHeader_7 : decode b_FP_readHeader 7 = .ok (.if_icmp .ge 58, 3) := by decide +kernel
theorem d_FP_readHeader_10 : decode b_FP_readHeader 10 = .ok (.aload_n 0, 1) := by decide +kernel
theorem d_FP_readHeader_11 : decode b_FP_readHeader 11 = .ok (.getfield 44, 3) := by decide +kernel
theorem d_FP_readHeader_14 : decode b_FP_readHeader 14 = .ok (.iload_n 2, 1) := by decide +kernel
theorem d_FP_readHeader_15 : decode b_FP_readHeader 15 = .ok (.iadd, 1) := by decide +kernel
theorem d_FP_readHeader_16 : decode b_FP_readHeader 16 = .ok (.aload_n 0, 1) := by decide +kernel
theorem d_FP_readHeader_17 : decode b_FP_readHeader 17 = .ok (.getfield 9, 3) := by decide +kernel
theorem d_FP_readHeader_20 : decode b_FP_readHeader 20 = .ok (.getfield 56, 3) := by decide +kernel
theorem d_FP_readHeader_23 : decode b_FP_readHeader 23 = .ok (.if_icmp .ge 36, 3) := by decide +kernel
theorem d_FP_readHeader_26 : decode b_FP_readHeader 26 = .ok (.aload_n 0, 1) := by decide +kernel
theorem d_FP_readHeader_27 : decode b_FP_readHeader 27 = .ok (.getfield 9, 3) := by decide +kernel
theorem d_FP_readHeader_30 : decode b_FP_readHeader 30 = .ok (.aload_n 0, 1) := by decide +kernel
theorem d_FP_readHeader_31 : decode b_FP_readHeader 31 = .ok (.getfield 44, 3) := by decide +kernel
theorem d_FP_readHeader_34 : decode b_FP_readHeader 34 = .ok (.iload_n 2, 1) := by decide +kernel
theorem d_FP_readHeader_35 : decode b_FP_readHeader 35 = .ok (.iadd, 1) := by decide +kernel
theorem d_FP_readHeader_36 : decode b_FP_readHeader 36 = .ok (.invokevirtual 61, 3) := by decide +kernel
theorem d_FP_readHeader_39 : decode b_FP_readHeader 39 = .ok (.getstatic 107, 3) := by decide +kernel
theorem d_FP_readHeader_42 : decode b_FP_readHeader 42 = .ok (.iload_n 2, 1) := by decide +kernel
theorem d_FP_readHeader_43 : decode b_FP_readHeader 43 = .ok (.iaload, 1) := by decide +kernel
theorem d_FP_readHeader_44 : decode b_FP_readHeader 44 = .ok (.if_icmp .eq 15, 3) := by decide +kernel
theorem d_FP_readHeader_47 : decode b_FP_readHeader 47 = .ok (.aload_n 0, 1) := by decide +kernel
theorem d_FP_readHeader_48 : decode b_FP_readHeader 48 = .ok (.iconst 2, 1) := by decide +kernel
theorem d_FP_readHeader_49 : decode b_FP_readHeader 49 = .ok (.aload_n 0, 1) := by decide +kernel
theorem d_FP_readHeader_50 : decode b_FP_readHeader 50 = .ok (.getfield 44, 3) := by decide +kernel
theorem d_FP_readHeader_53 : decode b_FP_readHeader 53 = .ok (.iload_n 2, 1) := by decide +kernel
theorem d_FP_readHeader_54 : decode b_FP_readHeader 54 = .ok (.iadd, 1) := by decide +kernel
theorem d_FP_readHeader_55 : decode b_FP_readHeader 55 = .ok (.invokevirtual 64, 3) := by decide +kernel
theorem d_FP_readHeader_58 : decode b_FP_readHeader 58 = .ok (.ireturn, 1) := by decide +kernel
theorem d_FP_readHeader_59 : decode b_FP_readHeader 59 = .ok (.iinc 2 1, 3) := by decide +kernel
theorem d_FP_readHeader_62 : decode b_FP_readHeader 62 = .ok (.goto (-60), 3) := by decide +kernel
theorem d_FP_readHeader_65 : decode b_FP_readHeader 65 = .ok (.aload_n 0, 1) := by decide +kernel
theorem d_FP_readHeader_66 : decode b_FP_readHeader 66 = .ok (.getfield 9, 3) := by decide +kernel
theorem d_FP_readHeader_69 : decode b_FP_readHeader 69 = .ok (.aload_n 0, 1) := by decide +kernel
theorem d_FP_readHeader_70 : decode b_FP_readHeader 70 = .ok (.getfield 44, 3) := by decide +kernel
theorem d_FP_readHeader_73 : decode b_FP_readHeader 73 = .ok (.iconst 4, 1) := by decide +kernel
theorem d_FP_readHeader_74 : decode b_FP_readHeader 74 = .ok (.iadd, 1) := by decide +kernel
theorem d_FP_readHeader_75 : decode b_FP_readHeader 75 = .ok (.invokevirtual 61, 3) := by decide +kernel
theorem d_FP_readHeader_78 : decode b_FP_readHeader 78 = .ok (.istore_n 2, 1) := by decide +kernel
theorem d_FP_readHeader_79 : decode b_FP_readHeader 79 = .ok (.aload_n 0, 1) := by decide +kernel
theorem d_FP_readHeader_80 : decode b_FP_readHeader 80 = .ok (.getfield 44, 3) := by decide +kernel
theorem d_FP_readHeader_83 : decode b_FP_readHeader 83 = .ok (.iconst 4, 1) := by decide +kernel
theorem d_FP_readHeader_84 : decode b_FP_readHeader 84 = .ok (.iadd, 1) := by decide +kernel
theorem d_FP_readHeader_85 : decode b_FP_readHeader 85 = .ok (.aload_n 0, 1) := by decide +kernel
theorem d_FP_readHeader_86 : decode b_FP_readHeader 86 = .ok (.getfield 9, 3) := by decide +kernel
theorem d_FP_readHeader_89 : decode b_FP_readHeader 89 = .ok (.getfield 56, 3) := by decide +kernel
theorem d_FP_readHeader_92 : decode b_FP_readHeader 92 = .ok (.if_icmp .ge 24, 3) := by decide +kernel
theorem d_FP_readHeader_95 : decode b_FP_readHeader 95 = .ok (.aload_n 0, 1) := by decide +kernel
theorem d_FP_readHeader_96 : decode b_FP_readHeader 96 = .ok (.iload_n 2, 1) := by decide +kernel
theorem d_FP_readHeader_97 : decode b_FP_readHeader 97 = .ok (.iload_n 1, 1) := by decide +kernel
theorem d_FP_readHeader_98 : decode b_FP_readHeader 98 = .ok (.invokevirtual 110, 3) := by decide +kernel
theorem d_FP_readHeader_101 : decode b_FP_readHeader 101 = .ok (.ifCond .ne 15, 3) := by decide +kernel
theorem d_FP_readHeader_104 : decode b_FP_readHeader 104 = .ok (.aload_n 0, 1) := by decide +kernel
theorem d_FP_readHeader_105 : decode b_FP_readHeader 105 = .ok (.iconst 3, 1) := by decide +kernel
theorem d_FP_readHeader_106 : decode b_FP_readHeader 106 = .ok (.aload_n 0, 1) := by decide +kernel
theorem d_FP_readHeader_107 : decode b_FP_readHeader 107 = .ok (.getfield 44, 3) := by decide +kernel
theorem d_FP_readHeader_110 : decode b_FP_readHeader 110 = .ok (.iconst 4, 1) := by decide +kernel
theorem d_FP_readHeader_111 : decode b_FP_readHeader 111 = .ok (.iadd, 1) := by decide +kernel
theorem d_FP_readHeader_112 : decode b_FP_readHeader 112 = .ok (.invokevirtual 64, 3) := by decide +kernel
theorem d_FP_readHeader_115 : decode b_FP_readHeader 115 = .ok (.ireturn, 1) := by decide +kernel
theorem d_FP_readHeader_116 : decode b_FP_readHeader 116 = .ok (.aload_n 0, 1) := by decide +kernel
theorem d_FP_readHeader_117 : decode b_FP_readHeader 117 = .ok (.bipush 44, 2) := by decide +kernel
theorem d_FP_readHeader_119 : decode b_FP_readHeader 119 = .ok (.invokevirtual 41, 3) := by decide +kernel
theorem d_FP_readHeader_122 : decode b_FP_readHeader 122 = .ok (.ifCond .ne 5, 3) := by decide +kernel
theorem d_FP_readHeader_125 : decode b_FP_readHeader 125 = .ok (.iconst 0, 1) := by decide +kernel
theorem d_FP_readHeader_126 : decode b_FP_readHeader 126 = .ok (.ireturn, 1) := by decide +kernel
theorem d_FP_readHeader_127 : decode b_FP_readHeader 127 = .ok (.aload_n 0, 1) := by decide +kernel
theorem d_FP_readHeader_128 : decode b_FP_readHeader 128 = .ok (.getfield 15, 3) := by decide +kernel
theorem d_FP_readHeader_131 : decode b_FP_readHeader 131 = .ok (.iload_n 2, 1) := by decide +kernel
theorem d_FP_readHeader_132 : decode b_FP_readHeader 132 = .ok (.putfield 27, 3) := by decide +kernel
theorem d_FP_readHeader_135 : decode b_FP_readHeader 135 = .ok (.iconst 0, 1) := by decide +kernel
theorem d_FP_readHeader_136 : decode b_FP_readHeader 136 = .ok (.istore_n 3, 1) := by decide +kernel
theorem d_FP_readHeader_137 : decode b_FP_readHeader 137 = .ok (.iload_n 3, 1) := by decide +kernel
theorem d_FP_readHeader_138 : decode b_FP_readHeader 138 = .ok (.aload_n 0, 1) := by decide +kernel
theorem d_FP_readHeader_139 : decode b_FP_readHeader 139 = .ok (.getfield 19, 3) := by decide +kernel
theorem d_FP_readHeader_142 : decode b_FP_readHeader 142 = .ok (.arraylength, 1) := by decide +kernel
theorem d_FP_readHeader_143 : decode b_FP_readHeader 143 = .ok (.if_icmp .ge 33, 3) := by decide +kernel
theorem d_FP_readHeader_146 : decode b_FP_readHeader 146 = .ok (.aload_n 0, 1) := by decide +kernel
theorem d_FP_readHeader_147 : decode b_FP_readHeader 147 = .ok (.getfield 19, 3) := by decide +kernel
theorem d_FP_readHeader_150 : decode b_FP_readHeader 150 = .ok (.iload_n 3, 1) := by decide +kernel
theorem d_FP_readHeader_151 : decode b_FP_readHeader 151 = .ok (.aload_n 0, 1) := by decide +kernel
theorem d_FP_readHeader_152 : decode b_FP_readHeader 152 = .ok (.getfield 9, 3) := by decide +kernel
theorem d_FP_readHeader_155 : decode b_FP_readHeader 155 = .ok (.aload_n 0, 1) := by decide +kernel
theorem d_FP_readHeader_156 : decode b_FP_readHeader 156 = .ok (.getfield 44, 3) := by decide +kernel
theorem d_FP_readHeader_159 : decode b_FP_readHeader 159 = .ok (.bipush 20, 2) := by decide +kernel
theorem d_FP_readHeader_161 : decode b_FP_readHeader 161 = .ok (.iadd, 1) := by decide +kernel
theorem d_FP_readHeader_162 : decode b_FP_readHeader 162 = .ok (.iconst 4, 1) := by decide +kernel
theorem d_FP_readHeader_163 : decode b_FP_readHeader 163 = .ok (.iload_n 3, 1) := by decide +kernel
theorem d_FP_readHeader_164 : decode b_FP_readHeader 164 = .ok (.imul, 1) := by decide +kernel
theorem d_FP_readHeader_165 : decode b_FP_readHeader 165 = .ok (.iadd, 1) := by decide +kernel
theorem d_FP_readHeader_166 : decode b_FP_readHeader 166 = .ok (.invokevirtual 114, 3) := by decide +kernel
theorem d_FP_readHeader_169 : decode b_FP_readHeader 169 = .ok (.lastore, 1) := by decide +kernel
theorem d_FP_readHeader_170 : decode b_FP_readHeader 170 = .ok (.iinc 3 1, 3) := by decide +kernel
theorem d_FP_readHeader_173 : decode b_FP_readHeader 173 = .ok (.goto (-36), 3) := by decide +kernel
theorem d_FP_readHeader_176 : decode b_FP_readHeader 176 = .ok (.iconst 0, 1) := by decide +kernel
theorem d_FP_readHeader_177 : decode b_FP_readHeader 177 = .ok (.istore_n 3, 1) := by decide +kernel
theorem d_FP_readHeader_178 : decode b_FP_readHeader 178 = .ok (.iload_n 3, 1) := by decide +kernel
theorem d_FP_readHeader_179 : decode b_FP_readHeader 179 = .ok (.aload_n 0, 1) := by decide +kernel
theorem d_FP_readHeader_180 : decode b_FP_readHeader 180 = .ok (.getfield 19, 3) := by decide +kernel
theorem d_FP_readHeader_183 : decode b_FP_readHeader 183 = .ok (.arraylength, 1) := by decide +kernel
theorem d_FP_readHeader_184 : decode b_FP_readHeader 184 = .ok (.if_icmp .ge 40, 3) := by decide +kernel
theorem d_FP_readHeader_187 : decode b_FP_readHeader 187 = .ok (.aload_n 0, 1) := by decide +kernel
theorem d_FP_readHeader_188 : decode b_FP_readHeader 188 = .ok (.iload_n 3, 1) := by decide +kernel
theorem d_FP_readHeader_189 : decode b_FP_readHeader 189 = .ok (.aload_n 0, 1) := by decide +kernel
theorem d_FP_readHeader_190 : decode b_FP_readHeader 190 = .ok (.getfield 19, 3) := by decide +kernel
theorem d_FP_readHeader_193 : decode b_FP_readHeader 193 = .ok (.iload_n 3, 1) := by decide +kernel
theorem d_FP_readHeader_194 : decode b_FP_readHeader 194 = .ok (.laload, 1) := by decide +kernel
theorem d_FP_readHeader_195 : decode b_FP_readHeader 195 = .ok (.invokevirtual 118, 3) := by decide +kernel
theorem d_FP_readHeader_198 : decode b_FP_readHeader 198 = .ok (.ifCond .ne 20, 3) := by decide +kernel
theorem d_FP_readHeader_201 : decode b_FP_readHeader 201 = .ok (.aload_n 0, 1) := by decide +kernel
theorem d_FP_readHeader_202 : decode b_FP_readHeader 202 = .ok (.iconst 4, 1) := by decide +kernel
theorem d_FP_readHeader_203 : decode b_FP_readHeader 203 = .ok (.aload_n 0, 1) := by decide +kernel
theorem d_FP_readHeader_204 : decode b_FP_readHeader 204 = .ok (.getfield 44, 3) := by decide +kernel
theorem d_FP_readHeader_207 : decode b_FP_readHeader 207 = .ok (.bipush 20, 2) := by decide +kernel
theorem d_FP_readHeader_209 : decode b_FP_readHeader 209 = .ok (.iadd, 1) := by decide +kernel
theorem d_FP_readHeader_210 : decode b_FP_readHeader 210 = .ok (.iconst 4, 1) := by decide +kernel
theorem d_FP_readHeader_211 : decode b_FP_readHeader 211 = .ok (.iload_n 3, 1) := by decide +kernel
theorem d_FP_readHeader_212 : decode b_FP_readHeader 212 = .ok (.imul, 1) := by decide +kernel
theorem d_FP_readHeader_213 : decode b_FP_readHeader 213 = .ok (.iadd, 1) := by decide +kernel
theorem d_FP_readHeader_214 : decode b_FP_readHeader 214 = .ok (.invokevirtual 64, 3) := by decide +kernel
theorem d_FP_readHeader_217 : decode b_FP_readHeader 217 = .ok (.ireturn, 1) := by decide +kernel
theorem d_FP_readHeader_218 : decode b_FP_readHeader 218 = .ok (.iinc 3 1, 3) := by decide +kernel
theorem d_FP_readHeader_221 : decode b_FP_readHeader 221 = .ok (.goto (-43), 3) := by decide +kernel
theorem d_FP_readHeader_224 : decode b_FP_readHeader 224 = .ok (.aload_n 0, 1) := by decide +kernel
theorem d_FP_readHeader_225 : decode b_FP_readHeader 225 = .ok (.dup, 1) := by decide +kernel
theorem d_FP_readHeader_226 : decode b_FP_readHeader 226 = .ok (.getfield 44, 3) := by decide +kernel
theorem d_FP_readHeader_229 : decode b_FP_readHeader 229 = .ok (.bipush 44, 2) := by decide +kernel
theorem d_FP_readHeader_231 : decode b_FP_readHeader 231 = .ok (.iadd, 1) := by decide +kernel
theorem d_FP_readHeader_232 : decode b_FP_readHeader 232 = .ok (.putfield 44, 3) := by decide +kernel
theorem d_FP_readHeader_235 : decode b_FP_readHeader 235 = .ok (.iconst 1, 1) := by decide +kernel
theorem d_FP_readHeader_236 : decode b_FP_readHeader 236 = .ok (.ireturn, 1) := by decide +kernel
abbrev b_FP_readTimes : ByteArray := prog_6_method_12_code
def y_FP_readTimes : MethodName := ⟨"ZoneFiles$FileParser", "readTimes", "(I)Z"⟩
theorem d_FP_readTimes_0 : decode b_FP_readTimes 0 = .ok (.aload_n 0, 1) := by decide +kernel
theorem d_FP_readTimes_1 : decode b_FP_readTimes 1 = .ok (.iload_n 1, 1) := by decide +kernel
theorem d_FP_readTimes_2 : decode b_FP_readTimes 2 = .ok (.aload_n 0, 1) := by decide +kernel
theorem d_FP_readTimes_3 : decode b_FP_readTimes 3 = .ok (.getfield 15, 3) := by decide +kernel
theorem d_FP_readTimes_6 : decode b_FP_readTimes 6 = .ok (.getfield 81, 3) := by decide +kernel
theorem d_FP_readTimes_9 : decode b_FP_readTimes 9 = .ok (.imul, 1) := by decide +kernel
theorem d_FP_readTimes_10 : decode b_FP_readTimes 10 = .ok (.invokevirtual 41, 3) := by decide +kernel
theorem d_FP_readTimes_13 : decode b_FP_readTimes 13 = .ok (.ifCond .ne 5, 3) := by decide +kernel
theorem d_FP_readTimes_16 : decode b_FP_readTimes 16 = .ok (.iconst 0, 1) := by decide +kernel
theorem d_FP_readTimes_17 : decode b_FP_readTimes 17 = .ok (.ireturn, 1) := by decide +kernel
theorem d_FP_readTimes_18 : decode b_FP_readTimes 18 = .ok (.iconst 0, 1) := by decide +kernel
theorem d_FP_readTimes_19 : decode b_FP_readTimes 19 = .ok (.istore_n 2, 1) := by decide +kernel
theorem d_FP_readTimes_20 : decode b_FP_readTimes 20 = .ok (.iload_n 2, 1) := by decide +kernel
theorem d_FP_readTimes_21 : decode b_FP_readTimes 21 = .ok (.aload_n 0, 1) := by decide +kernel
theorem d_FP_readTimes_22 : decode b_FP_readTimes 22 = .ok (.getfield 15, 3) := by decide +kernel
theorem d_FP_readTimes_25 : decode b_FP_readTimes 25 = .ok (.getfield 81, 3) := by decide +kernel
theorem d_FP_readTimes_28 : decode b_FP_readTimes 28 = .ok (.if_icmp .ge 79, 3) := by decide +kernel
theorem d_FP_readTimes_31 : decode b_FP_readTimes 31 = .ok (.aload_n 0, 1) := by decide +kernel
theorem d_FP_readTimes_32 : decode b_FP_readTimes 32 = .ok (.getfield 9, 3) := by decide +kernel
theorem d_FP_readTimes_35 : decode b_FP_readTimes 35 = .ok (.aload_n 0, 1) := by decide +kernel
theorem d_FP_readTimes_36 : decode b_FP_readTimes 36 = .ok (.getfield 44, 3) := by decide +kernel
theorem d_FP_readTimes_39 : decode b_FP_readTimes 39 = .ok (.iload_n 1, 1) := by decide +kernel
theorem d_FP_readTimes_40 : decode b_FP_readTimes 40 = .ok (.invokevirtual 159, 3) := by decide +kernel
theorem d_FP_readTimes_43 : decode b_FP_readTimes 43 = .ok (.lstore_n 3, 1) := by decide +kernel
theorem d_FP_readTimes_44 : decode b_FP_readTimes 44 = .ok (.lload_n 3, 1) := by decide +kernel
theorem d_FP_readTimes_45 : decode b_FP_readTimes 45 = .ok (.invokestatic 163, 3) := by decide +kernel
theorem d_FP_readTimes_48 : decode b_FP_readTimes 48 = .ok (.ifCond .eq 23, 3) := by decide +kernel
theorem d_FP_readTimes_51 : decode b_FP_readTimes 51 = .ok (.iload_n 2, 1) := by decide +kernel
theorem d_FP_readTimes_52 : decode b_FP_readTimes 52 = .ok (.ifCond .le 29, 3) := by decide +kernel
theorem d_FP_readTimes_55 : decode b_FP_readTimes 55 = .ok (.lload_n 3, 1) := by decide +kernel
theorem d_FP_readTimes_56 : decode b_FP_readTimes 56 = .ok (.aload_n 0, 1) := by decide +kernel
theorem d_FP_readTimes_57 : decode b_FP_readTimes 57 = .ok (.getfield 15, 3) := by decide +kernel
theorem d_FP_readTimes_60 : decode b_FP_readTimes 60 = .ok (.getfield 87, 3) := by decide +kernel
theorem d_FP_readTimes_63 : decode b_FP_readTimes 63 = .ok (.iload_n 2, 1) := by decide +kernel
theorem d_FP_readTimes_64 : decode b_FP_readTimes 64 = .ok (.iconst 1, 1) := by decide +kernel
theorem d_FP_readTimes_65 : decode b_FP_readTimes 65 = .ok (.isub, 1) := by decide +kernel
theorem d_FP_readTimes_66 : decode b_FP_readTimes 66 = .ok (.laload, 1) := by decide +kernel
theorem d_FP_readTimes_67 : decode b_FP_readTimes 67 = .ok (.lcmp, 1) := by decide +kernel
theorem d_FP_readTimes_68 : decode b_FP_readTimes 68 = .ok (.ifCond .gt 13, 3) := by decide +kernel
theorem d_FP_readTimes_71 : decode b_FP_readTimes 71 = .ok (.aload_n 0, 1) := by decide +kernel
theorem d_FP_readTimes_72 : decode b_FP_readTimes 72 = .ok (.iconst 5, 1) := by decide +kernel
theorem d_FP_readTimes_73 : decode b_FP_readTimes 73 = .ok (.aload_n 0, 1) := by decide +kernel
theorem d_FP_readTimes_74 : decode b_FP_readTimes 74 = .ok (.getfield 44, 3) := by decide +kernel
theorem d_FP_readTimes_77 : decode b_FP_readTimes 77 = .ok (.invokevirtual 64, 3) := by decide +kernel
theorem d_FP_readTimes_80 : decode b_FP_readTimes 80 = .ok (.ireturn, 1) := by decide +kernel
theorem d_FP_readTimes_81 : decode b_FP_readTimes 81 = .ok (.aload_n 0, 1) := by decide +kernel
theorem d_FP_readTimes_82 : decode b_FP_readTimes 82 = .ok (.getfield 15, 3) := by decide +kernel
theorem d_FP_readTimes_85 : decode b_FP_readTimes 85 = .ok (.getfield 87, 3) := by decide +kernel
theorem d_FP_readTimes_88 : decode b_FP_readTimes 88 = .ok (.iload_n 2, 1) := by decide +kernel
theorem d_FP_readTimes_89 : decode b_FP_readTimes 89 = .ok (.lload_n 3, 1) := by decide +kernel
theorem d_FP_readTimes_90 : decode b_FP_readTimes 90 = .ok (.lastore, 1) := by decide +kernel
theorem d_FP_readTimes_91 : decode b_FP_readTimes 91 = .ok (.aload_n 0, 1) := by decide +kernel
theorem d_FP_readTimes_92 : decode b_FP_readTimes 92 = .ok (.dup, 1) := by decide +kernel
theorem d_FP_readTimes_93 : decode b_FP_readTimes 93 = .ok (.getfield 44, 3) := by decide +kernel
theorem d_FP_readTimes_96 : decode b_FP_readTimes 96 = .ok (.iload_n 1, 1) := by decide +kernel
theorem d_FP_readTimes_97 : decode b_FP_readTimes 97 = .ok (.iadd, 1) := by decide +kernel
theorem d_FP_readTimes_98 : decode b_FP_readTimes 98 = .ok (.putfield 44, 3) := by decide +kernel
theorem d_FP_readTimes_101 : decode b_FP_readTimes 101 = .ok (.iinc 2 1, 3) := by decide +kernel
theorem d_FP_readTimes_104 : decode b_FP_readTimes 104 = .ok (.goto (-84), 3) := by decide +kernel
theorem d_FP_readTimes_107 : decode b_FP_readTimes 107 = .ok (.iconst 1, 1) := by decide +kernel
theorem d_FP_readTimes_108 : decode b_FP_readTimes 108 = .ok (.ireturn, 1) := by decide +kernel
abbrev b_FP_readTimeTypes : ByteArray := prog_6_method_13_code
def y_FP_readTimeTypes : MethodName := ⟨"ZoneFiles$FileParser", "readTimeTypes", "()Z"⟩
theorem d_FP_readTimeTypes_0 : decode b_FP_readTimeTypes 0 = .ok (.aload_n 0, 1) := by decide +kernel
theorem d_FP_readTimeTypes_1 : decode b_FP_readTimeTypes 1 = .ok (.aload_n 0, 1) := by decide +kernel
theorem d_FP_readTimeTypes_2 : decode b_FP_readTimeTypes 2 = .ok (.getfield 15, 3) := by decide +kernel
theorem d_FP_readTimeTypes_5 : decode b_FP_readTimeTypes 5 = .ok (.getfield 81, 3) := by decide +kernel
theorem d_FP_readTimeTypes_8 : decode b_FP_readTimeTypes 8 = .ok (.invokevirtual 41, 3) := by decide +kernel
theorem d_FP_readTimeTypes_11 : decode b_FP_readTimeTypes 11 = .ok (.ifCond .ne 5, 3) := by decide +kernel
theorem d_FP_readTimeTypes_14 : decode b_FP_readTimeTypes 14 = .ok (.iconst 0, 1) := by decide +kernel
theorem d_FP_readTimeTypes_15 : decode b_FP_readTimeTypes 15 = .ok (.ireturn, 1) := by decide +kernel
theorem d_FP_readTimeTypes_16 : decode b_FP_readTimeTypes 16 = .ok (.iconst 0, 1) := by decide +kernel
theorem d_FP_readTimeTypes_17 : decode b_FP_readTimeTypes 17 = .ok (.istore_n 1, 1) := by decide +kernel
theorem d_FP_readTimeTypes_18 : decode b_FP_readTimeTypes 18 = .ok (.iload_n 1, 1) := by decide +kernel
theorem d_FP_readTimeTypes_19 : decode b_FP_readTimeTypes 19 = .ok (.aload_n 0, 1) := by decide +kernel
theorem d_FP_readTimeTypes_20 : decode b_FP_readTimeTypes 20 = .ok (.getfield 15, 3) := by decide +kernel
theorem d_FP_readTimeTypes_23 : decode b_FP_readTimeTypes 23 = .ok (.getfield 81, 3) := by decide +kernel
theorem d_FP_readTimeTypes_26 : decode b_FP_readTimeTypes 26 = .ok (.if_icmp .ge 63, 3) := by decide +kernel
theorem d_FP_readTimeTypes_29 : decode b_FP_readTimeTypes 29 = .ok (.aload_n 0, 1) := by decide +kernel
theorem d_FP_readTimeTypes_30 : decode b_FP_readTimeTypes 30 = .ok (.getfield 9, 3) := by decide +kernel
theorem d_FP_readTimeTypes_33 : decode b_FP_readTimeTypes 33 = .ok (.aload_n 0, 1) := by decide +kernel
theorem d_FP_readTimeTypes_34 : decode b_FP_readTimeTypes 34 = .ok (.getfield 44, 3) := by decide +kernel
theorem d_FP_readTimeTypes_37 : decode b_FP_readTimeTypes 37 = .ok (.invokevirtual 61, 3) := by decide +kernel
theorem d_FP_readTimeTypes_40 : decode b_FP_readTimeTypes 40 = .ok (.istore_n 2, 1) := by decide +kernel
theorem d_FP_readTimeTypes_41 : decode b_FP_readTimeTypes 41 = .ok (.iload_n 2, 1) := by decide +kernel
theorem d_FP_readTimeTypes_42 : decode b_FP_readTimeTypes 42 = .ok (.aload_n 0, 1) := by decide +kernel
theorem d_FP_readTimeTypes_43 : decode b_FP_readTimeTypes 43 = .ok (.getfield 15, 3) := by decide +kernel
theorem d_FP_readTimeTypes_46 : decode b_FP_readTimeTypes 46 = .ok (.getfield 126, 3) := by decide +kernel
theorem d_FP_readTimeTypes_49 : decode b_FP_readTimeTypes 49 = .ok (.if_icmp .lt 14, 3) := by decide +kernel
theorem d_FP_readTimeTypes_52 : decode b_FP_readTimeTypes 52 = .ok (.aload_n 0, 1) := by decide +kernel
theorem d_FP_readTimeTypes_53 : decode b_FP_readTimeTypes 53 = .ok (.bipush 6, 2) := by decide +kernel
theorem d_FP_readTimeTypes_55 : decode b_FP_readTimeTypes 55 = .ok (.aload_n 0, 1) := by decide +kernel
theorem d_FP_readTimeTypes_56 : decode b_FP_readTimeTypes 56 = .ok (.getfield 44, 3) := by decide +kernel
theorem d_FP_readTimeTypes_59 : decode b_FP_readTimeTypes 59 = .ok (.invokevirtual 64, 3) := by decide +kernel
theorem d_FP_readTimeTypes_62 : decode b_FP_readTimeTypes 62 = .ok (.ireturn, 1) := by decide +kernel
theorem d_FP_readTimeTypes_63 : decode b_FP_readTimeTypes 63 = .ok (.aload_n 0, 1) := by decide +kernel
theorem d_FP_readTimeTypes_64 : decode b_FP_readTimeTypes 64 = .ok (.getfield 15, 3) := by decide +kernel
theorem d_FP_readTimeTypes_67 : decode b_FP_readTimeTypes 67 = .ok (.getfield 94, 3) := by decide +kernel
theorem d_FP_readTimeTypes_70 : decode b_FP_readTimeTypes 70 = .ok (.iload_n 1, 1) := by decide +kernel
theorem d_FP_readTimeTypes_71 : decode b_FP_readTimeTypes 71 = .ok (.iload_n 2, 1) := by decide +kernel
theorem d_FP_readTimeTypes_72 : decode b_FP_readTimeTypes 72 = .ok (.iastore, 1) := by decide +kernel
theorem d_FP_readTimeTypes_73 : decode b_FP_readTimeTypes 73 = .ok (.aload_n 0, 1) := by decide +kernel
theorem d_FP_readTimeTypes_74 : decode b_FP_readTimeTypes 74 = .ok (.dup, 1) := by decide +kernel
theorem d_FP_readTimeTypes_75 : decode b_FP_readTimeTypes 75 = .ok (.getfield 44, 3) := by decide +kernel
theorem d_FP_readTimeTypes_78 : decode b_FP_readTimeTypes 78 = .ok (.iconst 1, 1) := by decide +kernel
theorem d_FP_readTimeTypes_79 : decode b_FP_readTimeTypes 79 = .ok (.iadd, 1) := by decide +kernel
theorem d_FP_readTimeTypes_80 : decode b_FP_readTimeTypes 80 = .ok (.putfield 44, 3) := by decide +kernel
theorem d_FP_readTimeTypes_83 : decode b_FP_readTimeTypes 83 = .ok (.iinc 1 1, 3) := by decide +kernel
theorem d_FP_readTimeTypes_86 : decode b_FP_readTimeTypes 86 = .ok (.goto (-68), 3) := by decide +kernel
theorem d_FP_readTimeTypes_89 : decode b_FP_readTimeTypes 89 = .ok (.iconst 1, 1) := by decide +kernel
theorem d_FP_readTimeTypes_90 : decode b_FP_readTimeTypes 90 = .ok (.ireturn, 1) := by decide +kernel
abbrev b_FP_readTypes : ByteArray := prog_6_method_14_code
def y_FP_readTypes : MethodName := ⟨"ZoneFiles$FileParser", "readTypes", "()Z"⟩
theorem d_FP_readTypes_0 : decode b_FP_readTypes 0 = .ok (.aload_n 0, 1) := by decide +kernel
theorem d_FP_readTypes_1 : decode b_FP_readTypes 1 = .ok (.bipush 6, 2) := by decide +kernel
theorem d_FP_readTypes_3 : decode b_FP_readTypes 3 = .ok (.aload_n 0, 1) := by decide +kernel
theorem d_FP_readTypes_4 : decode b_FP_readTypes 4 = .ok (.getfield 15, 3) := by decide +kernel
theorem d_FP_readTypes_7 : decode b_FP_readTypes 7 = .ok (.getfield 126, 3) := by decide +kernel
theorem d_FP_readTypes_10 : decode b_FP_readTypes 10 = .ok (.imul, 1) := by decide +kernel
theorem d_FP_readTypes_11 : decode b_FP_readTypes 11 = .ok (.invokevirtual 41, 3) := by decide +kernel
theorem d_FP_readTypes_14 : decode b_FP_readTypes 14 = .ok (.ifCond .ne 5, 3) := by decide +kernel
theorem d_FP_readTypes_17 : decode b_FP_readTypes 17 = .ok (.iconst 0, 1) := by decide +kernel
theorem d_FP_readTypes_18 : decode b_FP_readTypes 18 = .ok (.ireturn, 1) := by decide +kernel
theorem d_FP_readTypes_19 : decode b_FP_readTypes 19 = .ok (.iconst 0, 1) := by decide +kernel
theorem d_FP_readTypes_20 : decode b_FP_readTypes 20 = .ok (.istore_n 1, 1) := by decide +kernel
theorem d_FP_readTypes_21 : decode b_FP_readTypes 21 = .ok (.iload_n 1, 1) := by decide +kernel
theorem d_FP_readTypes_22 : decode b_FP_readTypes 22 = .ok (.aload_n 0, 1) := by decide +kernel
theorem d_FP_readTypes_23 : decode b_FP_readTypes 23 = .ok (.getfield 15, 3) := by decide +kernel
theorem d_FP_readTypes_26 : decode b_FP_readTypes 26 = .ok (.getfield 126, 3) := by decide +kernel
theorem d_FP_readTypes_29 : decode b_FP_readTypes 29 = .ok (.if_icmp .ge 158, 3) := by decide +kernel
theorem d_FP_readTypes_32 : decode b_FP_readTypes 32 = .ok (.aload_n 0, 1) := by decide +kernel
theorem d_FP_readTypes_33 : decode b_FP_readTypes 33 = .ok (.getfield 9, 3) := by decide +kernel
theorem d_FP_readTypes_36 : decode b_FP_readTypes 36 = .ok (.aload_n 0, 1) := by decide +kernel
theorem d_FP_readTypes_37 : decode b_FP_readTypes 37 = .ok (.getfield 44, 3) := by decide +kernel
theorem d_FP_readTypes_40 : decode b_FP_readTypes 40 = .ok (.iconst 4, 1) := by decide +kernel
theorem d_FP_readTypes_41 : decode b_FP_readTypes 41 = .ok (.invokevirtual 159, 3) := by decide +kernel
theorem d_FP_readTypes_44 : decode b_FP_readTypes 44 = .ok (.l2i, 1) := by decide +kernel
theorem d_FP_readTypes_45 : decode b_FP_readTypes 45 = .ok (.istore_n 2, 1) := by decide +kernel
theorem d_FP_readTypes_46 : decode b_FP_readTypes 46 = .ok (.iload_n 2, 1) := by decide +kernel
theorem d_FP_readTypes_47 : decode b_FP_readTypes 47 = .ok (.ldc 167, 2) := by decide +kernel
theorem d_FP_readTypes_49 : decode b_FP_readTypes 49 = .ok (.if_icmp .lt 9, 3) := by decide +kernel
theorem d_FP_readTypes_52 : decode b_FP_readTypes 52 = .ok (.iload_n 2, 1) := by decide +kernel
theorem d_FP_readTypes_53 : decode b_FP_readTypes 53 = .ok (.ldc 168, 2) := by decide +kernel
theorem d_FP_readTypes_55 : decode b_FP_readTypes 55 = .ok (.if_icmp .le 14, 3) := by decide +kernel
theorem d_FP_readTypes_58 : decode b_FP_readTypes 58 = .ok (.aload_n 0, 1) := by decide +kernel
theorem d_FP_readTypes_59 : decode b_FP_readTypes 59 = .ok (.bipush 7, 2) := by decide +kernel
theorem d_FP_readTypes_61 : decode b_FP_readTypes 61 = .ok (.aload_n 0, 1) := by decide +kernel
theorem d_FP_readTypes_62 : decode b_FP_readTypes 62 = .ok (.getfield 44, 3) := by decide +kernel
theorem d_FP_readTypes_65 : decode b_FP_readTypes 65 = .ok (.invokevirtual 64, 3) := by decide +kernel
theorem d_FP_readTypes_68 : decode b_FP_readTypes 68 = .ok (.ireturn, 1) := by decide +kernel
theorem d_FP_readTypes_69 : decode b_FP_readTypes 69 = .ok (.aload_n 0, 1) := by decide +kernel
theorem d_FP_readTypes_70 : decode b_FP_readTypes 70 = .ok (.getfield 9, 3) := by decide +kernel
theorem d_FP_readTypes_73 : decode b_FP_readTypes 73 = .ok (.aload_n 0, 1) := by decide +kernel
theorem d_FP_readTypes_74 : decode b_FP_readTypes 74 = .ok (.getfield 44, 3) := by decide +kernel
theorem d_FP_readTypes_77 : decode b_FP_readTypes 77 = .ok (.iconst 4, 1) := by decide +kernel
theorem d_FP_readTypes_78 : decode b_FP_readTypes 78 = .ok (.iadd, 1) := by decide +kernel
theorem d_FP_readTypes_79 : decode b_FP_readTypes 79 = .ok (.invokevirtual 61, 3) := by decide +kernel
theorem d_FP_readTypes_82 : decode b_FP_readTypes 82 = .ok (.istore_n 3, 1) := by decide +kernel
theorem d_FP_readTypes_83 : decode b_FP_readTypes 83 = .ok (.iload_n 3, 1) := by decide +kernel
theorem d_FP_readTypes_84 : decode b_FP_readTypes 84 = .ok (.iconst 1, 1) := by decide +kernel
theorem d_FP_readTypes_85 : decode b_FP_readTypes 85 = .ok (.if_icmp .le 16, 3) := by decide +kernel
theorem d_FP_readTypes_88 : decode b_FP_readTypes 88 = .ok (.aload_n 0, 1) := by decide +kernel
theorem d_FP_readTypes_89 : decode b_FP_readTypes 89 = .ok (.bipush 8, 2) := by decide +kernel
theorem d_FP_readTypes_91 : decode b_FP_readTypes 91 = .ok (.aload_n 0, 1) := by decide +kernel
theorem d_FP_readTypes_92 : decode b_FP_readTypes 92 = .ok (.getfield 44, 3) := by decide +kernel
theorem d_FP_readTypes_95 : decode b_FP_readTypes 95 = .ok (.iconst 4, 1) := by decide +kernel
theorem d_FP_readTypes_96 : decode b_FP_readTypes 96 = .ok (.iadd, 1) := by decide +kernel
theorem d_FP_readTypes_97 : decode b_FP_readTypes 97 = .ok (.invokevirtual 64, 3) := by decide +kernel
theorem d_FP_readTypes_100 : decode b_FP_readTypes 100 = .ok (.ireturn, 1) := by decide +kernel
theorem d_FP_readTypes_101 : decode b_FP_readTypes 101 = .ok (.aload_n 0, 1) := by decide +kernel
theorem d_FP_readTypes_102 : decode b_FP_readTypes 102 = .ok (.getfield 9, 3) := by decide +kernel
theorem d_FP_readTypes_105 : decode b_FP_readTypes 105 = .ok (.aload_n 0, 1) := by decide +kernel
theorem d_FP_readTypes_106 : decode b_FP_readTypes 106 = .ok (.getfield 44, 3) := by decide +kernel
theorem d_FP_readTypes_109 : decode b_FP_readTypes 109 = .ok (.iconst 5, 1) := by decide +kernel
theorem d_FP_readTypes_110 : decode b_FP_readTypes 110 = .ok (.iadd, 1) := by decide +kernel
theorem d_FP_readTypes_111 : decode b_FP_readTypes 111 = .ok (.invokevirtual 61, 3) := by decide +kernel
theorem d_FP_readTypes_114 : decode b_FP_readTypes 114 = .ok (.istore 4, 2) := by decide +kernel
theorem d_FP_readTypes_116 : decode b_FP_readTypes 116 = .ok (.iload 4, 2) := by decide +kernel
theorem d_FP_readTypes_118 : decode b_FP_readTypes 118 = .ok (.aload_n 0, 1) := by decide +kernel
theorem d_FP_readTypes_119 : decode b_FP_readTypes 119 = .ok (.iconst 5, 1) := by decide +kernel
theorem d_FP_readTypes_120 : decode b_FP_readTypes 120 = .ok (.invokevirtual 37, 3) := by decide +kernel
theorem d_FP_readTypes_123 : decode b_FP_readTypes 123 = .ok (.if_icmp .lt 16, 3) := by decide +kernel
theorem d_FP_readTypes_126 : decode b_FP_readTypes 126 = .ok (.aload_n 0, 1) := by decide +kernel
theorem d_FP_readTypes_127 : decode b_FP_readTypes 127 = .ok (.bipush 9, 2) := by decide +kernel
theorem d_FP_readTypes_129 : decode b_FP_readTypes 129 = .ok (.aload_n 0, 1) := by decide +kernel
theorem d_FP_readTypes_130 : decode b_FP_readTypes 130 = .ok (.getfield 44, 3) := by decide +kernel
theorem d_FP_readTypes_133 : decode b_FP_readTypes 133 = .ok (.iconst 5, 1) := by decide +kernel
theorem d_FP_readTypes_134 : decode b_FP_readTypes 134 = .ok (.iadd, 1) := by decide +kernel
theorem d_FP_readTypes_135 : decode b_FP_readTypes 135 = .ok (.invokevirtual 64, 3) := by decide +kernel
theorem d_FP_readTypes_138 : decode b_FP_readTypes 138 = .ok (.ireturn, 1) := by decide +kernel
theorem d_FP_readTypes_139 : decode b_FP_readTypes 139 = .ok (.aload_n 0, 1) := by decide +kernel
theorem d_FP_readTypes_140 : decode b_FP_readTypes 140 = .ok (.getfield 15, 3) := by decide +kernel
theorem d_FP_readTypes_143 : decode b_FP_readTypes 143 = .ok (.getfield 169, 3) := by decide +kernel
theorem d_FP_readTypes_146 : decode b_FP_readTypes 146 = .ok (.iload_n 1, 1) := by decide +kernel
theorem d_FP_readTypes_147 : decode b_FP_readTypes 147 = .ok (.iload_n 2, 1) := by decide +kernel
theorem d_FP_readTypes_148 : decode b_FP_readTypes 148 = .ok (.iastore, 1) := by decide +kernel
theorem d_FP_readTypes_149 : decode b_FP_readTypes 149 = .ok (.aload_n 0, 1) := by decide +kernel
theorem d_FP_readTypes_150 : decode b_FP_readTypes 150 = .ok (.getfield 15, 3) := by decide +kernel
theorem d_FP_readTypes_153 : decode b_FP_readTypes 153 = .ok (.getfield 172, 3) := by decide +kernel
theorem d_FP_readTypes_156 : decode b_FP_readTypes 156 = .ok (.iload_n 1, 1) := by decide +kernel
theorem d_FP_readTypes_157 : decode b_FP_readTypes 157 = .ok (.iload_n 3, 1) := by decide +kernel
theorem d_FP_readTypes_158 : decode b_FP_readTypes 158 = .ok (.iastore, 1) := by decide +kernel
theorem d_FP_readTypes_159 : decode b_FP_readTypes 159 = .ok (.aload_n 0, 1) := by decide +kernel
theorem d_FP_readTypes_160 : decode b_FP_readTypes 160 = .ok (.getfield 15, 3) := by decide +kernel
theorem d_FP_readTypes_163 : decode b_FP_readTypes 163 = .ok (.getfield 175, 3) := by decide +kernel
theorem d_FP_readTypes_166 : decode b_FP_readTypes 166 = .ok (.iload_n 1, 1) := by decide +kernel
theorem d_FP_readTypes_167 : decode b_FP_readTypes 167 = .ok (.iload 4, 2) := by decide +kernel
theorem d_FP_readTypes_169 : decode b_FP_readTypes 169 = .ok (.iastore, 1) := by decide +kernel
theorem d_FP_readTypes_170 : decode b_FP_readTypes 170 = .ok (.aload_n 0, 1) := by decide +kernel
theorem d_FP_readTypes_171 : decode b_FP_readTypes 171 = .ok (.dup, 1) := by decide +kernel
theorem d_FP_readTypes_172 : decode b_FP_readTypes 172 = .ok (.getfield 44, 3) := by decide +kernel
theorem d_FP_readTypes_175 : decode b_FP_readTypes 175 = .ok (.bipush 6, 2) := by decide +kernel
theorem d_FP_readTypes_177 : decode b_FP_readTypes 177 = .ok (.iadd, 1) := by decide +kernel
theorem d_FP_readTypes_178 : decode b_FP_readTypes 178 = .ok (.putfield 44, 3) := by decide +kernel
theorem d_FP_readTypes_181 : decode b_FP_readTypes 181 = .ok (.iinc 1 1, 3) := by decide +kernel
theorem d_FP_readTypes_184 : decode b_FP_readTypes 184 = .ok (.goto (-163), 3) := by decide +kernel
theorem d_FP_readTypes_187 : decode b_FP_readTypes 187 = .ok (.iconst 1, 1) := by decide +kernel
theorem d_FP_readTypes_188 : decode b_FP_readTypes 188 = .ok (.ireturn, 1) := by decide +kernel
abbrev b_FP_readChars : ByteArray := prog_6_method_15_code
def y_FP_readChars : MethodName := ⟨"ZoneFiles$FileParser", "readChars", "(I)Z"⟩
theorem d_FP_readChars_0 : decode b_FP_readChars 0 = .ok (.aload_n 0, 1) := by decide +kernel
theorem d_FP_readChars_1 : decode b_FP_readChars 1 = .ok (.iconst 5, 1) := by decide +kernel
theorem d_FP_readChars_2 : decode b_FP_readChars 2 = .ok (.invokevirtual 37, 3) := by decide +kernel
theorem d_FP_readChars_5 : decode b_FP_readChars 5 = .ok (.istore_n 2, 1) := by decide +kernel
theorem d_FP_readChars_6 : decode b_FP_readChars 6 = .ok (.aload_n 0, 1) := by decide +kernel
theorem d_FP_readChars_7 : decode b_FP_readChars 7 = .ok (.iload_n 2, 1) := by decide +kernel
theorem d_FP_readChars_8 : decode b_FP_readChars 8 = .ok (.invokevirtual 41, 3) := by decide +kernel
theorem d_FP_readChars_11 : decode b_FP_readChars 11 = .ok (.ifCond .ne 5, 3) := by decide +kernel
theorem d_FP_readChars_14 : decode b_FP_readChars 14 = .ok (.iconst 0, 1) := by decide +kernel
theorem d_FP_readChars_15 : decode b_FP_readChars 15 = .ok (.ireturn, 1) := by decide +kernel
theorem d_FP_readChars_16 : decode b_FP_readChars 16 = .ok (.aload_n 0, 1) := by decide +kernel
theorem d_FP_readChars_17 : decode b_FP_readChars 17 = .ok (.getfield 15, 3) := by decide +kernel
theorem d_FP_readChars_20 : decode b_FP_readChars 20 = .ok (.getfield 178, 3) := by decide +kernel
theorem d_FP_readChars_23 : decode b_FP_readChars 23 = .ok (.invokevirtual 181, 3) := by decide +kernel
theorem d_FP_readChars_26 : decode b_FP_readChars 26 = .ok (.aload_n 0, 1) := by decide +kernel
theorem d_FP_readChars_27 : decode b_FP_readChars 27 = .ok (.getfield 15, 3) := by decide +kernel
theorem d_FP_readChars_30 : decode b_FP_readChars 30 = .ok (.getfield 178, 3) := by decide +kernel
theorem d_FP_readChars_33 : decode b_FP_readChars 33 = .ok (.aload_n 0, 1) := by decide +kernel
theorem d_FP_readChars_34 : decode b_FP_readChars 34 = .ok (.getfield 9, 3) := by decide +kernel
theorem d_FP_readChars_37 : decode b_FP_readChars 37 = .ok (.aload_n 0, 1) := by decide +kernel
theorem d_FP_readChars_38 : decode b_FP_readChars 38 = .ok (.getfield 44, 3) := by decide +kernel
theorem d_FP_readChars_41 : decode b_FP_readChars 41 = .ok (.aload_n 0, 1) := by decide +kernel
theorem d_FP_readChars_42 : decode b_FP_readChars 42 = .ok (.getfield 44, 3) := by decide +kernel
theorem d_FP_readChars_45 : decode b_FP_readChars 45 = .ok (.iload_n 2, 1) := by decide +kernel
theorem d_FP_readChars_46 : decode b_FP_readChars 46 = .ok (.iadd, 1) := by decide +kernel
theorem d_FP_readChars_47 : decode b_FP_readChars 47 = .ok (.invokevirtual 182, 3) := by decide +kernel
theorem d_FP_readChars_50 : decode b_FP_readChars 50 = .ok (.aload_n 0, 1) := by decide +kernel
theorem d_FP_readChars_51 : decode b_FP_readChars 51 = .ok (.dup, 1) := by decide +kernel
theorem d_FP_readChars_52 : decode b_FP_readChars 52 = .ok (.getfield 44, 3) := by decide +kernel
theorem d_FP_readChars_55 : decode b_FP_readChars 55 = .ok (.iload_n 2, 1) := by decide +kernel
theorem d_FP_readChars_56 : decode b_FP_readChars 56 = .ok (.iadd, 1) := by decide +kernel
theorem d_FP_readChars_57 : decode b_FP_readChars 57 = .ok (.putfield 44, 3) := by decide +kernel
theorem d_FP_readChars_60 : decode b_FP_readChars 60 = .ok (.iconst 0, 1) := by decide +kernel
theorem d_FP_readChars_61 : decode b_FP_readChars 61 = .ok (.istore_n 3, 1) := by decide +kernel
theorem d_FP_readChars_62 : decode b_FP_readChars 62 = .ok (.iload_n 3, 1) := by decide +kernel
theorem d_FP_readChars_63 : decode b_FP_readChars 63 = .ok (.aload_n 0, 1) := by decide +kernel
theorem d_FP_readChars_64 : decode b_FP_readChars 64 = .ok (.getfield 15, 3) := by decide +kernel
theorem d_FP_readChars_67 : decode b_FP_readChars 67 = .ok (.getfield 126, 3) := by decide +kernel
theorem d_FP_readChars_70 : decode b_FP_readChars 70 = .ok (.if_icmp .ge 32, 3) := by decide +kernel
theorem d_FP_readChars_73 : decode b_FP_readChars 73 = .ok (.aload_n 0, 1) := by decide +kernel
theorem d_FP_readChars_74 : decode b_FP_readChars 74 = .ok (.iload_n 3, 1) := by decide +kernel
theorem d_FP_readChars_75 : decode b_FP_readChars 75 = .ok (.invokevirtual 186, 3) := by decide +kernel
theorem d_FP_readChars_78 : decode b_FP_readChars 78 = .ok (.ifCond .ne 18, 3) := by decide +kernel
theorem d_FP_readChars_81 : decode b_FP_readChars 81 = .ok (.aload_n 0, 1) := by decide +kernel
theorem d_FP_readChars_82 : decode b_FP_readChars 82 = .ok (.bipush 10, 2) := by decide +kernel
theorem d_FP_readChars_84 : decode b_FP_readChars 84 = .ok (.iload_n 1, 1) := by decide +kernel
theorem d_FP_readChars_85 : decode b_FP_readChars 85 = .ok (.bipush 6, 2) := by decide +kernel
theorem d_FP_readChars_87 : decode b_FP_readChars 87 = .ok (.iload_n 3, 1) := by decide +kernel
theorem d_FP_readChars_88 : decode b_FP_readChars 88 = .ok (.imul, 1) := by decide +kernel
theorem d_FP_readChars_89 : decode b_FP_readChars 89 = .ok (.iadd, 1) := by decide +kernel
theorem d_FP_readChars_90 : decode b_FP_readChars 90 = .ok (.iconst 5, 1) := by decide +kernel
theorem d_FP_readChars_91 : decode b_FP_readChars 91 = .ok (.iadd, 1) := by decide +kernel
theorem d_FP_readChars_92 : decode b_FP_readChars 92 = .ok (.invokevirtual 64, 3) := by decide +kernel
theorem d_FP_readChars_95 : decode b_FP_readChars 95 = .ok (.ireturn, 1) := by decide +kernel
theorem d_FP_readChars_96 : decode b_FP_readChars 96 = .ok (.iinc 3 1, 3) := by decide +kernel
theorem d_FP_readChars_99 : decode b_FP_readChars 99 = .ok (.goto (-37), 3) := by decide +kernel
theorem d_FP_readChars_102 : decode b_FP_readChars 102 = .ok (.iconst 1, 1) := by decide +kernel
theorem d_FP_readChars_103 : decode b_FP_readChars 103 = .ok (.ireturn, 1) := by decide +kernel
abbrev b_FP_readLeaps : ByteArray := prog_6_method_17_code
def y_FP_readLeaps : MethodName := ⟨"ZoneFiles$FileParser", "readLeaps", "(I)Z"⟩
theorem d_FP_readLeaps_0 : decode b_FP_readLeaps 0 = .ok (.aload_n 0, 1) := by decide +kernel
theorem d_FP_readLeaps_1 : decode b_FP_readLeaps 1 = .ok (.iload_n 1, 1) := by decide +kernel
theorem d_FP_readLeaps_2 : decode b_FP_readLeaps 2 = .ok (.iconst 4, 1) := by decide +kernel
theorem d_FP_readLeaps_3 : decode b_FP_readLeaps 3 = .ok (.iadd, 1) := by decide +kernel
theorem d_FP_readLeaps_4 : decode b_FP_readLeaps 4 = .ok (.aload_n 0, 1) := by decide +kernel
theorem d_FP_readLeaps_5 : decode b_FP_readLeaps 5 = .ok (.getfield 15, 3) := by decide +kernel
theorem d_FP_readLeaps_8 : decode b_FP_readLeaps 8 = .ok (.getfield 129, 3) := by decide +kernel
theorem d_FP_readLeaps_11 : decode b_FP_readLeaps 11 = .ok (.imul, 1) := by decide +kernel
theorem d_FP_readLeaps_12 : decode b_FP_readLeaps 12 = .ok (.invokevirtual 41, 3) := by decide +kernel
theorem d_FP_readLeaps_15 : decode b_FP_readLeaps 15 = .ok (.ifCond .ne 5, 3) := by decide +kernel
theorem d_FP_readLeaps_18 : decode b_FP_readLeaps 18 = .ok (.iconst 0, 1) := by decide +kernel
theorem d_FP_readLeaps_19 : decode b_FP_readLeaps 19 = .ok (.ireturn, 1) := by decide +kernel
theorem d_FP_readLeaps_20 : decode b_FP_readLeaps 20 = .ok (.iconst 0, 1) := by decide +kernel
theorem d_FP_readLeaps_21 : decode b_FP_readLeaps 21 = .ok (.istore_n 2, 1) := by decide +kernel
theorem d_FP_readLeaps_22 : decode b_FP_readLeaps 22 = .ok (.iload_n 2, 1) := by decide +kernel
theorem d_FP_readLeaps_23 : decode b_FP_readLeaps 23 = .ok (.aload_n 0, 1) := by decide +kernel
theorem d_FP_readLeaps_24 : decode b_FP_readLeaps 24 = .ok (.getfield 15, 3) := by decide +kernel
theorem d_FP_readLeaps_27 : decode b_FP_readLeaps 27 = .ok (.getfield 129, 3) := by decide +kernel
theorem d_FP_readLeaps_30 : decode b_FP_readLeaps 30 = .ok (.if_icmp .ge 157, 3) := by decide +kernel
theorem d_FP_readLeaps_33 : decode b_FP_readLeaps 33 = .ok (.aload_n 0, 1) := by decide +kernel
theorem d_FP_readLeaps_34 : decode b_FP_readLeaps 34 = .ok (.getfield 9, 3) := by decide +kernel
theorem d_FP_readLeaps_37 : decode b_FP_readLeaps 37 = .ok (.aload_n 0, 1) := by decide +kernel
theorem d_FP_readLeaps_38 : decode b_FP_readLeaps 38 = .ok (.getfield 44, 3) := by decide +kernel
theorem d_FP_readLeaps_41 : decode b_FP_readLeaps 41 = .ok (.iload_n 1, 1) := by decide +kernel
theorem d_FP_readLeaps_42 : decode b_FP_readLeaps 42 = .ok (.invokevirtual 159, 3) := by decide +kernel
theorem d_FP_readLeaps_45 : decode b_FP_readLeaps 45 = .ok (.lstore_n 3, 1) := by decide +kernel
theorem d_FP_readLeaps_46 : decode b_FP_readLeaps 46 = .ok (.lload_n 3, 1) := by decide +kernel
theorem d_FP_readLeaps_47 : decode b_FP_readLeaps 47 = .ok (.lconst 0, 1) := by decide +kernel
theorem d_FP_readLeaps_48 : decode b_FP_readLeaps 48 = .ok (.lcmp, 1) := by decide +kernel
theorem d_FP_readLeaps_49 : decode b_FP_readLeaps 49 = .ok (.ifCond .lt 27, 3) := by decide +kernel
theorem d_FP_readLeaps_52 : decode b_FP_readLeaps 52 = .ok (.iload_n 2, 1) := by decide +kernel
theorem d_FP_readLeaps_53 : decode b_FP_readLeaps 53 = .ok (.ifCond .le 34, 3) := by decide +kernel
theorem d_FP_readLeaps_56 : decode b_FP_readLeaps 56 = .ok (.lload_n 3, 1) := by decide +kernel
theorem d_FP_readLeaps_57 : decode b_FP_readLeaps 57 = .ok (.aload_n 0, 1) := by decide +kernel
theorem d_FP_readLeaps_58 : decode b_FP_readLeaps 58 = .ok (.getfield 15, 3) := by decide +kernel
theorem d_FP_readLeaps_61 : decode b_FP_readLeaps 61 = .ok (.getfield 199, 3) := by decide +kernel
theorem d_FP_readLeaps_64 : decode b_FP_readLeaps 64 = .ok (.iload_n 2, 1) := by decide +kernel
theorem d_FP_readLeaps_65 : decode b_FP_readLeaps 65 = .ok (.iconst 1, 1) := by decide +kernel
theorem d_FP_readLeaps_66 : decode b_FP_readLeaps 66 = .ok (.isub, 1) := by decide +kernel
theorem d_FP_readLeaps_67 : decode b_FP_readLeaps 67 = .ok (.laload, 1) := by decide +kernel
theorem d_FP_readLeaps_68 : decode b_FP_readLeaps 68 = .ok (.lsub, 1) := by decide +kernel
theorem d_FP_readLeaps_69 : decode b_FP_readLeaps 69 = .ok (.ldc2_w 202, 3) := by decide +kernel
theorem d_FP_readLeaps_72 : decode b_FP_readLeaps 72 = .ok (.lcmp, 1) := by decide +kernel
theorem d_FP_readLeaps_73 : decode b_FP_readLeaps 73 = .ok (.ifCond .ge 14, 3) := by decide +kernel
theorem d_FP_readLeaps_76 : decode b_FP_readLeaps 76 = .ok (.aload_n 0, 1) := by decide +kernel
theorem d_FP_readLeaps_77 : decode b_FP_readLeaps 77 = .ok (.bipush 11, 2) := by decide +kernel
theorem d_FP_readLeaps_79 : decode b_FP_readLeaps 79 = .ok (.aload_n 0, 1) := by decide +kernel
theorem d_FP_readLeaps_80 : decode b_FP_readLeaps 80 = .ok (.getfield 44, 3) := by decide +kernel
theorem d_FP_readLeaps_83 : decode b_FP_readLeaps 83 = .ok (.invokevirtual 64, 3) := by decide +kernel
theorem d_FP_readLeaps_86 : decode b_FP_readLeaps 86 = .ok (.ireturn, 1) := by decide +kernel
theorem d_FP_readLeaps_87 : decode b_FP_readLeaps 87 = .ok (.aload_n 0, 1) := by decide +kernel
theorem d_FP_readLeaps_88 : decode b_FP_readLeaps 88 = .ok (.getfield 9, 3) := by decide +kernel
theorem d_FP_readLeaps_91 : decode b_FP_readLeaps 91 = .ok (.aload_n 0, 1) := by decide +kernel
theorem d_FP_readLeaps_92 : decode b_FP_readLeaps 92 = .ok (.getfield 44, 3) := by decide +kernel
theorem d_FP_readLeaps_95 : decode b_FP_readLeaps 95 = .ok (.iload_n 1, 1) := by decide +kernel
theorem d_FP_readLeaps_96 : decode b_FP_readLeaps 96 = .ok (.iadd, 1) := by decide +kernel
theorem d_FP_readLeaps_97 : decode b_FP_readLeaps 97 = .ok (.iconst 4, 1) := by decide +kernel
theorem d_FP_readLeaps_98 : decode b_FP_readLeaps 98 = .ok (.invokevirtual 159, 3) := by decide +kernel
theorem d_FP_readLeaps_101 : decode b_FP_readLeaps 101 = .ok (.lstore 5, 2) := by decide +kernel
theorem d_FP_readLeaps_103 : decode b_FP_readLeaps 103 = .ok (.lload 5, 2) := by decide +kernel
theorem d_FP_readLeaps_105 : decode b_FP_readLeaps 105 = .ok (.iload_n 2, 1) := by decide +kernel
theorem d_FP_readLeaps_106 : decode b_FP_readLeaps 106 = .ok (.ifCond .le 18, 3) := by decide +kernel
theorem d_FP_readLeaps_109 : decode b_FP_readLeaps 109 = .ok (.aload_n 0, 1) := by decide +kernel
theorem d_FP_readLeaps_110 : decode b_FP_readLeaps 110 = .ok (.getfield 15, 3) := by decide +kernel
theorem d_FP_readLeaps_113 : decode b_FP_readLeaps 113 = .ok (.getfield 204, 3) := by decide +kernel
theorem d_FP_readLeaps_116 : decode b_FP_readLeaps 116 = .ok (.iload_n 2, 1) := by decide +kernel
theorem d_FP_readLeaps_117 : decode b_FP_readLeaps 117 = .ok (.iconst 1, 1) := by decide +kernel
theorem d_FP_readLeaps_118 : decode b_FP_readLeaps 118 = .ok (.isub, 1) := by decide +kernel
theorem d_FP_readLeaps_119 : decode b_FP_readLeaps 119 = .ok (.iaload, 1) := by decide +kernel
theorem d_FP_readLeaps_120 : decode b_FP_readLeaps 120 = .ok (.i2l, 1) := by decide +kernel
theorem d_FP_readLeaps_121 : decode b_FP_readLeaps 121 = .ok (.goto 4, 3) := by decide +kernel
theorem d_FP_readLeaps_124 : decode b_FP_readLeaps 124 = .ok (.lconst 0, 1) := by decide +kernel
theorem d_FP_readLeaps_125 : decode b_FP_readLeaps 125 = .ok (.lsub, 1) := by decide +kernel
theorem d_FP_readLeaps_126 : decode b_FP_readLeaps 126 = .ok (.invokestatic 207, 3) := by decide +kernel
theorem d_FP_readLeaps_129 : decode b_FP_readLeaps 129 = .ok (.lconst 1, 1) := by decide +kernel
theorem d_FP_readLeaps_130 : decode b_FP_readLeaps 130 = .ok (.lcmp, 1) := by decide +kernel
theorem d_FP_readLeaps_131 : decode b_FP_readLeaps 131 = .ok (.ifCond .eq 16, 3) := by decide +kernel
theorem d_FP_readLeaps_134 : decode b_FP_readLeaps 134 = .ok (.aload_n 0, 1) := by decide +kernel
theorem d_FP_readLeaps_135 : decode b_FP_readLeaps 135 = .ok (.bipush 12, 2) := by decide +kernel
theorem d_FP_readLeaps_137 : decode b_FP_readLeaps 137 = .ok (.aload_n 0, 1) := by decide +kernel
theorem d_FP_readLeaps_138 : decode b_FP_readLeaps 138 = .ok (.getfield 44, 3) := by decide +kernel
theorem d_FP_readLeaps_141 : decode b_FP_readLeaps 141 = .ok (.iload_n 1, 1) := by decide +kernel
theorem d_FP_readLeaps_142 : decode b_FP_readLeaps 142 = .ok (.iadd, 1) := by decide +kernel
theorem d_FP_readLeaps_143 : decode b_FP_readLeaps 143 = .ok (.invokevirtual 64, 3) := by decide +kernel
theorem d_FP_readLeaps_146 : decode b_FP_readLeaps 146 = .ok (.ireturn, 1) := by decide +kernel
theorem d_FP_readLeaps_147 : decode b_FP_readLeaps 147 = .ok (.aload_n 0, 1) := by decide +kernel
theorem d_FP_readLeaps_148 : decode b_FP_readLeaps 148 = .ok (.getfield 15, 3) := by decide +kernel
theorem d_FP_readLeaps_151 : decode b_FP_readLeaps 151 = .ok (.getfield 199, 3) := by decide +kernel
theorem d_FP_readLeaps_154 : decode b_FP_readLeaps 154 = .ok (.iload_n 2, 1) := by decide +kernel
theorem d_FP_readLeaps_155 : decode b_FP_readLeaps 155 = .ok (.lload_n 3, 1) := by decide +kernel
theorem d_FP_readLeaps_156 : decode b_FP_readLeaps 156 = .ok (.lastore, 1) := by decide +kernel
theorem d_FP_readLeaps_157 : decode b_FP_readLeaps 157 = .ok (.aload_n 0, 1) := by decide +kernel
theorem d_FP_readLeaps_158 : decode b_FP_readLeaps 158 = .ok (.getfield 15, 3) := by decide +kernel
theorem d_FP_readLeaps_161 : decode b_FP_readLeaps 161 = .ok (.getfield 204, 3) := by decide +kernel
theorem d_FP_readLeaps_164 : decode b_FP_readLeaps 164 = .ok (.iload_n 2, 1) := by decide +kernel
theorem d_FP_readLeaps_165 : decode b_FP_readLeaps 165 = .ok (.lload 5, 2) := by decide +kernel
theorem d_FP_readLeaps_167 : decode b_FP_readLeaps 167 = .ok (.l2i, 1) := by decide +kernel
theorem d_FP_readLeaps_168 : decode b_FP_readLeaps 168 = .ok (.iastore, 1) := by decide +kernel
theorem d_FP_readLeaps_169 : decode b_FP_readLeaps 169 = .ok (.aload_n 0, 1) := by decide +kernel
theorem d_FP_readLeaps_170 : decode b_FP_readLeaps 170 = .ok (.dup, 1) := by decide +kernel
theorem d_FP_readLeaps_171 : decode b_FP_readLeaps 171 = .ok (.getfield 44, 3) := by decide +kernel
theorem d_FP_readLeaps_174 : decode b_FP_readLeaps 174 = .ok (.iload_n 1, 1) := by decide +kernel
theorem d_FP_readLeaps_175 : decode b_FP_readLeaps 175 = .ok (.iconst 4, 1) := by decide +kernel
theorem d_FP_readLeaps_176 : decode b_FP_readLeaps 176 = .ok (.iadd, 1) := by decide +kernel
theorem d_FP_readLeaps_177 : decode b_FP_readLeaps 177 = .ok (.iadd, 1) := by decide +kernel
theorem d_FP_readLeaps_178 : decode b_FP_readLeaps 178 = .ok (.putfield 44, 3) := by decide +kernel
theorem d_FP_readLeaps_181 : decode b_FP_readLeaps 181 = .ok (.iinc 2 1, 3) := by decide +kernel
theorem d_FP_readLeaps_184 : decode b_FP_readLeaps 184 = .ok (.goto (-162), 3) := by decide +kernel
theorem d_FP_readLeaps_187 : decode b_FP_readLeaps 187 = .ok (.iconst 1, 1) := by decide +kernel
theorem d_FP_readLeaps_188 : decode b_FP_readLeaps 188 = .ok (.ireturn, 1) := by decide +kernel
abbrev b_FP_readStds : ByteArray := prog_6_method_18_code
def y_FP_readStds : MethodName := ⟨"ZoneFiles$FileParser", "readStds", "()Z"⟩
theorem d_FP_readStds_0 : decode b_FP_readStds 0 = .ok (.aload_n 0, 1) := by decide +kernel
theorem d_FP_readStds_1 : decode b_FP_readStds 1 = .ok (.aload_n 0, 1) := by decide +kernel
theorem d_FP_readStds_2 : decode b_FP_readStds 2 = .ok (.getfield 15, 3) := by decide +kernel
theorem d_FP_readStds_5 : decode b_FP_readStds 5 = .ok (.getfield 132, 3) := by decide +kernel
theorem d_FP_readStds_8 : decode b_FP_readStds 8 = .ok (.invokevirtual 41, 3) := by decide +kernel
theorem d_FP_readStds_11 : decode b_FP_readStds 11 = .ok (.ifCond .ne 5, 3) := by decide +kernel
theorem d_FP_readStds_14 : decode b_FP_readStds 14 = .ok (.iconst 0, 1) := by decide +kernel
theorem d_FP_readStds_15 : decode b_FP_readStds 15 = .ok (.ireturn, 1) := by decide +kernel
theorem d_FP_readStds_16 : decode b_FP_readStds 16 = .ok (.iconst 0, 1) := by decide +kernel
theorem d_FP_readStds_17 : decode b_FP_readStds 17 = .ok (.istore_n 1, 1) := by decide +kernel
theorem d_FP_readStds_18 : decode b_FP_readStds 18 = .ok (.iload_n 1, 1) := by decide +kernel
theorem d_FP_readStds_19 : decode b_FP_readStds 19 = .ok (.aload_n 0, 1) := by decide +kernel
theorem d_FP_readStds_20 : decode b_FP_readStds 20 = .ok (.getfield 15, 3) := by decide +kernel
theorem d_FP_readStds_23 : decode b_FP_readStds 23 = .ok (.getfield 132, 3) := by decide +kernel
theorem d_FP_readStds_26 : decode b_FP_readStds 26 = .ok (.if_icmp .ge 57, 3) := by decide +kernel
theorem d_FP_readStds_29 : decode b_FP_readStds 29 = .ok (.aload_n 0, 1) := by decide +kernel
theorem d_FP_readStds_30 : decode b_FP_readStds 30 = .ok (.getfield 9, 3) := by decide +kernel
theorem d_FP_readStds_33 : decode b_FP_readStds 33 = .ok (.aload_n 0, 1) := by decide +kernel
theorem d_FP_readStds_34 : decode b_FP_readStds 34 = .ok (.getfield 44, 3) := by decide +kernel
theorem d_FP_readStds_37 : decode b_FP_readStds 37 = .ok (.invokevirtual 61, 3) := by decide +kernel
theorem d_FP_readStds_40 : decode b_FP_readStds 40 = .ok (.istore_n 2, 1) := by decide +kernel
theorem d_FP_readStds_41 : decode b_FP_readStds 41 = .ok (.iload_n 2, 1) := by decide +kernel
theorem d_FP_readStds_42 : decode b_FP_readStds 42 = .ok (.iconst 1, 1) := by decide +kernel
theorem d_FP_readStds_43 : decode b_FP_readStds 43 = .ok (.if_icmp .le 14, 3) := by decide +kernel
theorem d_FP_readStds_46 : decode b_FP_readStds 46 = .ok (.aload_n 0, 1) := by decide +kernel
theorem d_FP_readStds_47 : decode b_FP_readStds 47 = .ok (.bipush 13, 2) := by decide +kernel
theorem d_FP_readStds_49 : decode b_FP_readStds 49 = .ok (.aload_n 0, 1) := by decide +kernel
theorem d_FP_readStds_50 : decode b_FP_readStds 50 = .ok (.getfield 44, 3) := by decide +kernel
theorem d_FP_readStds_53 : decode b_FP_readStds 53 = .ok (.invokevirtual 64, 3) := by decide +kernel
theorem d_FP_readStds_56 : decode b_FP_readStds 56 = .ok (.ireturn, 1) := by decide +kernel
theorem d_FP_readStds_57 : decode b_FP_readStds 57 = .ok (.aload_n 0, 1) := by decide +kernel
theorem d_FP_readStds_58 : decode b_FP_readStds 58 = .ok (.getfield 15, 3) := by decide +kernel
theorem d_FP_readStds_61 : decode b_FP_readStds 61 = .ok (.getfield 213, 3) := by decide +kernel
theorem d_FP_readStds_64 : decode b_FP_readStds 64 = .ok (.iload_n 1, 1) := by decide +kernel
theorem d_FP_readStds_65 : decode b_FP_readStds 65 = .ok (.iload_n 2, 1) := by decide +kernel
theorem d_FP_readStds_66 : decode b_FP_readStds 66 = .ok (.iastore, 1) := by decide +kernel
theorem d_FP_readStds_67 : decode b_FP_readStds 67 = .ok (.aload_n 0, 1) := by decide +kernel
theorem d_FP_readStds_68 : decode b_FP_readStds 68 = .ok (.dup, 1) := by decide +kernel
theorem d_FP_readStds_69 : decode b_FP_readStds 69 = .ok (.getfield 44, 3) := by decide +kernel
theorem d_FP_readStds_72 : decode b_FP_readStds 72 = .ok (.iconst 1, 1) := by decide +kernel
theorem d_FP_readStds_73 : decode b_FP_readStds 73 = .ok (.iadd, 1) := by decide +kernel
theorem d_FP_readStds_74 : decode b_FP_readStds 74 = .ok (.putfield 44, 3) := by decide +kernel
theorem d_FP_readStds_77 : decode b_FP_readStds 77 = .ok (.iinc 1 1, 3) := by decide +kernel
theorem d_FP_readStds_80 : decode b_FP_readStds 80 = .ok (.goto (-62), 3) := by decide +kernel
theorem d_FP_readStds_83 : decode b_FP_readStds 83 = .ok (.iconst 1, 1) := by decide +kernel
theorem d_FP_readStds_84 : decode b_FP_readStds 84 = .ok (.ireturn, 1) := by decide +kernel
abbrev b_FP_readUts : ByteArray := prog_6_method_19_code
def y_FP_readUts : MethodName := ⟨"ZoneFiles$FileParser", "readUts", "()Z"⟩
theorem d_FP_readUts_0 : decode b_FP_readUts 0 = .ok (.aload_n 0, 1) := by decide +kernel
theorem d_FP_readUts_1 : decode b_FP_readUts 1 = .ok (.aload_n 0, 1) := by decide +kernel
theorem d_FP_readUts_2 : decode b_FP_readUts 2 = .ok (.getfield 15, 3) := by decide +kernel
theorem d_FP_readUts_5 : decode b_FP_readUts 5 = .ok (.getfield 135, 3) := by decide +kernel
theorem d_FP_readUts_8 : decode b_FP_readUts 8 = .ok (.invokevirtual 41, 3) := by decide +kernel
theorem d_FP_readUts_11 : decode b_FP_readUts 11 = .ok (.ifCond .ne 5, 3) := by decide +kernel
theorem d_FP_readUts_14 : decode b_FP_readUts 14 = .ok (.iconst 0, 1) := by decide +kernel
theorem d_FP_readUts_15 : decode b_FP_readUts 15 = .ok (.ireturn, 1) := by decide +kernel
theorem d_FP_readUts_16 : decode b_FP_readUts 16 = .ok (.iconst 0, 1) := by decide +kernel
theorem d_FP_readUts_17 : decode b_FP_readUts 17 = .ok (.istore_n 1, 1) := by decide +kernel
theorem d_FP_readUts_18 : decode b_FP_readUts 18 = .ok (.iload_n 1, 1) := by decide +kernel
theorem d_FP_readUts_19 : decode b_FP_readUts 19 = .ok (.aload_n 0, 1) := by decide +kernel
theorem d_FP_readUts_20 : decode b_FP_readUts 20 = .ok (.getfield 15, 3) := by decide +kernel
theorem d_FP_readUts_23 : decode b_FP_readUts 23 = .ok (.getfield 135, 3) := by decide +kernel
theorem d_FP_readUts_26 : decode b_FP_readUts 26 = .ok (.if_icmp .ge 82, 3) := by decide +kernel
theorem d_FP_readUts_29 : decode b_FP_readUts 29 = .ok (.aload_n 0, 1) := by decide +kernel
theorem d_FP_readUts_30 : decode b_FP_readUts 30 = .ok (.getfield 9, 3) := by decide +kernel
theorem d_FP_readUts_33 : decode b_FP_readUts 33 = .ok (.aload_n 0, 1) := by decide +kernel
theorem d_FP_readUts_34 : decode b_FP_readUts 34 = .ok (.getfield 44, 3) := by decide +kernel
theorem d_FP_readUts_37 : decode b_FP_readUts 37 = .ok (.invokevirtual 61, 3) := by decide +kernel
theorem d_FP_readUts_40 : decode b_FP_readUts 40 = .ok (.istore_n 2, 1) := by decide +kernel
theorem d_FP_readUts_41 : decode b_FP_readUts 41 = .ok (.iload_n 1, 1) := by decide +kernel
theorem d_FP_readUts_42 : decode b_FP_readUts 42 = .ok (.aload_n 0, 1) := by decide +kernel
theorem d_FP_readUts_43 : decode b_FP_readUts 43 = .ok (.getfield 15, 3) := by decide +kernel
theorem d_FP_readUts_46 : decode b_FP_readUts 46 = .ok (.getfield 132, 3) := by decide +kernel
theorem d_FP_readUts_49 : decode b_FP_readUts 49 = .ok (.if_icmp .ge 15, 3) := by decide +kernel
theorem d_FP_readUts_52 : decode b_FP_readUts 52 = .ok (.aload_n 0, 1) := by decide +kernel
theorem d_FP_readUts_53 : decode b_FP_readUts 53 = .ok (.getfield 15, 3) := by decide +kernel
theorem d_FP_readUts_56 : decode b_FP_readUts 56 = .ok (.getfield 213, 3) := by decide +kernel
theorem d_FP_readUts_59 : decode b_FP_readUts 59 = .ok (.iload_n 1, 1) := by decide +kernel
theorem d_FP_readUts_60 : decode b_FP_readUts 60 = .ok (.iaload, 1) := by decide +kernel
theorem d_FP_readUts_61 : decode b_FP_readUts 61 = .ok (.goto 4, 3) := by decide +kernel
theorem d_FP_readUts_64 : decode b_FP_readUts 64 = .ok (.iconst 0, 1) := by decide +kernel
theorem d_FP_readUts_65 : decode b_FP_readUts 65 = .ok (.istore_n 3, 1) := by decide +kernel
theorem d_FP_readUts_66 : decode b_FP_readUts 66 = .ok (.iload_n 2, 1) := by decide +kernel
theorem d_FP_readUts_67 : decode b_FP_readUts 67 = .ok (.iload_n 3, 1) := by decide +kernel
theorem d_FP_readUts_68 : decode b_FP_readUts 68 = .ok (.if_icmp .le 14, 3) := by decide +kernel
theorem d_FP_readUts_71 : decode b_FP_readUts 71 = .ok (.aload_n 0, 1) := by decide +kernel
theorem d_FP_readUts_72 : decode b_FP_readUts 72 = .ok (.bipush 13, 2) := by decide +kernel
theorem d_FP_readUts_74 : decode b_FP_readUts 74 = .ok (.aload_n 0, 1) := by decide +kernel
theorem d_FP_readUts_75 : decode b_FP_readUts 75 = .ok (.getfield 44, 3) := by decide +kernel
theorem d_FP_readUts_78 : decode b_FP_readUts 78 = .ok (.invokevirtual 64, 3) := by decide +kernel
theorem d_FP_readUts_81 : decode b_FP_readUts 81 = .ok (.ireturn, 1) := by decide +kernel
theorem d_FP_readUts_82 : decode b_FP_readUts 82 = .ok (.aload_n 0, 1) := by decide +kernel
theorem d_FP_readUts_83 : decode b_FP_readUts 83 = .ok (.getfield 15, 3) := by decide +kernel
theorem d_FP_readUts_86 : decode b_FP_readUts 86 = .ok (.getfield 216, 3) := by decide +kernel
theorem d_FP_readUts_89 : decode b_FP_readUts 89 = .ok (.iload_n 1, 1) := by decide +kernel
theorem d_FP_readUts_90 : decode b_FP_readUts 90 = .ok (.iload_n 2, 1) := by decide +kernel
theorem d_FP_readUts_91 : decode b_FP_readUts 91 = .ok (.iastore, 1) := by decide +kernel
theorem d_FP_readUts_92 : decode b_FP_readUts 92 = .ok (.aload_n 0, 1) := by decide +kernel
theorem d_FP_readUts_93 : decode b_FP_readUts 93 = .ok (.dup, 1) := by decide +kernel
theorem d_FP_readUts_94 : decode b_FP_readUts 94 = .ok (.getfield 44, 3) := by decide +kernel
theorem d_FP_readUts_97 : decode b_FP_readUts 97 = .ok (.iconst 1, 1) := by decide +kernel
theorem d_FP_readUts_98 : decode b_FP_readUts 98 = .ok (.iadd, 1) := by decide +kernel
theorem d_FP_readUts_99 : decode b_FP_readUts 99 = .ok (.putfield 44, 3) := by decide +kernel
theorem d_FP_readUts_102 : decode b_FP_readUts 102 = .ok (.iinc 1 1, 3) := by decide +kernel
theorem d_FP_readUts_105 : decode b_FP_readUts 105 = .ok (.goto (-87), 3) := by decide +kernel
theorem d_FP_readUts_108 : decode b_FP_readUts 108 = .ok (.iconst 1, 1) := by decide +kernel
theorem d_FP_readUts_109 : decode b_FP_readUts 109 = .ok (.ireturn, 1) := by decide +kernel
-- ZoneFiles$FileParser.fail(II)Z
def f_FP_fail_0 (nf : Nat) (x1 : Int32) (x2 : Int32) (w0_0 : Int32) (w0_1 : Int32) : Option (Int32 × Int32 × Int32) :=
  some (0, x1, x2)
def f_FP_fail (nf : Nat) (p0 : Int32) (p1 : Int32) (fFault : Int32) (fPlace : Int32) : Option (Int32 × Int32 × Int32) :=
  f_FP_fail_0 nf p0 p1 fFault fPlace
section
variable {p : Program} {l : Launch} {e : Env} {R : Room} {s : State} {m : MethodId} {args : Array Value} {below : List Frame} {meth : Method} {c : Code} {Q : State → Prop} {dC : Nat → ClassId} {dI : Nat → Nat → Nat} {nf : Nat} {A : Nat → Prop}
variable {h0 : Nat} {fTape : Nat} {fZone : Nat} {fCounts : Nat} {fFault : Int32} {fPlace : Int32} {fPos : Int32} {fText : Int32} {r0 : Int32} {v0_0 : Int32} {v0_1 : Int32}
set_option maxHeartbeats 400000 in
set_option maxRecDepth 100000 in
theorem k_FP_fail_0 (C0 : Cx p s m meth c args R b_FP_fail "ZoneFiles$FileParser" 3 (some .boolean) 0 0) (hST : ST A s s.heap) (hA : ∀ q, s.heap.size ≤ q → A q) (hE : ∀ (pc : Nat) (ls : Array Slot) (H : Heap) (locs : List Loc), decode b_FP_fail pc = .ok (.ireturn, 1) → narrow .boolean (.int r0) = .int r0 → va_P (dC, dI) classes [(h0, .inr (3, [.int v0_0, .int v0_1, .ref fTape, .ref fZone, .ref fCounts, .int fPos, .int fText]))] H → va_D A [(h0, .inr (3, [.int v0_0, .int v0_1, .ref fTape, .ref fZone, .ref fCounts, .int fPos, .int fText]))] → va_S A s.heap H locs → va_K (dC, dI) classes [] s → W p l e R s m args below meth c H locs 0 0 Q (F0 m pc ls [.int r0])) {x1 : Int32} {x2 : Int32} {w0_0 : Int32} {w0_1 : Int32} (hf : f_FP_fail_0 nf x1 x2 w0_0 w0_1 = some (r0, v0_0, v0_1)) {H : Heap} {locs : List Loc} {ls : Array Slot} (hK : va_K (dC, dI) classes [] s) (hP : va_P (dC, dI) classes [(h0, .inr (3, [.int w0_0, .int w0_1, .ref fTape, .ref fZone, .ref fCounts, .int fPos, .int fText]))] H) (hD : va_D A [(h0, .inr (3, [.int w0_0, .int w0_1, .ref fTape, .ref fZone, .ref fCounts, .int fPos, .int fText]))]) (hS : va_S A s.heap H locs) (hl : lv_has ls 3 [(0, .ref h0), (1, .int x1), (2, .int x2)]) : W p l e R s m args below meth c H locs 0 0 Q (F0 m 0 ls []) := by
  obtain ⟨hx, hb, hr, hml, hown, hts, hlocks, hRf, hRl⟩ := id C0
  obtain ⟨tms, hZms, hTms, tmg, hZmg, hTmg, hNW⟩ := id hST
  unfold f_FP_fail_0 at hf
  refine lv_aload_n hx hb d_FP_fail_0 rfl (lv_at hl 0 rfl) ?_
  refine lv_iload_n hx hb d_FP_fail_1 rfl (lv_at hl 1 rfl) ?_
  refine va_put (D := (dC, dI)) (ci := 3) (v := .int x1) (ty := .int) (C := RFileParser) (T := TFileParser) (N := 7) hx hb hts in_FileParser tyFileParser ty_FileParser nm_FileParser hown hK hP hD hS 0 rfl rfl 0 (by decide) (hts (.fieldLink "ZoneFiles$FileParser" 101 "ZoneFiles$FileParser" "fault" "I") m_3_157) (fun _ h9 => h9) rfl (by decide +kernel) rfl rfl (Nat.le_of_ble_eq_true rfl) d_FP_fail_2 (fun H locs hP hD hS => ?_)
  have hP : va_P (dC, dI) classes [(h0, .inr (3, [.int x1, .int w0_1, .ref fTape, .ref fZone, .ref fCounts, .int fPos, .int fText]))] H := hP
  have hD : va_D A [(h0, .inr (3, [.int x1, .int w0_1, .ref fTape, .ref fZone, .ref fCounts, .int fPos, .int fText]))] := hD
  refine lv_aload_n hx hb d_FP_fail_5 rfl (lv_at hl 0 rfl) ?_
  refine lv_iload_n hx hb d_FP_fail_6 rfl (lv_at hl 2 rfl) ?_
  refine va_put (D := (dC, dI)) (ci := 3) (v := .int x2) (ty := .int) (C := RFileParser) (T := TFileParser) (N := 7) hx hb hts in_FileParser tyFileParser ty_FileParser nm_FileParser hown hK hP hD hS 0 rfl rfl 1 (by decide) (hts (.fieldLink "ZoneFiles$FileParser" 104 "ZoneFiles$FileParser" "place" "I") m_3_159) (fun _ h9 => h9) rfl (by decide +kernel) rfl rfl (Nat.le_of_ble_eq_true rfl) d_FP_fail_7 (fun H locs hP hD hS => ?_)
  have hP : va_P (dC, dI) classes [(h0, .inr (3, [.int x1, .int x2, .ref fTape, .ref fZone, .ref fCounts, .int fPos, .int fText]))] H := hP
  have hD : va_D A [(h0, .inr (3, [.int x1, .int x2, .ref fTape, .ref fZone, .ref fCounts, .int fPos, .int fText]))] := hD
  refine lv_iconst (v := 0) hx hb d_FP_fail_10 (by decide) ?_
  cases rs hf
  exact hE _ _ _ _ d_FP_fail_11 rfl hP hD hS hK
end
set_option maxHeartbeats 400000 in
set_option maxRecDepth 100000 in
theorem c_FP_fail (l : Launch) (dC : Nat → ClassId) (dI : Nat → Nat → Nat) (h0 : Nat) (fTape : Nat) (fZone : Nat) (fCounts : Nat) (sz : Nat) (nf : Nat) (p0 : Int32) (p1 : Int32) (fFault : Int32) (fPlace : Int32) (fPos : Int32) (fText : Int32) {r0 : Int32} {v0_0 : Int32} {v0_1 : Int32} (hf : f_FP_fail nf p0 p1 fFault fPlace = some (r0, v0_0, v0_1)) : Met l y_FP_fail (wd y_FP_fail b_FP_fail 3 (some .boolean)) ({ frames := 0, cells := 0, slots := 0, locals := 0 }) (MU dC dI [(h0, .inr (3, [.int fFault, .int fPlace, .ref fTape, .ref fZone, .ref fCounts, .int fPos, .int fText]))] [] sz [.ref h0, .int p0, .int p1]) (MV (some (.int r0)) (fun t => va_P (dC, dI) classes [(h0, .inr (3, [.int v0_0, .int v0_1, .ref fTape, .ref fZone, .ref fCounts, .int fPos, .int fText]))] t.heap ∧ va_K (dC, dI) classes [] t ∧ va_D (va_A [(h0, .inr (3, [.int fFault, .int fPlace, .ref fTape, .ref fZone, .ref fCounts, .int fPos, .int fText]))] sz) [(h0, .inr (3, [.int v0_0, .int v0_1, .ref fTape, .ref fZone, .ref fCounts, .int fPos, .int fText]))]) (va_A [(h0, .inr (3, [.int fFault, .int fPlace, .ref fTape, .ref fZone, .ref fCounts, .int fPos, .int fText]))] sz)) 0 0 (va_A [(h0, .inr (3, [.int fFault, .int fPlace, .ref fTape, .ref fZone, .ref fCounts, .int fPos, .int fText]))] sz) :=
  met_M (plainFor_of_name (by decide)) (Nat.le_of_ble_eq_true rfl) (fun p e R s m args below meth c ls hRc hRs hsz hin C0 hST hK hP hD hl => by
    obtain ⟨hx, hb, hr, hml, hown, hts, hlocks, hRf, hRl⟩ := id C0
    subst hsz
    have hA : ∀ q : Nat, s.heap.size ≤ q → va_A [(h0, .inr (3, [.int fFault, .int fPlace, .ref fTape, .ref fZone, .ref fCounts, .int fPos, .int fText]))] s.heap.size q := fun q h => Or.inr h
    have hS : va_S (va_A [(h0, .inr (3, [.int fFault, .int fPlace, .ref fTape, .ref fZone, .ref fCounts, .int fPos, .int fText]))] s.heap.size) s.heap s.heap [] := va_S.rf
    unfold f_FP_fail at hf
    exact k_FP_fail_0 C0 hST hA (fun pc ls H locs hd hn hP hD hS hK => W.zret hx hb hr hn (fun t ht hW => ⟨⟨rfl, ⟨by rw [ht]; exact hP, va_K.moved hW.alike hK, hD⟩⟩, hS.F ht⟩) hS.2.2 hd) hf hK hP hD hS (lv_sub hl [0, 1, 2] rfl))
-- ZoneFiles$FileParser.hasMore(I)Z
def f_FP_hasMore_36 (nf : Nat) (s0 : Int32) (w0_0 : Int32) (w0_1 : Int32) : Option (Int32 × Int32 × Int32) :=
  if s0 = 0 ∨ s0 = 1 then some (s0, w0_0, w0_1) else none
def f_FP_hasMore_31 (nf : Nat) (w0_0 : Int32) (w0_1 : Int32) : Option (Int32 × Int32 × Int32) :=
  f_FP_hasMore_36 nf 1 w0_0 w0_1
def f_FP_hasMore_0 (nf : Nat) (fPos : Int32) (tpS : Int32) (x1 : Int32) (w0_0 : Int32) (w0_1 : Int32) : Option (Int32 × Int32 × Int32) :=
  if x1 ≤ (tpS - fPos) then
  f_FP_hasMore_31 nf w0_0 w0_1
  else
  (f_FP_fail nf 1 tpS w0_0 w0_1).bind fun (z_3, z_4, z_5) =>
    if z_3 = 0 then
    f_FP_hasMore_36 nf 0 z_4 z_5
    else
    f_FP_hasMore_31 nf z_4 z_5
def f_FP_hasMore (nf : Nat) (p0 : Int32) (fFault : Int32) (fPlace : Int32) (fPos : Int32) (tpS : Int32) : Option (Int32 × Int32 × Int32) :=
  f_FP_hasMore_0 nf fPos tpS p0 fFault fPlace
section
variable {p : Program} {l : Launch} {e : Env} {R : Room} {s : State} {m : MethodId} {args : Array Value} {below : List Frame} {meth : Method} {c : Code} {Q : State → Prop} {dC : Nat → ClassId} {dI : Nat → Nat → Nat} {nf : Nat} {A : Nat → Prop}
variable {h0 : Nat} {fTape : Nat} {fZone : Nat} {fCounts : Nat} {tpR : Nat} {fFault : Int32} {fPlace : Int32} {fPos : Int32} {fText : Int32} {tpS : Int32} {r0 : Int32} {v0_0 : Int32} {v0_1 : Int32}
set_option maxHeartbeats 400000 in
set_option maxRecDepth 100000 in
theorem k_FP_hasMore_36 (C0 : Cx p s m meth c args R b_FP_hasMore "ZoneFiles$FileParser" 2 (some .boolean) 1 22) (hST : ST A s s.heap) (hA : ∀ q, s.heap.size ≤ q → A q) (hE : ∀ (pc : Nat) (ls : Array Slot) (H : Heap) (locs : List Loc), decode b_FP_hasMore pc = .ok (.ireturn, 1) → narrow .boolean (.int r0) = .int r0 → va_P (dC, dI) classes [(h0, .inr (3, [.int v0_0, .int v0_1, .ref fTape, .ref fZone, .ref fCounts, .int fPos, .int fText])), (fTape, .inr (0, [.ref tpR, .int tpS]))] H → va_D A [(h0, .inr (3, [.int v0_0, .int v0_1, .ref fTape, .ref fZone, .ref fCounts, .int fPos, .int fText])), (fTape, .inr (0, [.ref tpR, .int tpS]))] → va_S A s.heap H locs → va_K (dC, dI) classes [] s → W p l e R s m args below meth c H locs 0 0 Q (F0 m pc ls [.int r0])) {s0 : Int32} {w0_0 : Int32} {w0_1 : Int32} (hf : f_FP_hasMore_36 nf s0 w0_0 w0_1 = some (r0, v0_0, v0_1)) {H : Heap} {locs : List Loc} {ls : Array Slot} (hK : va_K (dC, dI) classes [] s) (hP : va_P (dC, dI) classes [(h0, .inr (3, [.int w0_0, .int w0_1, .ref fTape, .ref fZone, .ref fCounts, .int fPos, .int fText])), (fTape, .inr (0, [.ref tpR, .int tpS]))] H) (hD : va_D A [(h0, .inr (3, [.int w0_0, .int w0_1, .ref fTape, .ref fZone, .ref fCounts, .int fPos, .int fText])), (fTape, .inr (0, [.ref tpR, .int tpS]))]) (hS : va_S A s.heap H locs) (hl : lv_has ls 2 []) : W p l e R s m args below meth c H locs 0 0 Q (F0 m 36 ls [.int s0]) := by
  obtain ⟨hx, hb, hr, hml, hown, hts, hlocks, hRf, hRl⟩ := id C0
  obtain ⟨tms, hZms, hTms, tmg, hZmg, hTmg, hNW⟩ := id hST
  unfold f_FP_hasMore_36 at hf
  obtain ⟨c_2, hf⟩ := it_g hf
  cases rs hf
  exact hE _ _ _ _ d_FP_hasMore_36 (nb_of c_2) hP hD hS hK
set_option maxHeartbeats 400000 in
set_option maxRecDepth 100000 in
theorem k_FP_hasMore_31 (C0 : Cx p s m meth c args R b_FP_hasMore "ZoneFiles$FileParser" 2 (some .boolean) 1 22) (hST : ST A s s.heap) (hA : ∀ q, s.heap.size ≤ q → A q) (hE : ∀ (pc : Nat) (ls : Array Slot) (H : Heap) (locs : List Loc), decode b_FP_hasMore pc = .ok (.ireturn, 1) → narrow .boolean (.int r0) = .int r0 → va_P (dC, dI) classes [(h0, .inr (3, [.int v0_0, .int v0_1, .ref fTape, .ref fZone, .ref fCounts, .int fPos, .int fText])), (fTape, .inr (0, [.ref tpR, .int tpS]))] H → va_D A [(h0, .inr (3, [.int v0_0, .int v0_1, .ref fTape, .ref fZone, .ref fCounts, .int fPos, .int fText])), (fTape, .inr (0, [.ref tpR, .int tpS]))] → va_S A s.heap H locs → va_K (dC, dI) classes [] s → W p l e R s m args below meth c H locs 0 0 Q (F0 m pc ls [.int r0])) {w0_0 : Int32} {w0_1 : Int32} (hf : f_FP_hasMore_31 nf w0_0 w0_1 = some (r0, v0_0, v0_1)) {H : Heap} {locs : List Loc} {ls : Array Slot} (hK : va_K (dC, dI) classes [] s) (hP : va_P (dC, dI) classes [(h0, .inr (3, [.int w0_0, .int w0_1, .ref fTape, .ref fZone, .ref fCounts, .int fPos, .int fText])), (fTape, .inr (0, [.ref tpR, .int tpS]))] H) (hD : va_D A [(h0, .inr (3, [.int w0_0, .int w0_1, .ref fTape, .ref fZone, .ref fCounts, .int fPos, .int fText])), (fTape, .inr (0, [.ref tpR, .int tpS]))]) (hS : va_S A s.heap H locs) (hl : lv_has ls 2 []) : W p l e R s m args below meth c H locs 0 0 Q (F0 m 31 ls []) := by
  obtain ⟨hx, hb, hr, hml, hown, hts, hlocks, hRf, hRl⟩ := id C0
  obtain ⟨tms, hZms, hTms, tmg, hZmg, hTmg, hNW⟩ := id hST
  unfold f_FP_hasMore_31 at hf
  refine lv_iconst (v := 1) hx hb d_FP_hasMore_31 (by decide) ?_
  refine lv_goto (tgt := 36) hx hb d_FP_hasMore_32 (by decide) ?_
  exact k_FP_hasMore_36 C0 hST hA hE hf hK hP hD hS (lv_sub hl [] rfl)
set_option maxHeartbeats 400000 in
set_option maxRecDepth 100000 in
theorem k_FP_hasMore_0 (C0 : Cx p s m meth c args R b_FP_hasMore "ZoneFiles$FileParser" 2 (some .boolean) 1 22) (hST : ST A s s.heap) (hA : ∀ q, s.heap.size ≤ q → A q) (hE : ∀ (pc : Nat) (ls : Array Slot) (H : Heap) (locs : List Loc), decode b_FP_hasMore pc = .ok (.ireturn, 1) → narrow .boolean (.int r0) = .int r0 → va_P (dC, dI) classes [(h0, .inr (3, [.int v0_0, .int v0_1, .ref fTape, .ref fZone, .ref fCounts, .int fPos, .int fText])), (fTape, .inr (0, [.ref tpR, .int tpS]))] H → va_D A [(h0, .inr (3, [.int v0_0, .int v0_1, .ref fTape, .ref fZone, .ref fCounts, .int fPos, .int fText])), (fTape, .inr (0, [.ref tpR, .int tpS]))] → va_S A s.heap H locs → va_K (dC, dI) classes [] s → W p l e R s m args below meth c H locs 0 0 Q (F0 m pc ls [.int r0])) {x1 : Int32} {w0_0 : Int32} {w0_1 : Int32} (hf : f_FP_hasMore_0 nf fPos tpS x1 w0_0 w0_1 = some (r0, v0_0, v0_1)) {H : Heap} {locs : List Loc} {ls : Array Slot} (hK : va_K (dC, dI) classes [] s) (hP : va_P (dC, dI) classes [(h0, .inr (3, [.int w0_0, .int w0_1, .ref fTape, .ref fZone, .ref fCounts, .int fPos, .int fText])), (fTape, .inr (0, [.ref tpR, .int tpS]))] H) (hD : va_D A [(h0, .inr (3, [.int w0_0, .int w0_1, .ref fTape, .ref fZone, .ref fCounts, .int fPos, .int fText])), (fTape, .inr (0, [.ref tpR, .int tpS]))]) (hS : va_S A s.heap H locs) (hl : lv_has ls 2 [(0, .ref h0), (1, .int x1)]) : W p l e R s m args below meth c H locs 0 0 Q (F0 m 0 ls []) := by
  obtain ⟨hx, hb, hr, hml, hown, hts, hlocks, hRf, hRl⟩ := id C0
  obtain ⟨tms, hZms, hTms, tmg, hZmg, hTmg, hNW⟩ := id hST
  unfold f_FP_hasMore_0 at hf
  refine lv_aload_n hx hb d_FP_hasMore_0 rfl (lv_at hl 0 rfl) ?_
  refine va_get (D := (dC, dI)) (ci := 3) (v := .ref fTape) (C := RFileParser) (T := TFileParser) (N := 7) hx hb hts in_FileParser hown hK hP 0 rfl rfl 2 (by decide) (hts (.fieldLink "ZoneFiles$FileParser" 9 "ZoneFiles$FileParser" "tape" "LZoneFiles$Bytes;") m_3_160) (fun _ h9 => h9) rfl d_FP_hasMore_1 ?_
  refine va_get (D := (dC, dI)) (ci := 0) (v := .int tpS) (C := RBytes) (T := TBytes) (N := 2) hx hb hts in_Bytes hown hK hP 1 rfl rfl 1 (by decide) (hts (.fieldLink "ZoneFiles$FileParser" 56 "ZoneFiles$Bytes" "size" "I") m_1_43) (fun _ h9 => h9) rfl d_FP_hasMore_4 ?_
  refine lv_aload_n hx hb d_FP_hasMore_7 rfl (lv_at hl 0 rfl) ?_
  refine va_get (D := (dC, dI)) (ci := 3) (v := .int fPos) (C := RFileParser) (T := TFileParser) (N := 7) hx hb hts in_FileParser hown hK hP 0 rfl rfl 5 (by decide) (hts (.fieldLink "ZoneFiles$FileParser" 44 "ZoneFiles$FileParser" "pos" "I") m_3_163) (fun _ h9 => h9) rfl d_FP_hasMore_8 ?_
  refine lv_isub hx hb d_FP_hasMore_11 ?_
  refine lv_iload_n hx hb d_FP_hasMore_12 rfl (lv_at hl 1 rfl) ?_
  refine lv_icmp_ge (tgt := 31) hx hb d_FP_hasMore_13 (by decide) (fun c_1 => ?_) (fun c_1 => ?_)
  · have hf := it_t c_1 hf
    exact k_FP_hasMore_31 C0 hST hA hE hf hK hP hD hS (lv_sub hl [] rfl)
  · have hf := it_f c_1 hf
    refine lv_aload_n hx hb d_FP_hasMore_16 rfl (lv_at hl 0 rfl) ?_
    refine lv_iconst (v := 1) hx hb d_FP_hasMore_17 (by decide) ?_
    refine lv_aload_n hx hb d_FP_hasMore_18 rfl (lv_at hl 0 rfl) ?_
    refine va_get (D := (dC, dI)) (ci := 3) (v := .ref fTape) (C := RFileParser) (T := TFileParser) (N := 7) hx hb hts in_FileParser hown hK hP 0 rfl rfl 2 (by decide) (hts (.fieldLink "ZoneFiles$FileParser" 9 "ZoneFiles$FileParser" "tape" "LZoneFiles$Bytes;") m_3_160) (fun _ h9 => h9) rfl d_FP_hasMore_19 ?_
    refine va_get (D := (dC, dI)) (ci := 0) (v := .int tpS) (C := RBytes) (T := TBytes) (N := 2) hx hb hts in_Bytes hown hK hP 1 rfl rfl 1 (by decide) (hts (.fieldLink "ZoneFiles$FileParser" 56 "ZoneFiles$Bytes" "size" "I") m_1_43) (fun _ h9 => h9) rfl d_FP_hasMore_22 ?_
    obtain ⟨⟨z_3, z_4, z_5⟩, hc, hf⟩ := ob hf
    have hPc := hP.sub (ws' := [(h0, .inr (3, [.int w0_0, .int w0_1, .ref fTape, .ref fZone, .ref fCounts, .int fPos, .int fText]))]) [0] rfl
    have hDc := hD.sub (ws' := [(h0, .inr (3, [.int w0_0, .int w0_1, .ref fTape, .ref fZone, .ref fCounts, .int fPos, .int fText]))]) [0] (by decide) rfl
    have hKc := hK.sub (tys' := []) [] rfl
    have hFc := va_free (wc := [(h0, .inr (3, [.int w0_0, .int w0_1, .ref fTape, .ref fZone, .ref fCounts, .int fPos, .int fText]))]) hD hS hA [0] rfl
    refine cl_M (v := (some (.int z_3))) (st1 := [.int z_3]) (va_runV (As := [.int 1, .int tpS]) (rest := []) ⟨hx, hb, hml, hown, hts⟩ (c_FP_fail l dC dI h0 fTape fZone fCounts H.size nf 1 tpS w0_0 w0_1 fPos fText hc) (cwV 2 hts (gdV m_3_191 m_3_193 msel_16 m_1_16 m_3_194) rfl rfl rfl (by decide +kernel) ⟨Nat.le_trans (Nat.le_of_ble_eq_true rfl) hRf, Nat.le_trans (Nat.le_of_ble_eq_true rfl) hRl⟩) ((MU.pre hPc hKc hDc (hST.mu hS hFc)).vir (va_recv hKc hPc (ci := 3) (q0 := 0) rfl rfl)) rfl rfl hl.1 rfl (lv_room (Nat.le_of_ble_eq_true rfl)) d_FP_hasMore_25 ⟨Nat.zero_le _, Nat.zero_le _⟩) rfl hS (fun q _ h => hFc q h) hFc (fun t H1 locs ht hvm hB hz1 hk1 hS => ?_)
    obtain ⟨hP1, hK1, hD1⟩ := hB
    rw [ht] at hP1
    have hK1 := va_K.moved hvm.symm hK1
    obtain ⟨hP, hD⟩ := va_join (wr := [(fTape, .inr (0, [.ref tpR, .int tpS]))]) (w1 := [(h0, .inr (3, [.int z_4, .int z_5, .ref fTape, .ref fZone, .ref fCounts, .int fPos, .int fText]))]) hP hD [0] [1] rfl rfl (by decide) (by decide) hk1 hFc hP1 hD1
    have hK := (hK.sub (tys' := []) [] rfl).app hK1
    generalize H1 = H at hP hS ⊢
    have hP := hP.sub (ws' := [(h0, .inr (3, [.int z_4, .int z_5, .ref fTape, .ref fZone, .ref fCounts, .int fPos, .int fText])), (fTape, .inr (0, [.ref tpR, .int tpS]))]) [1, 0] rfl
    have hD := hD.sub (ws' := [(h0, .inr (3, [.int z_4, .int z_5, .ref fTape, .ref fZone, .ref fCounts, .int fPos, .int fText])), (fTape, .inr (0, [.ref tpR, .int tpS]))]) [1, 0] (by decide) rfl
    have hK := hK.sub (tys' := []) [] rfl
    refine lv_if_eq (tgt := 35) hx hb d_FP_hasMore_28 (by decide) (fun c_6 => ?_) (fun c_6 => ?_)
    · have hf := it_t c_6 hf
      refine lv_iconst (v := 0) hx hb d_FP_hasMore_35 (by decide) ?_
      exact k_FP_hasMore_36 C0 hST hA hE hf hK hP hD hS (lv_sub hl [] rfl)
    · have hf := it_f c_6 hf
      exact k_FP_hasMore_31 C0 hST hA hE hf hK hP hD hS (lv_sub hl [] rfl)
end
set_option maxHeartbeats 400000 in
set_option maxRecDepth 100000 in
theorem c_FP_hasMore (l : Launch) (dC : Nat → ClassId) (dI : Nat → Nat → Nat) (h0 : Nat) (fTape : Nat) (fZone : Nat) (fCounts : Nat) (tpR : Nat) (sz : Nat) (nf : Nat) (p0 : Int32) (fFault : Int32) (fPlace : Int32) (fPos : Int32) (fText : Int32) (tpS : Int32) {r0 : Int32} {v0_0 : Int32} {v0_1 : Int32} (hf : f_FP_hasMore nf p0 fFault fPlace fPos tpS = some (r0, v0_0, v0_1)) : Met l y_FP_hasMore (wd y_FP_hasMore b_FP_hasMore 2 (some .boolean)) ({ frames := 1, cells := 0, slots := 0, locals := 22 }) (MU dC dI [(h0, .inr (3, [.int fFault, .int fPlace, .ref fTape, .ref fZone, .ref fCounts, .int fPos, .int fText])), (fTape, .inr (0, [.ref tpR, .int tpS]))] [] sz [.ref h0, .int p0]) (MV (some (.int r0)) (fun t => va_P (dC, dI) classes [(h0, .inr (3, [.int v0_0, .int v0_1, .ref fTape, .ref fZone, .ref fCounts, .int fPos, .int fText])), (fTape, .inr (0, [.ref tpR, .int tpS]))] t.heap ∧ va_K (dC, dI) classes [] t ∧ va_D (va_A [(h0, .inr (3, [.int fFault, .int fPlace, .ref fTape, .ref fZone, .ref fCounts, .int fPos, .int fText])), (fTape, .inr (0, [.ref tpR, .int tpS]))] sz) [(h0, .inr (3, [.int v0_0, .int v0_1, .ref fTape, .ref fZone, .ref fCounts, .int fPos, .int fText])), (fTape, .inr (0, [.ref tpR, .int tpS]))]) (va_A [(h0, .inr (3, [.int fFault, .int fPlace, .ref fTape, .ref fZone, .ref fCounts, .int fPos, .int fText])), (fTape, .inr (0, [.ref tpR, .int tpS]))] sz)) 0 0 (va_A [(h0, .inr (3, [.int fFault, .int fPlace, .ref fTape, .ref fZone, .ref fCounts, .int fPos, .int fText])), (fTape, .inr (0, [.ref tpR, .int tpS]))] sz) :=
  met_M (plainFor_of_name (by decide)) (Nat.le_of_ble_eq_true rfl) (fun p e R s m args below meth c ls hRc hRs hsz hin C0 hST hK hP hD hl => by
    obtain ⟨hx, hb, hr, hml, hown, hts, hlocks, hRf, hRl⟩ := id C0
    subst hsz
    have hA : ∀ q : Nat, s.heap.size ≤ q → va_A [(h0, .inr (3, [.int fFault, .int fPlace, .ref fTape, .ref fZone, .ref fCounts, .int fPos, .int fText])), (fTape, .inr (0, [.ref tpR, .int tpS]))] s.heap.size q := fun q h => Or.inr h
    have hS : va_S (va_A [(h0, .inr (3, [.int fFault, .int fPlace, .ref fTape, .ref fZone, .ref fCounts, .int fPos, .int fText])), (fTape, .inr (0, [.ref tpR, .int tpS]))] s.heap.size) s.heap s.heap [] := va_S.rf
    unfold f_FP_hasMore at hf
    exact k_FP_hasMore_0 C0 hST hA (fun pc ls H locs hd hn hP hD hS hK => W.zret hx hb hr hn (fun t ht hW => ⟨⟨rfl, ⟨by rw [ht]; exact hP, va_K.moved hW.alike hK, hD⟩⟩, hS.F ht⟩) hS.2.2 hd) hf hK hP hD hS (lv_sub hl [0, 1] rfl))
-- ZoneFiles$FileParser.count(I)I
def f_FP_count_24 (nf : Nat) (s0 : Int32) : Option (Int32) :=
  some s0
def f_FP_count_13 (nf : Nat) : Option (Int32) :=
  f_FP_count_24 nf 0
def f_FP_count_0 (nf : Nat) (fCountsA : Nat → Int64) (x1 : Int32) : Option (Int32) :=
  if x1 < 0 then
  f_FP_count_13 nf
  else
  if x1 < (6 : Int32) then
    if x1 < 0 ∨ 6 ≤ x1.toNatClampNeg then none else
      f_FP_count_24 nf ((fCountsA x1.toNatClampNeg).toInt32)
    else
    f_FP_count_13 nf
def f_FP_count (nf : Nat) (p0 : Int32) (fCountsA : Nat → Int64) : Option (Int32) :=
  f_FP_count_0 nf fCountsA p0
section
variable {p : Program} {l : Launch} {e : Env} {R : Room} {s : State} {m : MethodId} {args : Array Value} {below : List Frame} {meth : Method} {c : Code} {Q : State → Prop} {dC : Nat → ClassId} {dI : Nat → Nat → Nat} {nf : Nat}
variable {h0 : Nat} {fTape : Nat} {fZone : Nat} {fCounts : Nat} {cAfCounts : ClassId} {fFault : Int32} {fPlace : Int32} {fPos : Int32} {fText : Int32} {fCountsA : Nat → Int64} {r0 : Int32}
set_option maxHeartbeats 400000 in
set_option maxRecDepth 100000 in
theorem k_FP_count_24 (C0 : Cx p s m meth c args R b_FP_count "ZoneFiles$FileParser" 2 (some .int) 0 0) (hST : ST (fun _ => False) s s.heap) (hK : va_K (dC, dI) classes [(cAfCounts, .long)] s) (hP : va_P (dC, dI) classes [(h0, .inr (3, [.int fFault, .int fPlace, .ref fTape, .ref fZone, .ref fCounts, .int fPos, .int fText])), (fCounts, .inl (cAfCounts, 6, .inr (.inl fCountsA)))] s.heap) (hE : ∀ (pc : Nat) (ls : Array Slot), decode b_FP_count pc = .ok (.ireturn, 1) → narrow .int (.int r0) = .int r0 → W p l e R s m args below meth c s.heap [] 0 0 Q (F0 m pc ls [.int r0])) {s0 : Int32} (hf : f_FP_count_24 nf s0 = some r0) {ls : Array Slot} (hl : lv_has ls 2 []) : W p l e R s m args below meth c s.heap [] 0 0 Q (F0 m 24 ls [.int s0]) := by
  obtain ⟨hx, hb, hr, hml, hown, hts, hlocks, hRf, hRl⟩ := id C0
  obtain ⟨tms, hZms, hTms, tmg, hZmg, hTmg, hNW⟩ := id hST
  unfold f_FP_count_24 at hf
  have e := rs hf
  subst e
  exact hE _ _ d_FP_count_24 rfl
set_option maxHeartbeats 400000 in
set_option maxRecDepth 100000 in
theorem k_FP_count_13 (C0 : Cx p s m meth c args R b_FP_count "ZoneFiles$FileParser" 2 (some .int) 0 0) (hST : ST (fun _ => False) s s.heap) (hK : va_K (dC, dI) classes [(cAfCounts, .long)] s) (hP : va_P (dC, dI) classes [(h0, .inr (3, [.int fFault, .int fPlace, .ref fTape, .ref fZone, .ref fCounts, .int fPos, .int fText])), (fCounts, .inl (cAfCounts, 6, .inr (.inl fCountsA)))] s.heap) (hE : ∀ (pc : Nat) (ls : Array Slot), decode b_FP_count pc = .ok (.ireturn, 1) → narrow .int (.int r0) = .int r0 → W p l e R s m args below meth c s.heap [] 0 0 Q (F0 m pc ls [.int r0])) (hf : f_FP_count_13 nf = some r0) {ls : Array Slot} (hl : lv_has ls 2 []) : W p l e R s m args below meth c s.heap [] 0 0 Q (F0 m 13 ls []) := by
  obtain ⟨hx, hb, hr, hml, hown, hts, hlocks, hRf, hRl⟩ := id C0
  obtain ⟨tms, hZms, hTms, tmg, hZmg, hTmg, hNW⟩ := id hST
  unfold f_FP_count_13 at hf
  refine lv_iconst (v := 0) hx hb d_FP_count_13 (by decide) ?_
  refine lv_goto (tgt := 24) hx hb d_FP_count_14 (by decide) ?_
  exact k_FP_count_24 C0 hST hK hP hE hf (lv_sub hl [] rfl)
set_option maxHeartbeats 400000 in
set_option maxRecDepth 100000 in
theorem k_FP_count_0 (C0 : Cx p s m meth c args R b_FP_count "ZoneFiles$FileParser" 2 (some .int) 0 0) (hST : ST (fun _ => False) s s.heap) (hK : va_K (dC, dI) classes [(cAfCounts, .long)] s) (hP : va_P (dC, dI) classes [(h0, .inr (3, [.int fFault, .int fPlace, .ref fTape, .ref fZone, .ref fCounts, .int fPos, .int fText])), (fCounts, .inl (cAfCounts, 6, .inr (.inl fCountsA)))] s.heap) (hE : ∀ (pc : Nat) (ls : Array Slot), decode b_FP_count pc = .ok (.ireturn, 1) → narrow .int (.int r0) = .int r0 → W p l e R s m args below meth c s.heap [] 0 0 Q (F0 m pc ls [.int r0])) {x1 : Int32} (hf : f_FP_count_0 nf fCountsA x1 = some r0) {ls : Array Slot} (hl : lv_has ls 2 [(0, .ref h0), (1, .int x1)]) : W p l e R s m args below meth c s.heap [] 0 0 Q (F0 m 0 ls []) := by
  obtain ⟨hx, hb, hr, hml, hown, hts, hlocks, hRf, hRl⟩ := id C0
  obtain ⟨tms, hZms, hTms, tmg, hZmg, hTmg, hNW⟩ := id hST
  unfold f_FP_count_0 at hf
  refine lv_iload_n hx hb d_FP_count_0 rfl (lv_at hl 1 rfl) ?_
  refine lv_if_lt (tgt := 13) hx hb d_FP_count_1 (by decide) (fun c_1 => ?_) (fun c_1 => ?_)
  · have hf := it_t c_1 hf
    exact k_FP_count_13 C0 hST hK hP hE hf (lv_sub hl [] rfl)
  · have hf := it_f c_1 hf
    refine lv_iload_n hx hb d_FP_count_4 rfl (lv_at hl 1 rfl) ?_
    refine lv_aload_n hx hb d_FP_count_5 rfl (lv_at hl 0 rfl) ?_
    refine va_get (D := (dC, dI)) (ci := 3) (v := .ref fCounts) (C := RFileParser) (T := TFileParser) (N := 7) hx hb hts in_FileParser hown hK hP 0 rfl rfl 4 (by decide) (hts (.fieldLink "ZoneFiles$FileParser" 19 "ZoneFiles$FileParser" "counts" "[J") m_3_162) (fun _ h9 => h9) rfl d_FP_count_6 ?_
    refine va_alen (v := 6) hx hb hK hP 1 0 rfl rfl rfl d_FP_count_9 ?_
    refine lv_icmp_lt (tgt := 17) hx hb d_FP_count_10 (by decide) (fun c_2 => ?_) (fun c_2 => ?_)
    · have hf := it_t c_2 hf
      refine lv_aload_n hx hb d_FP_count_17 rfl (lv_at hl 0 rfl) ?_
      refine va_get (D := (dC, dI)) (ci := 3) (v := .ref fCounts) (C := RFileParser) (T := TFileParser) (N := 7) hx hb hts in_FileParser hown hK hP 0 rfl rfl 4 (by decide) (hts (.fieldLink "ZoneFiles$FileParser" 19 "ZoneFiles$FileParser" "counts" "[J") m_3_162) (fun _ h9 => h9) rfl d_FP_count_18 ?_
      refine lv_iload_n hx hb d_FP_count_21 rfl (lv_at hl 1 rfl) ?_
      obtain ⟨c_3, hf⟩ := it_n hf
      refine va_lald hx hb hK hP 1 0 rfl rfl c_3 d_FP_count_22 ?_
      refine lv_l2i hx hb d_FP_count_23 rfl ?_
      exact k_FP_count_24 C0 hST hK hP hE hf (lv_sub hl [] rfl)
    · have hf := it_f c_2 hf
      exact k_FP_count_13 C0 hST hK hP hE hf (lv_sub hl [] rfl)
end
set_option maxHeartbeats 400000 in
set_option maxRecDepth 100000 in
theorem c_FP_count (l : Launch) (dC : Nat → ClassId) (dI : Nat → Nat → Nat) (h0 : Nat) (fTape : Nat) (fZone : Nat) (fCounts : Nat) (cAfCounts : ClassId) (nf : Nat) (p0 : Int32) (fFault : Int32) (fPlace : Int32) (fPos : Int32) (fText : Int32) (fCountsA : Nat → Int64) {r0 : Int32} (hf : f_FP_count nf p0 fCountsA = some r0) : Met l y_FP_count (wd y_FP_count b_FP_count 2 (some .int)) ({ frames := 0, cells := 0, slots := 0, locals := 0 }) (RO dC dI [(h0, .inr (3, [.int fFault, .int fPlace, .ref fTape, .ref fZone, .ref fCounts, .int fPos, .int fText])), (fCounts, .inl (cAfCounts, 6, .inr (.inl fCountsA)))] [(cAfCounts, .long)] [.ref h0, .int p0]) (SV (some (.int r0))) 0 0 (fun _ => False) :=
  met_S (plainFor_of_name (by decide)) (Nat.le_of_ble_eq_true rfl) (fun p e R s m args below meth c ls C0 hST hK hP hl => by
    obtain ⟨hx, hb, hr, hml, hown, hts, hlocks, hRf, hRl⟩ := id C0
    unfold f_FP_count at hf
    exact k_FP_count_0 C0 hST hK hP (fun pc ls hd hn => W.zret hx hb hr hn (fun t ht hW => ⟨rfl, ht⟩) (fun q h => by cases h) hd) hf (lv_sub hl [0, 1] rfl))
-- ZoneFiles$FileParser.isVersion(IZ)Z
def f_FP_isVersion_42 (nf : Nat) (s0 : Int32) : Option (Int32) :=
  if s0 = 0 ∨ s0 = 1 then some s0 else none
def f_FP_isVersion_37 (nf : Nat) : Option (Int32) :=
  f_FP_isVersion_42 nf 1
def f_FP_isVersion_20 (nf : Nat) (s0 : Int32) : Option (Int32) :=
  if s0 = 0 ∨ s0 = 1 then some s0 else none
def f_FP_isVersion_0 (nf : Nat) (zVer : Int32) (x1 : Int32) (x2 : Int32) : Option (Int32) :=
  if x2 = 0 then
  if x1 = zVer then
    f_FP_isVersion_20 nf 1
    else
    f_FP_isVersion_20 nf 0
  else
  if x1 = 0 then
    f_FP_isVersion_37 nf
    else
    if x1 = (50 : Int32) then
      f_FP_isVersion_37 nf
      else
      if x1 = (51 : Int32) then
        f_FP_isVersion_37 nf
        else
        f_FP_isVersion_42 nf 0
def f_FP_isVersion (nf : Nat) (p0 : Int32) (p1 : Int32) (zVer : Int32) : Option (Int32) :=
  f_FP_isVersion_0 nf zVer p0 p1
section
variable {p : Program} {l : Launch} {e : Env} {R : Room} {s : State} {m : MethodId} {args : Array Value} {below : List Frame} {meth : Method} {c : Code} {Q : State → Prop} {dC : Nat → ClassId} {dI : Nat → Nat → Nat} {nf : Nat}
variable {h0 : Nat} {fTape : Nat} {fZone : Nat} {fCounts : Nat} {zTi : Nat} {zTt : Nat} {zOf : Nat} {zDs : Nat} {zIx : Nat} {zSd : Nat} {zUt : Nat} {zCh : Nat} {zLt : Nat} {zLo : Nat} {zRu : Nat} {fFault : Int32} {fPlace : Int32} {fPos : Int32} {fText : Int32} {zVer : Int32} {zTic : Int32} {zTyc : Int32} {zLec : Int32} {zStc : Int32} {zUtc : Int32} {r0 : Int32}
set_option maxHeartbeats 400000 in
set_option maxRecDepth 100000 in
theorem k_FP_isVersion_42 (C0 : Cx p s m meth c args R b_FP_isVersion "ZoneFiles$FileParser" 3 (some .boolean) 0 0) (hST : ST (fun _ => False) s s.heap) (hK : va_K (dC, dI) classes [] s) (hP : va_P (dC, dI) classes [(h0, .inr (3, [.int fFault, .int fPlace, .ref fTape, .ref fZone, .ref fCounts, .int fPos, .int fText])), (fZone, .inr (8, [.int zVer, .int zTic, .int zTyc, .int zLec, .int zStc, .int zUtc, .ref zTi, .ref zTt, .ref zOf, .ref zDs, .ref zIx, .ref zSd, .ref zUt, .ref zCh, .ref zLt, .ref zLo, .ref zRu]))] s.heap) (hE : ∀ (pc : Nat) (ls : Array Slot), decode b_FP_isVersion pc = .ok (.ireturn, 1) → narrow .boolean (.int r0) = .int r0 → W p l e R s m args below meth c s.heap [] 0 0 Q (F0 m pc ls [.int r0])) {s0 : Int32} (hf : f_FP_isVersion_42 nf s0 = some r0) {ls : Array Slot} (hl : lv_has ls 3 []) : W p l e R s m args below meth c s.heap [] 0 0 Q (F0 m 42 ls [.int s0]) := by
  obtain ⟨hx, hb, hr, hml, hown, hts, hlocks, hRf, hRl⟩ := id C0
  obtain ⟨tms, hZms, hTms, tmg, hZmg, hTmg, hNW⟩ := id hST
  unfold f_FP_isVersion_42 at hf
  obtain ⟨c_3, hf⟩ := it_g hf
  have e := rs hf
  subst e
  exact hE _ _ d_FP_isVersion_42 (nb_of c_3)
set_option maxHeartbeats 400000 in
set_option maxRecDepth 100000 in
theorem k_FP_isVersion_37 (C0 : Cx p s m meth c args R b_FP_isVersion "ZoneFiles$FileParser" 3 (some .boolean) 0 0) (hST : ST (fun _ => False) s s.heap) (hK : va_K (dC, dI) classes [] s) (hP : va_P (dC, dI) classes [(h0, .inr (3, [.int fFault, .int fPlace, .ref fTape, .ref fZone, .ref fCounts, .int fPos, .int fText])), (fZone, .inr (8, [.int zVer, .int zTic, .int zTyc, .int zLec, .int zStc, .int zUtc, .ref zTi, .ref zTt, .ref zOf, .ref zDs, .ref zIx, .ref zSd, .ref zUt, .ref zCh, .ref zLt, .ref zLo, .ref zRu]))] s.heap) (hE : ∀ (pc : Nat) (ls : Array Slot), decode b_FP_isVersion pc = .ok (.ireturn, 1) → narrow .boolean (.int r0) = .int r0 → W p l e R s m args below meth c s.heap [] 0 0 Q (F0 m pc ls [.int r0])) (hf : f_FP_isVersion_37 nf = some r0) {ls : Array Slot} (hl : lv_has ls 3 []) : W p l e R s m args below meth c s.heap [] 0 0 Q (F0 m 37 ls []) := by
  obtain ⟨hx, hb, hr, hml, hown, hts, hlocks, hRf, hRl⟩ := id C0
  obtain ⟨tms, hZms, hTms, tmg, hZmg, hTmg, hNW⟩ := id hST
  unfold f_FP_isVersion_37 at hf
  refine lv_iconst (v := 1) hx hb d_FP_isVersion_37 (by decide) ?_
  refine lv_goto (tgt := 42) hx hb d_FP_isVersion_38 (by decide) ?_
  exact k_FP_isVersion_42 C0 hST hK hP hE hf (lv_sub hl [] rfl)
set_option maxHeartbeats 400000 in
set_option maxRecDepth 100000 in
theorem k_FP_isVersion_20 (C0 : Cx p s m meth c args R b_FP_isVersion "ZoneFiles$FileParser" 3 (some .boolean) 0 0) (hST : ST (fun _ => False) s s.heap) (hK : va_K (dC, dI) classes [] s) (hP : va_P (dC, dI) classes [(h0, .inr (3, [.int fFault, .int fPlace, .ref fTape, .ref fZone, .ref fCounts, .int fPos, .int fText])), (fZone, .inr (8, [.int zVer, .int zTic, .int zTyc, .int zLec, .int zStc, .int zUtc, .ref zTi, .ref zTt, .ref zOf, .ref zDs, .ref zIx, .ref zSd, .ref zUt, .ref zCh, .ref zLt, .ref zLo, .ref zRu]))] s.heap) (hE : ∀ (pc : Nat) (ls : Array Slot), decode b_FP_isVersion pc = .ok (.ireturn, 1) → narrow .boolean (.int r0) = .int r0 → W p l e R s m args below meth c s.heap [] 0 0 Q (F0 m pc ls [.int r0])) {s0 : Int32} (hf : f_FP_isVersion_20 nf s0 = some r0) {ls : Array Slot} (hl : lv_has ls 3 []) : W p l e R s m args below meth c s.heap [] 0 0 Q (F0 m 20 ls [.int s0]) := by
  obtain ⟨hx, hb, hr, hml, hown, hts, hlocks, hRf, hRl⟩ := id C0
  obtain ⟨tms, hZms, hTms, tmg, hZmg, hTmg, hNW⟩ := id hST
  unfold f_FP_isVersion_20 at hf
  obtain ⟨c_7, hf⟩ := it_g hf
  have e := rs hf
  subst e
  exact hE _ _ d_FP_isVersion_20 (nb_of c_7)
set_option maxHeartbeats 400000 in
set_option maxRecDepth 100000 in
theorem k_FP_isVersion_0 (C0 : Cx p s m meth c args R b_FP_isVersion "ZoneFiles$FileParser" 3 (some .boolean) 0 0) (hST : ST (fun _ => False) s s.heap) (hK : va_K (dC, dI) classes [] s) (hP : va_P (dC, dI) classes [(h0, .inr (3, [.int fFault, .int fPlace, .ref fTape, .ref fZone, .ref fCounts, .int fPos, .int fText])), (fZone, .inr (8, [.int zVer, .int zTic, .int zTyc, .int zLec, .int zStc, .int zUtc, .ref zTi, .ref zTt, .ref zOf, .ref zDs, .ref zIx, .ref zSd, .ref zUt, .ref zCh, .ref zLt, .ref zLo, .ref zRu]))] s.heap) (hE : ∀ (pc : Nat) (ls : Array Slot), decode b_FP_isVersion pc = .ok (.ireturn, 1) → narrow .boolean (.int r0) = .int r0 → W p l e R s m args below meth c s.heap [] 0 0 Q (F0 m pc ls [.int r0])) {x1 : Int32} {x2 : Int32} (hf : f_FP_isVersion_0 nf zVer x1 x2 = some r0) {ls : Array Slot} (hl : lv_has ls 3 [(0, .ref h0), (1, .int x1), (2, .int x2)]) : W p l e R s m args below meth c s.heap [] 0 0 Q (F0 m 0 ls []) := by
  obtain ⟨hx, hb, hr, hml, hown, hts, hlocks, hRf, hRl⟩ := id C0
  obtain ⟨tms, hZms, hTms, tmg, hZmg, hTmg, hNW⟩ := id hST
  unfold f_FP_isVersion_0 at hf
  refine lv_iload_n hx hb d_FP_isVersion_0 rfl (lv_at hl 2 rfl) ?_
  refine lv_if_ne (tgt := 21) hx hb d_FP_isVersion_1 (by decide) (fun c_1 => ?_) (fun c_1 => ?_)
  · have hf := it_f c_1 hf
    refine lv_iload_n hx hb d_FP_isVersion_21 rfl (lv_at hl 1 rfl) ?_
    refine lv_if_eq (tgt := 37) hx hb d_FP_isVersion_22 (by decide) (fun c_2 => ?_) (fun c_2 => ?_)
    · have hf := it_t c_2 hf
      exact k_FP_isVersion_37 C0 hST hK hP hE hf (lv_sub hl [] rfl)
    · have hf := it_f c_2 hf
      refine lv_iload_n hx hb d_FP_isVersion_25 rfl (lv_at hl 1 rfl) ?_
      refine lv_bipush (v := 50) hx hb d_FP_isVersion_26 (by decide) ?_
      refine lv_icmp_eq (tgt := 37) hx hb d_FP_isVersion_28 (by decide) (fun c_4 => ?_) (fun c_4 => ?_)
      · have hf := it_t c_4 hf
        exact k_FP_isVersion_37 C0 hST hK hP hE hf (lv_sub hl [] rfl)
      · have hf := it_f c_4 hf
        refine lv_iload_n hx hb d_FP_isVersion_31 rfl (lv_at hl 1 rfl) ?_
        refine lv_bipush (v := 51) hx hb d_FP_isVersion_32 (by decide) ?_
        refine lv_icmp_ne (tgt := 41) hx hb d_FP_isVersion_34 (by decide) (fun c_5 => ?_) (fun c_5 => ?_)
        · have hf := it_f c_5 hf
          refine lv_iconst (v := 0) hx hb d_FP_isVersion_41 (by decide) ?_
          exact k_FP_isVersion_42 C0 hST hK hP hE hf (lv_sub hl [] rfl)
        · have hf := it_t c_5 hf
          exact k_FP_isVersion_37 C0 hST hK hP hE hf (lv_sub hl [] rfl)
  · have hf := it_t c_1 hf
    refine lv_iload_n hx hb d_FP_isVersion_4 rfl (lv_at hl 1 rfl) ?_
    refine lv_aload_n hx hb d_FP_isVersion_5 rfl (lv_at hl 0 rfl) ?_
    refine va_get (D := (dC, dI)) (ci := 3) (v := .ref fZone) (C := RFileParser) (T := TFileParser) (N := 7) hx hb hts in_FileParser hown hK hP 0 rfl rfl 3 (by decide) (hts (.fieldLink "ZoneFiles$FileParser" 15 "ZoneFiles$FileParser" "zone" "LZoneFiles$Zone;") m_3_161) (fun _ h9 => h9) rfl d_FP_isVersion_6 ?_
    refine va_get (D := (dC, dI)) (ci := 8) (v := .int zVer) (C := RZone) (T := TZone) (N := 17) hx hb hts in_Zone hown hK hP 1 rfl rfl 0 (by decide) (hts (.fieldLink "ZoneFiles$FileParser" 27 "ZoneFiles$Zone" "version" "I") m_1_163) (fun _ h9 => h9) rfl d_FP_isVersion_9 ?_
    refine lv_icmp_ne (tgt := 19) hx hb d_FP_isVersion_12 (by decide) (fun c_6 => ?_) (fun c_6 => ?_)
    · have hf := it_f c_6 hf
      refine lv_iconst (v := 0) hx hb d_FP_isVersion_19 (by decide) ?_
      exact k_FP_isVersion_20 C0 hST hK hP hE hf (lv_sub hl [] rfl)
    · have hf := it_t c_6 hf
      refine lv_iconst (v := 1) hx hb d_FP_isVersion_15 (by decide) ?_
      refine lv_goto (tgt := 20) hx hb d_FP_isVersion_16 (by decide) ?_
      exact k_FP_isVersion_20 C0 hST hK hP hE hf (lv_sub hl [] rfl)
end
set_option maxHeartbeats 400000 in
set_option maxRecDepth 100000 in
theorem c_FP_isVersion (l : Launch) (dC : Nat → ClassId) (dI : Nat → Nat → Nat) (h0 : Nat) (fTape : Nat) (fZone : Nat) (fCounts : Nat) (zTi : Nat) (zTt : Nat) (zOf : Nat) (zDs : Nat) (zIx : Nat) (zSd : Nat) (zUt : Nat) (zCh : Nat) (zLt : Nat) (zLo : Nat) (zRu : Nat) (nf : Nat) (p0 : Int32) (p1 : Int32) (fFault : Int32) (fPlace : Int32) (fPos : Int32) (fText : Int32) (zVer : Int32) (zTic : Int32) (zTyc : Int32) (zLec : Int32) (zStc : Int32) (zUtc : Int32) {r0 : Int32} (hf : f_FP_isVersion nf p0 p1 zVer = some r0) : Met l y_FP_isVersion (wd y_FP_isVersion b_FP_isVersion 3 (some .boolean)) ({ frames := 0, cells := 0, slots := 0, locals := 0 }) (RO dC dI [(h0, .inr (3, [.int fFault, .int fPlace, .ref fTape, .ref fZone, .ref fCounts, .int fPos, .int fText])), (fZone, .inr (8, [.int zVer, .int zTic, .int zTyc, .int zLec, .int zStc, .int zUtc, .ref zTi, .ref zTt, .ref zOf, .ref zDs, .ref zIx, .ref zSd, .ref zUt, .ref zCh, .ref zLt, .ref zLo, .ref zRu]))] [] [.ref h0, .int p0, .int p1]) (SV (some (.int r0))) 0 0 (fun _ => False) :=
  met_S (plainFor_of_name (by decide)) (Nat.le_of_ble_eq_true rfl) (fun p e R s m args below meth c ls C0 hST hK hP hl => by
    obtain ⟨hx, hb, hr, hml, hown, hts, hlocks, hRf, hRl⟩ := id C0
    unfold f_FP_isVersion at hf
    exact k_FP_isVersion_0 C0 hST hK hP (fun pc ls hd hn => W.zret hx hb hr hn (fun t ht hW => ⟨rfl, ht⟩) (fun q h => by cases h) hd) hf (lv_sub hl [0, 1, 2] rfl))
-- ZoneFiles$FileParser.countFits(IJ)Z
def f_FP_countFits_45 (nf : Nat) (s0 : Int32) : Option (Int32) :=
  if s0 = 0 ∨ s0 = 1 then some s0 else none
def f_FP_countFits_59 (nf : Nat) (s0 : Int32) : Option (Int32) :=
  if s0 = 0 ∨ s0 = 1 then some s0 else none
def f_FP_countFits_79 (nf : Nat) (s0 : Int32) : Option (Int32) :=
  if s0 = 0 ∨ s0 = 1 then some s0 else none
def f_FP_countFits_78 (nf : Nat) : Option (Int32) :=
  f_FP_countFits_79 nf 0
def f_FP_countFits_99 (nf : Nat) (s0 : Int32) : Option (Int32) :=
  if s0 = 0 ∨ s0 = 1 then some s0 else none
def f_FP_countFits_98 (nf : Nat) : Option (Int32) :=
  f_FP_countFits_99 nf 0
def f_FP_countFits_122 (nf : Nat) (s0 : Int32) : Option (Int32) :=
  if s0 = 0 ∨ s0 = 1 then some s0 else none
def f_FP_countFits_117 (nf : Nat) : Option (Int32) :=
  f_FP_countFits_122 nf 1
def f_FP_countFits_0 (nf : Nat) (fCountsA : Nat → Int64) (x1 : Int32) (x2 : Int64) : Option (Int32) :=
  if x1 = 2 then
  if (40 : Int64) < x2 then
    f_FP_countFits_45 nf 0
    else
    f_FP_countFits_45 nf 1
  else
  if x1 = 3 then
    if (200 : Int64) < x2 then
      f_FP_countFits_59 nf 0
      else
      f_FP_countFits_59 nf 1
    else
    if x1 = 4 then
      if x2 < (1 : Int64) then
        f_FP_countFits_78 nf
        else
        if (40 : Int64) < x2 then
          f_FP_countFits_78 nf
          else
          f_FP_countFits_79 nf 1
      else
      if x1 = 5 then
        if x2 < (1 : Int64) then
          f_FP_countFits_98 nf
          else
          if (200 : Int64) < x2 then
            f_FP_countFits_98 nf
            else
            f_FP_countFits_99 nf 1
        else
        if x2 = (0 : Int64) then
          f_FP_countFits_117 nf
          else
          if (4 : Int32) < 0 ∨ 6 ≤ (4 : Int32).toNatClampNeg then none else
            if x2 = (fCountsA (4 : Int32).toNatClampNeg) then
            f_FP_countFits_117 nf
            else
            f_FP_countFits_122 nf 0
def f_FP_countFits (nf : Nat) (p0 : Int32) (p1 : Int64) (fCountsA : Nat → Int64) : Option (Int32) :=
  f_FP_countFits_0 nf fCountsA p0 p1
section
variable {p : Program} {l : Launch} {e : Env} {R : Room} {s : State} {m : MethodId} {args : Array Value} {below : List Frame} {meth : Method} {c : Code} {Q : State → Prop} {dC : Nat → ClassId} {dI : Nat → Nat → Nat} {nf : Nat}
variable {h0 : Nat} {fTape : Nat} {fZone : Nat} {fCounts : Nat} {cAfCounts : ClassId} {fFault : Int32} {fPlace : Int32} {fPos : Int32} {fText : Int32} {fCountsA : Nat → Int64} {r0 : Int32}
set_option maxHeartbeats 400000 in
set_option maxRecDepth 100000 in
theorem k_FP_countFits_45 (C0 : Cx p s m meth c args R b_FP_countFits "ZoneFiles$FileParser" 4 (some .boolean) 0 0) (hST : ST (fun _ => False) s s.heap) (hK : va_K (dC, dI) classes [(cAfCounts, .long)] s) (hP : va_P (dC, dI) classes [(h0, .inr (3, [.int fFault, .int fPlace, .ref fTape, .ref fZone, .ref fCounts, .int fPos, .int fText])), (fCounts, .inl (cAfCounts, 6, .inr (.inl fCountsA)))] s.heap) (hE : ∀ (pc : Nat) (ls : Array Slot), decode b_FP_countFits pc = .ok (.ireturn, 1) → narrow .boolean (.int r0) = .int r0 → W p l e R s m args below meth c s.heap [] 0 0 Q (F0 m pc ls [.int r0])) {s0 : Int32} (hf : f_FP_countFits_45 nf s0 = some r0) {ls : Array Slot} (hl : lv_has ls 4 []) : W p l e R s m args below meth c s.heap [] 0 0 Q (F0 m 45 ls [.int s0]) := by
  obtain ⟨hx, hb, hr, hml, hown, hts, hlocks, hRf, hRl⟩ := id C0
  obtain ⟨tms, hZms, hTms, tmg, hZmg, hTmg, hNW⟩ := id hST
  unfold f_FP_countFits_45 at hf
  obtain ⟨c_3, hf⟩ := it_g hf
  have e := rs hf
  subst e
  exact hE _ _ d_FP_countFits_45 (nb_of c_3)
set_option maxHeartbeats 400000 in
set_option maxRecDepth 100000 in
theorem k_FP_countFits_59 (C0 : Cx p s m meth c args R b_FP_countFits "ZoneFiles$FileParser" 4 (some .boolean) 0 0) (hST : ST (fun _ => False) s s.heap) (hK : va_K (dC, dI) classes [(cAfCounts, .long)] s) (hP : va_P (dC, dI) classes [(h0, .inr (3, [.int fFault, .int fPlace, .ref fTape, .ref fZone, .ref fCounts, .int fPos, .int fText])), (fCounts, .inl (cAfCounts, 6, .inr (.inl fCountsA)))] s.heap) (hE : ∀ (pc : Nat) (ls : Array Slot), decode b_FP_countFits pc = .ok (.ireturn, 1) → narrow .boolean (.int r0) = .int r0 → W p l e R s m args below meth c s.heap [] 0 0 Q (F0 m pc ls [.int r0])) {s0 : Int32} (hf : f_FP_countFits_59 nf s0 = some r0) {ls : Array Slot} (hl : lv_has ls 4 []) : W p l e R s m args below meth c s.heap [] 0 0 Q (F0 m 59 ls [.int s0]) := by
  obtain ⟨hx, hb, hr, hml, hown, hts, hlocks, hRf, hRl⟩ := id C0
  obtain ⟨tms, hZms, hTms, tmg, hZmg, hTmg, hNW⟩ := id hST
  unfold f_FP_countFits_59 at hf
  obtain ⟨c_6, hf⟩ := it_g hf
  have e := rs hf
  subst e
  exact hE _ _ d_FP_countFits_59 (nb_of c_6)
set_option maxHeartbeats 400000 in
set_option maxRecDepth 100000 in
theorem k_FP_countFits_79 (C0 : Cx p s m meth c args R b_FP_countFits "ZoneFiles$FileParser" 4 (some .boolean) 0 0) (hST : ST (fun _ => False) s s.heap) (hK : va_K (dC, dI) classes [(cAfCounts, .long)] s) (hP : va_P (dC, dI) classes [(h0, .inr (3, [.int fFault, .int fPlace, .ref fTape, .ref fZone, .ref fCounts, .int fPos, .int fText])), (fCounts, .inl (cAfCounts, 6, .inr (.inl fCountsA)))] s.heap) (hE : ∀ (pc : Nat) (ls : Array Slot), decode b_FP_countFits pc = .ok (.ireturn, 1) → narrow .boolean (.int r0) = .int r0 → W p l e R s m args below meth c s.heap [] 0 0 Q (F0 m pc ls [.int r0])) {s0 : Int32} (hf : f_FP_countFits_79 nf s0 = some r0) {ls : Array Slot} (hl : lv_has ls 4 []) : W p l e R s m args below meth c s.heap [] 0 0 Q (F0 m 79 ls [.int s0]) := by
  obtain ⟨hx, hb, hr, hml, hown, hts, hlocks, hRf, hRl⟩ := id C0
  obtain ⟨tms, hZms, hTms, tmg, hZmg, hTmg, hNW⟩ := id hST
  unfold f_FP_countFits_79 at hf
  obtain ⟨c_9, hf⟩ := it_g hf
  have e := rs hf
  subst e
  exact hE _ _ d_FP_countFits_79 (nb_of c_9)
set_option maxHeartbeats 400000 in
set_option maxRecDepth 100000 in
theorem k_FP_countFits_78 (C0 : Cx p s m meth c args R b_FP_countFits "ZoneFiles$FileParser" 4 (some .boolean) 0 0) (hST : ST (fun _ => False) s s.heap) (hK : va_K (dC, dI) classes [(cAfCounts, .long)] s) (hP : va_P (dC, dI) classes [(h0, .inr (3, [.int fFault, .int fPlace, .ref fTape, .ref fZone, .ref fCounts, .int fPos, .int fText])), (fCounts, .inl (cAfCounts, 6, .inr (.inl fCountsA)))] s.heap) (hE : ∀ (pc : Nat) (ls : Array Slot), decode b_FP_countFits pc = .ok (.ireturn, 1) → narrow .boolean (.int r0) = .int r0 → W p l e R s m args below meth c s.heap [] 0 0 Q (F0 m pc ls [.int r0])) (hf : f_FP_countFits_78 nf = some r0) {ls : Array Slot} (hl : lv_has ls 4 []) : W p l e R s m args below meth c s.heap [] 0 0 Q (F0 m 78 ls []) := by
  obtain ⟨hx, hb, hr, hml, hown, hts, hlocks, hRf, hRl⟩ := id C0
  obtain ⟨tms, hZms, hTms, tmg, hZmg, hTmg, hNW⟩ := id hST
  unfold f_FP_countFits_78 at hf
  refine lv_iconst (v := 0) hx hb d_FP_countFits_78 (by decide) ?_
  exact k_FP_countFits_79 C0 hST hK hP hE hf (lv_sub hl [] rfl)
set_option maxHeartbeats 400000 in
set_option maxRecDepth 100000 in
theorem k_FP_countFits_99 (C0 : Cx p s m meth c args R b_FP_countFits "ZoneFiles$FileParser" 4 (some .boolean) 0 0) (hST : ST (fun _ => False) s s.heap) (hK : va_K (dC, dI) classes [(cAfCounts, .long)] s) (hP : va_P (dC, dI) classes [(h0, .inr (3, [.int fFault, .int fPlace, .ref fTape, .ref fZone, .ref fCounts, .int fPos, .int fText])), (fCounts, .inl (cAfCounts, 6, .inr (.inl fCountsA)))] s.heap) (hE : ∀ (pc : Nat) (ls : Array Slot), decode b_FP_countFits pc = .ok (.ireturn, 1) → narrow .boolean (.int r0) = .int r0 → W p l e R s m args below meth c s.heap [] 0 0 Q (F0 m pc ls [.int r0])) {s0 : Int32} (hf : f_FP_countFits_99 nf s0 = some r0) {ls : Array Slot} (hl : lv_has ls 4 []) : W p l e R s m args below meth c s.heap [] 0 0 Q (F0 m 99 ls [.int s0]) := by
  obtain ⟨hx, hb, hr, hml, hown, hts, hlocks, hRf, hRl⟩ := id C0
  obtain ⟨tms, hZms, hTms, tmg, hZmg, hTmg, hNW⟩ := id hST
  unfold f_FP_countFits_99 at hf
  obtain ⟨c_13, hf⟩ := it_g hf
  have e := rs hf
  subst e
  exact hE _ _ d_FP_countFits_99 (nb_of c_13)
set_option maxHeartbeats 400000 in
set_option maxRecDepth 100000 in
theorem k_FP_countFits_98 (C0 : Cx p s m meth c args R b_FP_countFits "ZoneFiles$FileParser" 4 (some .boolean) 0 0) (hST : ST (fun _ => False) s s.heap) (hK : va_K (dC, dI) classes [(cAfCounts, .long)] s) (hP : va_P (dC, dI) classes [(h0, .inr (3, [.int fFault, .int fPlace, .ref fTape, .ref fZone, .ref fCounts, .int fPos, .int fText])), (fCounts, .inl (cAfCounts, 6, .inr (.inl fCountsA)))] s.heap) (hE : ∀ (pc : Nat) (ls : Array Slot), decode b_FP_countFits pc = .ok (.ireturn, 1) → narrow .boolean (.int r0) = .int r0 → W p l e R s m args below meth c s.heap [] 0 0 Q (F0 m pc ls [.int r0])) (hf : f_FP_countFits_98 nf = some r0) {ls : Array Slot} (hl : lv_has ls 4 []) : W p l e R s m args below meth c s.heap [] 0 0 Q (F0 m 98 ls []) := by
  obtain ⟨hx, hb, hr, hml, hown, hts, hlocks, hRf, hRl⟩ := id C0
  obtain ⟨tms, hZms, hTms, tmg, hZmg, hTmg, hNW⟩ := id hST
  unfold f_FP_countFits_98 at hf
  refine lv_iconst (v := 0) hx hb d_FP_countFits_98 (by decide) ?_
  exact k_FP_countFits_99 C0 hST hK hP hE hf (lv_sub hl [] rfl)
set_option maxHeartbeats 400000 in
set_option maxRecDepth 100000 in
theorem k_FP_countFits_122 (C0 : Cx p s m meth c args R b_FP_countFits "ZoneFiles$FileParser" 4 (some .boolean) 0 0) (hST : ST (fun _ => False) s s.heap) (hK : va_K (dC, dI) classes [(cAfCounts, .long)] s) (hP : va_P (dC, dI) classes [(h0, .inr (3, [.int fFault, .int fPlace, .ref fTape, .ref fZone, .ref fCounts, .int fPos, .int fText])), (fCounts, .inl (cAfCounts, 6, .inr (.inl fCountsA)))] s.heap) (hE : ∀ (pc : Nat) (ls : Array Slot), decode b_FP_countFits pc = .ok (.ireturn, 1) → narrow .boolean (.int r0) = .int r0 → W p l e R s m args below meth c s.heap [] 0 0 Q (F0 m pc ls [.int r0])) {s0 : Int32} (hf : f_FP_countFits_122 nf s0 = some r0) {ls : Array Slot} (hl : lv_has ls 4 []) : W p l e R s m args below meth c s.heap [] 0 0 Q (F0 m 122 ls [.int s0]) := by
  obtain ⟨hx, hb, hr, hml, hown, hts, hlocks, hRf, hRl⟩ := id C0
  obtain ⟨tms, hZms, hTms, tmg, hZmg, hTmg, hNW⟩ := id hST
  unfold f_FP_countFits_122 at hf
  obtain ⟨c_16, hf⟩ := it_g hf
  have e := rs hf
  subst e
  exact hE _ _ d_FP_countFits_122 (nb_of c_16)
set_option maxHeartbeats 400000 in
set_option maxRecDepth 100000 in
theorem k_FP_countFits_117 (C0 : Cx p s m meth c args R b_FP_countFits "ZoneFiles$FileParser" 4 (some .boolean) 0 0) (hST : ST (fun _ => False) s s.heap) (hK : va_K (dC, dI) classes [(cAfCounts, .long)] s) (hP : va_P (dC, dI) classes [(h0, .inr (3, [.int fFault, .int fPlace, .ref fTape, .ref fZone, .ref fCounts, .int fPos, .int fText])), (fCounts, .inl (cAfCounts, 6, .inr (.inl fCountsA)))] s.heap) (hE : ∀ (pc : Nat) (ls : Array Slot), decode b_FP_countFits pc = .ok (.ireturn, 1) → narrow .boolean (.int r0) = .int r0 → W p l e R s m args below meth c s.heap [] 0 0 Q (F0 m pc ls [.int r0])) (hf : f_FP_countFits_117 nf = some r0) {ls : Array Slot} (hl : lv_has ls 4 []) : W p l e R s m args below meth c s.heap [] 0 0 Q (F0 m 117 ls []) := by
  obtain ⟨hx, hb, hr, hml, hown, hts, hlocks, hRf, hRl⟩ := id C0
  obtain ⟨tms, hZms, hTms, tmg, hZmg, hTmg, hNW⟩ := id hST
  unfold f_FP_countFits_117 at hf
  refine lv_iconst (v := 1) hx hb d_FP_countFits_117 (by decide) ?_
  refine lv_goto (tgt := 122) hx hb d_FP_countFits_118 (by decide) ?_
  exact k_FP_countFits_122 C0 hST hK hP hE hf (lv_sub hl [] rfl)
set_option maxHeartbeats 400000 in
set_option maxRecDepth 100000 in
theorem k_FP_countFits_0 (C0 : Cx p s m meth c args R b_FP_countFits "ZoneFiles$FileParser" 4 (some .boolean) 0 0) (hST : ST (fun _ => False) s s.heap) (hK : va_K (dC, dI) classes [(cAfCounts, .long)] s) (hP : va_P (dC, dI) classes [(h0, .inr (3, [.int fFault, .int fPlace, .ref fTape, .ref fZone, .ref fCounts, .int fPos, .int fText])), (fCounts, .inl (cAfCounts, 6, .inr (.inl fCountsA)))] s.heap) (hE : ∀ (pc : Nat) (ls : Array Slot), decode b_FP_countFits pc = .ok (.ireturn, 1) → narrow .boolean (.int r0) = .int r0 → W p l e R s m args below meth c s.heap [] 0 0 Q (F0 m pc ls [.int r0])) {x1 : Int32} {x2 : Int64} (hf : f_FP_countFits_0 nf fCountsA x1 x2 = some r0) {ls : Array Slot} (hl : lv_has ls 4 [(0, .ref h0), (1, .int x1), (2, .long x2)]) : W p l e R s m args below meth c s.heap [] 0 0 Q (F0 m 0 ls []) := by
  obtain ⟨hx, hb, hr, hml, hown, hts, hlocks, hRf, hRl⟩ := id C0
  obtain ⟨tms, hZms, hTms, tmg, hZmg, hTmg, hNW⟩ := id hST
  unfold f_FP_countFits_0 at hf
  refine lv_iload_n hx hb d_FP_countFits_0 rfl (lv_at hl 1 rfl) ?_
  by_cases c_1 : x1 = 2
  · have hf := it_t c_1 hf
    refine lv_tableIn (tgt := 32) hx hb d_FP_countFits_1 (by rw [c_1]; decide) (by rw [c_1]; decide) (by rw [c_1]; rfl) (by decide) ?_
    refine lv_lload_n hx hb d_FP_countFits_32 rfl (lv_at hl 2 rfl) ?_
    refine lv_ldc2 (v := 40) hx hb hown (hts (.constantLong "ZoneFiles$FileParser" 122 40) m_3_217) d_FP_countFits_33 ?_
    refine lc_gt (tgt := 44) hx hb d_FP_countFits_36 d_FP_countFits_37 (by decide) (fun c_2 => ?_) (fun c_2 => ?_)
    · have hf := it_t c_2 hf
      refine lv_iconst (v := 0) hx hb d_FP_countFits_44 (by decide) ?_
      exact k_FP_countFits_45 C0 hST hK hP hE hf (lv_sub hl [] rfl)
    · have hf := it_f c_2 hf
      refine lv_iconst (v := 1) hx hb d_FP_countFits_40 (by decide) ?_
      refine lv_goto (tgt := 45) hx hb d_FP_countFits_41 (by decide) ?_
      exact k_FP_countFits_45 C0 hST hK hP hE hf (lv_sub hl [] rfl)
  · have hf := it_f c_1 hf
    by_cases c_4 : x1 = 3
    · have hf := it_t c_4 hf
      refine lv_tableIn (tgt := 46) hx hb d_FP_countFits_1 (by rw [c_4]; decide) (by rw [c_4]; decide) (by rw [c_4]; rfl) (by decide) ?_
      refine lv_lload_n hx hb d_FP_countFits_46 rfl (lv_at hl 2 rfl) ?_
      refine lv_ldc2 (v := 200) hx hb hown (hts (.constantLong "ZoneFiles$FileParser" 124 200) m_3_218) d_FP_countFits_47 ?_
      refine lc_gt (tgt := 58) hx hb d_FP_countFits_50 d_FP_countFits_51 (by decide) (fun c_5 => ?_) (fun c_5 => ?_)
      · have hf := it_t c_5 hf
        refine lv_iconst (v := 0) hx hb d_FP_countFits_58 (by decide) ?_
        exact k_FP_countFits_59 C0 hST hK hP hE hf (lv_sub hl [] rfl)
      · have hf := it_f c_5 hf
        refine lv_iconst (v := 1) hx hb d_FP_countFits_54 (by decide) ?_
        refine lv_goto (tgt := 59) hx hb d_FP_countFits_55 (by decide) ?_
        exact k_FP_countFits_59 C0 hST hK hP hE hf (lv_sub hl [] rfl)
    · have hf := it_f c_4 hf
      by_cases c_7 : x1 = 4
      · have hf := it_t c_7 hf
        refine lv_tableIn (tgt := 60) hx hb d_FP_countFits_1 (by rw [c_7]; decide) (by rw [c_7]; decide) (by rw [c_7]; rfl) (by decide) ?_
        refine lv_lload_n hx hb d_FP_countFits_60 rfl (lv_at hl 2 rfl) ?_
        refine lv_lconst (v := 1) hx hb d_FP_countFits_61 (by decide) ?_
        refine lc_lt (tgt := 78) hx hb d_FP_countFits_62 d_FP_countFits_63 (by decide) (fun c_8 => ?_) (fun c_8 => ?_)
        · have hf := it_t c_8 hf
          exact k_FP_countFits_78 C0 hST hK hP hE hf (lv_sub hl [] rfl)
        · have hf := it_f c_8 hf
          refine lv_lload_n hx hb d_FP_countFits_66 rfl (lv_at hl 2 rfl) ?_
          refine lv_ldc2 (v := 40) hx hb hown (hts (.constantLong "ZoneFiles$FileParser" 122 40) m_3_217) d_FP_countFits_67 ?_
          refine lc_gt (tgt := 78) hx hb d_FP_countFits_70 d_FP_countFits_71 (by decide) (fun c_10 => ?_) (fun c_10 => ?_)
          · have hf := it_t c_10 hf
            exact k_FP_countFits_78 C0 hST hK hP hE hf (lv_sub hl [] rfl)
          · have hf := it_f c_10 hf
            refine lv_iconst (v := 1) hx hb d_FP_countFits_74 (by decide) ?_
            refine lv_goto (tgt := 79) hx hb d_FP_countFits_75 (by decide) ?_
            exact k_FP_countFits_79 C0 hST hK hP hE hf (lv_sub hl [] rfl)
      · have hf := it_f c_7 hf
        by_cases c_11 : x1 = 5
        · have hf := it_t c_11 hf
          refine lv_tableIn (tgt := 80) hx hb d_FP_countFits_1 (by rw [c_11]; decide) (by rw [c_11]; decide) (by rw [c_11]; rfl) (by decide) ?_
          refine lv_lload_n hx hb d_FP_countFits_80 rfl (lv_at hl 2 rfl) ?_
          refine lv_lconst (v := 1) hx hb d_FP_countFits_81 (by decide) ?_
          refine lc_lt (tgt := 98) hx hb d_FP_countFits_82 d_FP_countFits_83 (by decide) (fun c_12 => ?_) (fun c_12 => ?_)
          · have hf := it_t c_12 hf
            exact k_FP_countFits_98 C0 hST hK hP hE hf (lv_sub hl [] rfl)
          · have hf := it_f c_12 hf
            refine lv_lload_n hx hb d_FP_countFits_86 rfl (lv_at hl 2 rfl) ?_
            refine lv_ldc2 (v := 200) hx hb hown (hts (.constantLong "ZoneFiles$FileParser" 124 200) m_3_218) d_FP_countFits_87 ?_
            refine lc_gt (tgt := 98) hx hb d_FP_countFits_90 d_FP_countFits_91 (by decide) (fun c_14 => ?_) (fun c_14 => ?_)
            · have hf := it_t c_14 hf
              exact k_FP_countFits_98 C0 hST hK hP hE hf (lv_sub hl [] rfl)
            · have hf := it_f c_14 hf
              refine lv_iconst (v := 1) hx hb d_FP_countFits_94 (by decide) ?_
              refine lv_goto (tgt := 99) hx hb d_FP_countFits_95 (by decide) ?_
              exact k_FP_countFits_99 C0 hST hK hP hE hf (lv_sub hl [] rfl)
        · have hf := it_f c_11 hf
          have hsw : x1.toInt < 2 ∨ 5 < x1.toInt := by
            have hsw0 := lv_neT c_1 (a := 2) rfl
            have hsw1 := lv_neT c_4 (a := 3) rfl
            have hsw2 := lv_neT c_7 (a := 4) rfl
            have hsw3 := lv_neT c_11 (a := 5) rfl
            omega
          refine lv_tableOut (tgt := 100) hx hb d_FP_countFits_1 hsw (by decide) ?_
          refine lv_lload_n hx hb d_FP_countFits_100 rfl (lv_at hl 2 rfl) ?_
          refine lv_lconst (v := 0) hx hb d_FP_countFits_101 (by decide) ?_
          refine lc_eq (tgt := 117) hx hb d_FP_countFits_102 d_FP_countFits_103 (by decide) (fun c_15 => ?_) (fun c_15 => ?_)
          · have hf := it_t c_15 hf
            exact k_FP_countFits_117 C0 hST hK hP hE hf (lv_sub hl [] rfl)
          · have hf := it_f c_15 hf
            refine lv_lload_n hx hb d_FP_countFits_106 rfl (lv_at hl 2 rfl) ?_
            refine lv_aload_n hx hb d_FP_countFits_107 rfl (lv_at hl 0 rfl) ?_
            refine va_get (D := (dC, dI)) (ci := 3) (v := .ref fCounts) (C := RFileParser) (T := TFileParser) (N := 7) hx hb hts in_FileParser hown hK hP 0 rfl rfl 4 (by decide) (hts (.fieldLink "ZoneFiles$FileParser" 19 "ZoneFiles$FileParser" "counts" "[J") m_3_162) (fun _ h9 => h9) rfl d_FP_countFits_108 ?_
            refine lv_iconst (v := 4) hx hb d_FP_countFits_111 (by decide) ?_
            obtain ⟨c_17, hf⟩ := it_n hf
            refine va_lald hx hb hK hP 1 0 rfl rfl c_17 d_FP_countFits_112 ?_
            refine lc_ne (tgt := 121) hx hb d_FP_countFits_113 d_FP_countFits_114 (by decide) (fun c_18 => ?_) (fun c_18 => ?_)
            · have hf := it_f c_18 hf
              refine lv_iconst (v := 0) hx hb d_FP_countFits_121 (by decide) ?_
              exact k_FP_countFits_122 C0 hST hK hP hE hf (lv_sub hl [] rfl)
            · have hf := it_t c_18 hf
              exact k_FP_countFits_117 C0 hST hK hP hE hf (lv_sub hl [] rfl)
end
set_option maxHeartbeats 400000 in
set_option maxRecDepth 100000 in
theorem c_FP_countFits (l : Launch) (dC : Nat → ClassId) (dI : Nat → Nat → Nat) (h0 : Nat) (fTape : Nat) (fZone : Nat) (fCounts : Nat) (cAfCounts : ClassId) (nf : Nat) (p0 : Int32) (p1 : Int64) (fFault : Int32) (fPlace : Int32) (fPos : Int32) (fText : Int32) (fCountsA : Nat → Int64) {r0 : Int32} (hf : f_FP_countFits nf p0 p1 fCountsA = some r0) : Met l y_FP_countFits (wd y_FP_countFits b_FP_countFits 4 (some .boolean)) ({ frames := 0, cells := 0, slots := 0, locals := 0 }) (RO dC dI [(h0, .inr (3, [.int fFault, .int fPlace, .ref fTape, .ref fZone, .ref fCounts, .int fPos, .int fText])), (fCounts, .inl (cAfCounts, 6, .inr (.inl fCountsA)))] [(cAfCounts, .long)] [.ref h0, .int p0, .long p1]) (SV (some (.int r0))) 0 0 (fun _ => False) :=
  met_S (plainFor_of_name (by decide)) (Nat.le_of_ble_eq_true rfl) (fun p e R s m args below meth c ls C0 hST hK hP hl => by
    obtain ⟨hx, hb, hr, hml, hown, hts, hlocks, hRf, hRl⟩ := id C0
    unfold f_FP_countFits at hf
    exact k_FP_countFits_0 C0 hST hK hP (fun pc ls hd hn => W.zret hx hb hr hn (fun t ht hW => ⟨rfl, ht⟩) (fun q h => by cases h) hd) hf (lv_sub hl [0, 1, 2] rfl))
-- ZoneFiles$FileParser.nameFits(I)Z
def f_FP_nameFits_32 (nf : Nat) : Option (Int32) :=
  some 0
def f_FP_nameFits_36 (nf : Nat) (zTyc : Int32) (zIxA : Nat → Int32) (chS : Int32) (chN : Nat) (chA : Nat → Int32) (ruSp : Int32) (ruUp : Int32) (txS : Int32) (txN : Nat) (txA : Nat → Int32) : Nat → Int32 → Int32 → Int32 → Option (Int32)
  | 0, _, _, _ => none
  | n + 1, x3, x2, x1 =>
    if x2 ≤ x3 then
    some 1
    else
    (f_Zone_nameByte nf x1 x3 zTyc zIxA chS chN chA ruSp ruUp txS txN txA).bind fun r_7 =>
      (f_ZF_isNameByte nf r_7).bind fun r_8 =>
      if r_8 = 0 then
      some 0
      else
      f_FP_nameFits_36 nf zTyc zIxA chS chN chA ruSp ruUp txS txN txA n (x3 + 1) x2 x1
def f_FP_nameFits_0 (nf : Nat) (zTyc : Int32) (zIxA : Nat → Int32) (chS : Int32) (chN : Nat) (chA : Nat → Int32) (ruSp : Int32) (ruSs : Int32) (ruUp : Int32) (ruUs : Int32) (txS : Int32) (txN : Nat) (txA : Nat → Int32) (x1 : Int32) : Option (Int32) :=
  (f_Zone_nameSize nf x1 zTyc zIxA chS chN chA ruSs ruUs).bind fun r_1 =>
  if r_1 < (3 : Int32) then
  f_FP_nameFits_32 nf
  else
  if (10 : Int32) < r_1 then
    f_FP_nameFits_32 nf
    else
    (f_Zone_nameByte nf x1 r_1 zTyc zIxA chS chN chA ruSp ruUp txS txN txA).bind fun r_4 =>
      if r_4 = 0 then
      f_FP_nameFits_36 nf zTyc zIxA chS chN chA ruSp ruUp txS txN txA nf 0 r_1 x1
      else
      f_FP_nameFits_32 nf
def f_FP_nameFits (nf : Nat) (p0 : Int32) (zTyc : Int32) (zIxA : Nat → Int32) (chS : Int32) (chN : Nat) (chA : Nat → Int32) (ruSp : Int32) (ruSs : Int32) (ruUp : Int32) (ruUs : Int32) (txS : Int32) (txN : Nat) (txA : Nat → Int32) : Option (Int32) :=
  f_FP_nameFits_0 nf zTyc zIxA chS chN chA ruSp ruSs ruUp ruUs txS txN txA p0
section
variable {p : Program} {l : Launch} {e : Env} {R : Room} {s : State} {m : MethodId} {args : Array Value} {below : List Frame} {meth : Method} {c : Code} {Q : State → Prop} {dC : Nat → ClassId} {dI : Nat → Nat → Nat} {nf : Nat}
variable {h0 : Nat} {fTape : Nat} {fZone : Nat} {fCounts : Nat} {zTi : Nat} {zTt : Nat} {zOf : Nat} {zDs : Nat} {zIx : Nat} {zSd : Nat} {zUt : Nat} {zCh : Nat} {zLt : Nat} {zLo : Nat} {zRu : Nat} {chR : Nat} {ruT : Nat} {ruB : Nat} {ruE : Nat} {txR : Nat} {cAzIx : ClassId} {cAchR : ClassId} {cAtxR : ClassId} {fFault : Int32} {fPlace : Int32} {fPos : Int32} {fText : Int32} {zVer : Int32} {zTic : Int32} {zTyc : Int32} {zLec : Int32} {zStc : Int32} {zUtc : Int32} {zIxA : Nat → Int32} {chS : Int32} {chN : Nat} {chA : Nat → Int32} {ruHas : Int32} {ruWide : Int32} {ruSo : Int32} {ruUo : Int32} {ruSp : Int32} {ruSs : Int32} {ruUp : Int32} {ruUs : Int32} {ruNev : Int32} {txS : Int32} {txN : Nat} {txA : Nat → Int32} {r0 : Int32}
set_option maxHeartbeats 400000 in
set_option maxRecDepth 100000 in
theorem k_FP_nameFits_32 (C0 : Cx p s m meth c args R b_FP_nameFits "ZoneFiles$FileParser" 4 (some .boolean) 2 44) (hST : ST (fun _ => False) s s.heap) (hK : va_K (dC, dI) classes [(cAzIx, .int), (cAchR, .byte), (cAtxR, .byte)] s) (hP : va_P (dC, dI) classes [(h0, .inr (3, [.int fFault, .int fPlace, .ref fTape, .ref fZone, .ref fCounts, .int fPos, .int fText])), (fZone, .inr (8, [.int zVer, .int zTic, .int zTyc, .int zLec, .int zStc, .int zUtc, .ref zTi, .ref zTt, .ref zOf, .ref zDs, .ref zIx, .ref zSd, .ref zUt, .ref zCh, .ref zLt, .ref zLo, .ref zRu])), (zIx, .inl (cAzIx, 40, .inl zIxA)), (zCh, .inr (0, [.ref chR, .int chS])), (chR, .inl (cAchR, chN, .inl chA)), (zRu, .inr (5, [.ref ruT, .ref ruB, .ref ruE, .int ruHas, .int ruWide, .int ruSo, .int ruUo, .int ruSp, .int ruSs, .int ruUp, .int ruUs, .int ruNev])), (ruT, .inr (0, [.ref txR, .int txS])), (txR, .inl (cAtxR, txN, .inl txA))] s.heap) (hE : ∀ (pc : Nat) (ls : Array Slot), decode b_FP_nameFits pc = .ok (.ireturn, 1) → narrow .boolean (.int r0) = .int r0 → W p l e R s m args below meth c s.heap [] 0 0 Q (F0 m pc ls [.int r0])) (hf : f_FP_nameFits_32 nf = some r0) {ls : Array Slot} (hl : lv_has ls 4 []) : W p l e R s m args below meth c s.heap [] 0 0 Q (F0 m 32 ls []) := by
  obtain ⟨hx, hb, hr, hml, hown, hts, hlocks, hRf, hRl⟩ := id C0
  obtain ⟨tms, hZms, hTms, tmg, hZmg, hTmg, hNW⟩ := id hST
  unfold f_FP_nameFits_32 at hf
  refine lv_iconst (v := 0) hx hb d_FP_nameFits_32 (by decide) ?_
  have e := rs hf
  subst e
  exact hE _ _ d_FP_nameFits_33 rfl
set_option maxHeartbeats 400000 in
set_option maxRecDepth 100000 in
theorem k_FP_nameFits_36 (C0 : Cx p s m meth c args R b_FP_nameFits "ZoneFiles$FileParser" 4 (some .boolean) 2 44) (hST : ST (fun _ => False) s s.heap) (hK : va_K (dC, dI) classes [(cAzIx, .int), (cAchR, .byte), (cAtxR, .byte)] s) (hP : va_P (dC, dI) classes [(h0, .inr (3, [.int fFault, .int fPlace, .ref fTape, .ref fZone, .ref fCounts, .int fPos, .int fText])), (fZone, .inr (8, [.int zVer, .int zTic, .int zTyc, .int zLec, .int zStc, .int zUtc, .ref zTi, .ref zTt, .ref zOf, .ref zDs, .ref zIx, .ref zSd, .ref zUt, .ref zCh, .ref zLt, .ref zLo, .ref zRu])), (zIx, .inl (cAzIx, 40, .inl zIxA)), (zCh, .inr (0, [.ref chR, .int chS])), (chR, .inl (cAchR, chN, .inl chA)), (zRu, .inr (5, [.ref ruT, .ref ruB, .ref ruE, .int ruHas, .int ruWide, .int ruSo, .int ruUo, .int ruSp, .int ruSs, .int ruUp, .int ruUs, .int ruNev])), (ruT, .inr (0, [.ref txR, .int txS])), (txR, .inl (cAtxR, txN, .inl txA))] s.heap) (hE : ∀ (pc : Nat) (ls : Array Slot), decode b_FP_nameFits pc = .ok (.ireturn, 1) → narrow .boolean (.int r0) = .int r0 → W p l e R s m args below meth c s.heap [] 0 0 Q (F0 m pc ls [.int r0])) : ∀ (n : Nat) {x3 : Int32} {x2 : Int32} {x1 : Int32}, f_FP_nameFits_36 nf zTyc zIxA chS chN chA ruSp ruUp txS txN txA n x3 x2 x1 = some r0 → ∀ {ls : Array Slot}, lv_has ls 4 [(3, .int x3), (2, .int x2), (0, .ref h0), (1, .int x1)] → W p l e R s m args below meth c s.heap [] 0 0 Q (F0 m 36 ls []) := by
  obtain ⟨hx, hb, hr, hml, hown, hts, hlocks, hRf, hRl⟩ := id C0
  obtain ⟨tms, hZms, hTms, tmg, hZmg, hTmg, hNW⟩ := id hST
  intro n
  induction n with
  | zero =>
    intro x3 x2 x1 hf
    exact absurd hf (by simp [f_FP_nameFits_36])
  | succ n ih =>
    intro x3 x2 x1 hf ls hl
    unfold f_FP_nameFits_36 at hf
    refine lv_iload_n hx hb d_FP_nameFits_36 rfl (lv_at hl 0 rfl) ?_
    refine lv_iload_n hx hb d_FP_nameFits_37 rfl (lv_at hl 1 rfl) ?_
    refine lv_icmp_ge (tgt := 64) hx hb d_FP_nameFits_38 (by decide) (fun c_6 => ?_) (fun c_6 => ?_)
    · have hf := it_t c_6 hf
      refine lv_iconst (v := 1) hx hb d_FP_nameFits_64 (by decide) ?_
      have e := rs hf
      subst e
      exact hE _ _ d_FP_nameFits_65 rfl
    · have hf := it_f c_6 hf
      refine lv_aload_n hx hb d_FP_nameFits_41 rfl (lv_at hl 2 rfl) ?_
      refine va_get (D := (dC, dI)) (ci := 3) (v := .ref fZone) (C := RFileParser) (T := TFileParser) (N := 7) hx hb hts in_FileParser hown hK hP 0 rfl rfl 3 (by decide) (hts (.fieldLink "ZoneFiles$FileParser" 15 "ZoneFiles$FileParser" "zone" "LZoneFiles$Zone;") m_3_161) (fun _ h9 => h9) rfl d_FP_nameFits_42 ?_
      refine lv_iload_n hx hb d_FP_nameFits_45 rfl (lv_at hl 3 rfl) ?_
      refine lv_iload_n hx hb d_FP_nameFits_46 rfl (lv_at hl 0 rfl) ?_
      obtain ⟨r_7, hc, hf⟩ := ob hf
      refine cl_S (v := (some (.int r_7))) (st1 := [.int r_7]) (va_runV (As := [.int x1, .int x3]) (rest := []) ⟨hx, hb, hml, hown, hts⟩ (c_Zone_nameByte l dC dI fZone zTi zTt zOf zDs zIx zSd zUt zCh zLt zLo zRu chR ruT ruB ruE txR cAzIx cAchR cAtxR nf x1 x3 zVer zTic zTyc zLec zStc zUtc zIxA chS chN chA ruHas ruWide ruSo ruUo ruSp ruSs ruUp ruUs ruNev txS txN txA hc) (cwV 2 hts (gdV m_4_18 m_2_75 m_2_76 m_1_3 m_2_77) rfl rfl rfl (by decide +kernel) ⟨Nat.le_trans (Nat.le_of_ble_eq_true rfl) hRf, Nat.le_trans (Nat.le_of_ble_eq_true rfl) hRl⟩) ((RO.pre (hP.sub (ws' := [(fZone, .inr (8, [.int zVer, .int zTic, .int zTyc, .int zLec, .int zStc, .int zUtc, .ref zTi, .ref zTt, .ref zOf, .ref zDs, .ref zIx, .ref zSd, .ref zUt, .ref zCh, .ref zLt, .ref zLo, .ref zRu])), (zIx, .inl (cAzIx, 40, .inl zIxA)), (zCh, .inr (0, [.ref chR, .int chS])), (chR, .inl (cAchR, chN, .inl chA)), (zRu, .inr (5, [.ref ruT, .ref ruB, .ref ruE, .int ruHas, .int ruWide, .int ruSo, .int ruUo, .int ruSp, .int ruSs, .int ruUp, .int ruUs, .int ruNev])), (ruT, .inr (0, [.ref txR, .int txS])), (txR, .inl (cAtxR, txN, .inl txA))]) [1, 2, 3, 4, 5, 6, 7] rfl) (hK.sub (tys' := [(cAzIx, .int), (cAchR, .byte), (cAtxR, .byte)]) [0, 1, 2] rfl) hST).vir (va_recv (hK.sub (tys' := [(cAzIx, .int), (cAchR, .byte), (cAtxR, .byte)]) [0, 1, 2] rfl) (hP.sub (ws' := [(fZone, .inr (8, [.int zVer, .int zTic, .int zTyc, .int zLec, .int zStc, .int zUtc, .ref zTi, .ref zTt, .ref zOf, .ref zDs, .ref zIx, .ref zSd, .ref zUt, .ref zCh, .ref zLt, .ref zLo, .ref zRu])), (zIx, .inl (cAzIx, 40, .inl zIxA)), (zCh, .inr (0, [.ref chR, .int chS])), (chR, .inl (cAchR, chN, .inl chA)), (zRu, .inr (5, [.ref ruT, .ref ruB, .ref ruE, .int ruHas, .int ruWide, .int ruSo, .int ruUo, .int ruSp, .int ruSs, .int ruUp, .int ruUs, .int ruNev])), (ruT, .inr (0, [.ref txR, .int txS])), (txR, .inl (cAtxR, txN, .inl txA))]) [1, 2, 3, 4, 5, 6, 7] rfl) (ci := 8) (q0 := 0) rfl rfl)) rfl rfl hl.1 rfl (lv_room (Nat.le_of_ble_eq_true rfl)) d_FP_nameFits_47 ⟨Nat.zero_le _, Nat.zero_le _⟩) rfl ?_
      obtain ⟨r_8, hc, hf⟩ := ob hf
      refine cl_S (v := (some (.int r_8))) (st1 := [.int r_8]) (va_runSN (As := [.int r_7]) (rest := []) ⟨hx, hb, hml, hown, hts⟩ (c_ZF_isNameByte l dC dI nf r_7 hc) ⟨va_cnB 1 hts (gd_of m_4_21) rfl rfl rfl hNW.2.2.2.2.1 (hts _ m_1_1) (by decide +kernel) ⟨Nat.le_trans (Nat.le_of_ble_eq_true rfl) hRf, Nat.le_trans (Nat.le_of_ble_eq_true rfl) hRl⟩, hts _ m_4_20, trivial⟩ (RO.pre0 hK hST).sta rfl rfl hl.1 rfl (lv_room (Nat.le_of_ble_eq_true rfl)) d_FP_nameFits_50 ⟨Nat.zero_le _, Nat.zero_le _⟩) rfl ?_
      refine lv_if_ne (tgt := 58) hx hb d_FP_nameFits_53 (by decide) (fun c_9 => ?_) (fun c_9 => ?_)
      · have hf := it_f c_9 hf
        refine lv_iinc (v := x3 + 1) (lv' := [(3, .int (x3 + 1)), (2, .int x2), (0, .ref h0), (1, .int x1)]) hx hb d_FP_nameFits_58 hl (k := 0) rfl rfl (by decide) rfl (fun ls hl => ?_)
        refine lv_goto (tgt := 36) hx hb d_FP_nameFits_61 (by decide) ?_
        exact ih hf (lv_sub hl [0, 1, 2, 3] rfl)
      · have hf := it_t c_9 hf
        refine lv_iconst (v := 0) hx hb d_FP_nameFits_56 (by decide) ?_
        have e := rs hf
        subst e
        exact hE _ _ d_FP_nameFits_57 rfl
set_option maxHeartbeats 400000 in
set_option maxRecDepth 100000 in
theorem k_FP_nameFits_0 (C0 : Cx p s m meth c args R b_FP_nameFits "ZoneFiles$FileParser" 4 (some .boolean) 2 44) (hST : ST (fun _ => False) s s.heap) (hK : va_K (dC, dI) classes [(cAzIx, .int), (cAchR, .byte), (cAtxR, .byte)] s) (hP : va_P (dC, dI) classes [(h0, .inr (3, [.int fFault, .int fPlace, .ref fTape, .ref fZone, .ref fCounts, .int fPos, .int fText])), (fZone, .inr (8, [.int zVer, .int zTic, .int zTyc, .int zLec, .int zStc, .int zUtc, .ref zTi, .ref zTt, .ref zOf, .ref zDs, .ref zIx, .ref zSd, .ref zUt, .ref zCh, .ref zLt, .ref zLo, .ref zRu])), (zIx, .inl (cAzIx, 40, .inl zIxA)), (zCh, .inr (0, [.ref chR, .int chS])), (chR, .inl (cAchR, chN, .inl chA)), (zRu, .inr (5, [.ref ruT, .ref ruB, .ref ruE, .int ruHas, .int ruWide, .int ruSo, .int ruUo, .int ruSp, .int ruSs, .int ruUp, .int ruUs, .int ruNev])), (ruT, .inr (0, [.ref txR, .int txS])), (txR, .inl (cAtxR, txN, .inl txA))] s.heap) (hE : ∀ (pc : Nat) (ls : Array Slot), decode b_FP_nameFits pc = .ok (.ireturn, 1) → narrow .boolean (.int r0) = .int r0 → W p l e R s m args below meth c s.heap [] 0 0 Q (F0 m pc ls [.int r0])) {x1 : Int32} (hf : f_FP_nameFits_0 nf zTyc zIxA chS chN chA ruSp ruSs ruUp ruUs txS txN txA x1 = some r0) {ls : Array Slot} (hl : lv_has ls 4 [(0, .ref h0), (1, .int x1)]) : W p l e R s m args below meth c s.heap [] 0 0 Q (F0 m 0 ls []) := by
  obtain ⟨hx, hb, hr, hml, hown, hts, hlocks, hRf, hRl⟩ := id C0
  obtain ⟨tms, hZms, hTms, tmg, hZmg, hTmg, hNW⟩ := id hST
  unfold f_FP_nameFits_0 at hf
  refine lv_aload_n hx hb d_FP_nameFits_0 rfl (lv_at hl 0 rfl) ?_
  refine va_get (D := (dC, dI)) (ci := 3) (v := .ref fZone) (C := RFileParser) (T := TFileParser) (N := 7) hx hb hts in_FileParser hown hK hP 0 rfl rfl 3 (by decide) (hts (.fieldLink "ZoneFiles$FileParser" 15 "ZoneFiles$FileParser" "zone" "LZoneFiles$Zone;") m_3_161) (fun _ h9 => h9) rfl d_FP_nameFits_1 ?_
  refine lv_iload_n hx hb d_FP_nameFits_4 rfl (lv_at hl 1 rfl) ?_
  obtain ⟨r_1, hc, hf⟩ := ob hf
  refine cl_S (v := (some (.int r_1))) (st1 := [.int r_1]) (va_runV (As := [.int x1]) (rest := []) ⟨hx, hb, hml, hown, hts⟩ (c_Zone_nameSize l dC dI fZone zTi zTt zOf zDs zIx zSd zUt zCh zLt zLo zRu chR ruT ruB ruE cAzIx cAchR nf x1 zVer zTic zTyc zLec zStc zUtc zIxA chS chN chA ruHas ruWide ruSo ruUo ruSp ruSs ruUp ruUs ruNev hc) (cwV 1 hts (gdV m_4_17 m_2_67 m_2_68 m_1_3 m_2_69) rfl rfl rfl (by decide +kernel) ⟨Nat.le_trans (Nat.le_of_ble_eq_true rfl) hRf, Nat.le_trans (Nat.le_of_ble_eq_true rfl) hRl⟩) ((RO.pre (hP.sub (ws' := [(fZone, .inr (8, [.int zVer, .int zTic, .int zTyc, .int zLec, .int zStc, .int zUtc, .ref zTi, .ref zTt, .ref zOf, .ref zDs, .ref zIx, .ref zSd, .ref zUt, .ref zCh, .ref zLt, .ref zLo, .ref zRu])), (zIx, .inl (cAzIx, 40, .inl zIxA)), (zCh, .inr (0, [.ref chR, .int chS])), (chR, .inl (cAchR, chN, .inl chA)), (zRu, .inr (5, [.ref ruT, .ref ruB, .ref ruE, .int ruHas, .int ruWide, .int ruSo, .int ruUo, .int ruSp, .int ruSs, .int ruUp, .int ruUs, .int ruNev]))]) [1, 2, 3, 4, 5] rfl) (hK.sub (tys' := [(cAzIx, .int), (cAchR, .byte)]) [0, 1] rfl) hST).vir (va_recv (hK.sub (tys' := [(cAzIx, .int), (cAchR, .byte)]) [0, 1] rfl) (hP.sub (ws' := [(fZone, .inr (8, [.int zVer, .int zTic, .int zTyc, .int zLec, .int zStc, .int zUtc, .ref zTi, .ref zTt, .ref zOf, .ref zDs, .ref zIx, .ref zSd, .ref zUt, .ref zCh, .ref zLt, .ref zLo, .ref zRu])), (zIx, .inl (cAzIx, 40, .inl zIxA)), (zCh, .inr (0, [.ref chR, .int chS])), (chR, .inl (cAchR, chN, .inl chA)), (zRu, .inr (5, [.ref ruT, .ref ruB, .ref ruE, .int ruHas, .int ruWide, .int ruSo, .int ruUo, .int ruSp, .int ruSs, .int ruUp, .int ruUs, .int ruNev]))]) [1, 2, 3, 4, 5] rfl) (ci := 8) (q0 := 0) rfl rfl)) rfl rfl hl.1 rfl (lv_room (Nat.le_of_ble_eq_true rfl)) d_FP_nameFits_5 ⟨Nat.zero_le _, Nat.zero_le _⟩) rfl ?_
  refine lv_istore_n (lv' := [(2, .int r_1), (0, .ref h0), (1, .int x1)]) hx hb d_FP_nameFits_8 rfl hl (by decide) rfl (fun ls hl => ?_)
  refine lv_iload_n hx hb d_FP_nameFits_9 rfl (lv_at hl 0 rfl) ?_
  refine lv_iconst (v := 3) hx hb d_FP_nameFits_10 (by decide) ?_
  refine lv_icmp_lt (tgt := 32) hx hb d_FP_nameFits_11 (by decide) (fun c_2 => ?_) (fun c_2 => ?_)
  · have hf := it_t c_2 hf
    exact k_FP_nameFits_32 C0 hST hK hP hE hf (lv_sub hl [] rfl)
  · have hf := it_f c_2 hf
    refine lv_iload_n hx hb d_FP_nameFits_14 rfl (lv_at hl 0 rfl) ?_
    refine lv_bipush (v := 10) hx hb d_FP_nameFits_15 (by decide) ?_
    refine lv_icmp_gt (tgt := 32) hx hb d_FP_nameFits_17 (by decide) (fun c_3 => ?_) (fun c_3 => ?_)
    · have hf := it_t c_3 hf
      exact k_FP_nameFits_32 C0 hST hK hP hE hf (lv_sub hl [] rfl)
    · have hf := it_f c_3 hf
      refine lv_aload_n hx hb d_FP_nameFits_20 rfl (lv_at hl 1 rfl) ?_
      refine va_get (D := (dC, dI)) (ci := 3) (v := .ref fZone) (C := RFileParser) (T := TFileParser) (N := 7) hx hb hts in_FileParser hown hK hP 0 rfl rfl 3 (by decide) (hts (.fieldLink "ZoneFiles$FileParser" 15 "ZoneFiles$FileParser" "zone" "LZoneFiles$Zone;") m_3_161) (fun _ h9 => h9) rfl d_FP_nameFits_21 ?_
      refine lv_iload_n hx hb d_FP_nameFits_24 rfl (lv_at hl 2 rfl) ?_
      refine lv_iload_n hx hb d_FP_nameFits_25 rfl (lv_at hl 0 rfl) ?_
      obtain ⟨r_4, hc, hf⟩ := ob hf
      refine cl_S (v := (some (.int r_4))) (st1 := [.int r_4]) (va_runV (As := [.int x1, .int r_1]) (rest := []) ⟨hx, hb, hml, hown, hts⟩ (c_Zone_nameByte l dC dI fZone zTi zTt zOf zDs zIx zSd zUt zCh zLt zLo zRu chR ruT ruB ruE txR cAzIx cAchR cAtxR nf x1 r_1 zVer zTic zTyc zLec zStc zUtc zIxA chS chN chA ruHas ruWide ruSo ruUo ruSp ruSs ruUp ruUs ruNev txS txN txA hc) (cwV 2 hts (gdV m_4_18 m_2_75 m_2_76 m_1_3 m_2_77) rfl rfl rfl (by decide +kernel) ⟨Nat.le_trans (Nat.le_of_ble_eq_true rfl) hRf, Nat.le_trans (Nat.le_of_ble_eq_true rfl) hRl⟩) ((RO.pre (hP.sub (ws' := [(fZone, .inr (8, [.int zVer, .int zTic, .int zTyc, .int zLec, .int zStc, .int zUtc, .ref zTi, .ref zTt, .ref zOf, .ref zDs, .ref zIx, .ref zSd, .ref zUt, .ref zCh, .ref zLt, .ref zLo, .ref zRu])), (zIx, .inl (cAzIx, 40, .inl zIxA)), (zCh, .inr (0, [.ref chR, .int chS])), (chR, .inl (cAchR, chN, .inl chA)), (zRu, .inr (5, [.ref ruT, .ref ruB, .ref ruE, .int ruHas, .int ruWide, .int ruSo, .int ruUo, .int ruSp, .int ruSs, .int ruUp, .int ruUs, .int ruNev])), (ruT, .inr (0, [.ref txR, .int txS])), (txR, .inl (cAtxR, txN, .inl txA))]) [1, 2, 3, 4, 5, 6, 7] rfl) (hK.sub (tys' := [(cAzIx, .int), (cAchR, .byte), (cAtxR, .byte)]) [0, 1, 2] rfl) hST).vir (va_recv (hK.sub (tys' := [(cAzIx, .int), (cAchR, .byte), (cAtxR, .byte)]) [0, 1, 2] rfl) (hP.sub (ws' := [(fZone, .inr (8, [.int zVer, .int zTic, .int zTyc, .int zLec, .int zStc, .int zUtc, .ref zTi, .ref zTt, .ref zOf, .ref zDs, .ref zIx, .ref zSd, .ref zUt, .ref zCh, .ref zLt, .ref zLo, .ref zRu])), (zIx, .inl (cAzIx, 40, .inl zIxA)), (zCh, .inr (0, [.ref chR, .int chS])), (chR, .inl (cAchR, chN, .inl chA)), (zRu, .inr (5, [.ref ruT, .ref ruB, .ref ruE, .int ruHas, .int ruWide, .int ruSo, .int ruUo, .int ruSp, .int ruSs, .int ruUp, .int ruUs, .int ruNev])), (ruT, .inr (0, [.ref txR, .int txS])), (txR, .inl (cAtxR, txN, .inl txA))]) [1, 2, 3, 4, 5, 6, 7] rfl) (ci := 8) (q0 := 0) rfl rfl)) rfl rfl hl.1 rfl (lv_room (Nat.le_of_ble_eq_true rfl)) d_FP_nameFits_26 ⟨Nat.zero_le _, Nat.zero_le _⟩) rfl ?_
      refine lv_if_eq (tgt := 34) hx hb d_FP_nameFits_29 (by decide) (fun c_5 => ?_) (fun c_5 => ?_)
      · have hf := it_t c_5 hf
        refine lv_iconst (v := 0) hx hb d_FP_nameFits_34 (by decide) ?_
        refine lv_istore_n (lv' := [(3, .int 0), (2, .int r_1), (0, .ref h0), (1, .int x1)]) hx hb d_FP_nameFits_35 rfl hl (by decide) rfl (fun ls hl => ?_)
        exact k_FP_nameFits_36 C0 hST hK hP hE nf hf (lv_sub hl [0, 1, 2, 3] rfl)
      · have hf := it_f c_5 hf
        exact k_FP_nameFits_32 C0 hST hK hP hE hf (lv_sub hl [] rfl)
end
set_option maxHeartbeats 400000 in
set_option maxRecDepth 100000 in
theorem c_FP_nameFits (l : Launch) (dC : Nat → ClassId) (dI : Nat → Nat → Nat) (h0 : Nat) (fTape : Nat) (fZone : Nat) (fCounts : Nat) (zTi : Nat) (zTt : Nat) (zOf : Nat) (zDs : Nat) (zIx : Nat) (zSd : Nat) (zUt : Nat) (zCh : Nat) (zLt : Nat) (zLo : Nat) (zRu : Nat) (chR : Nat) (ruT : Nat) (ruB : Nat) (ruE : Nat) (txR : Nat) (cAzIx : ClassId) (cAchR : ClassId) (cAtxR : ClassId) (nf : Nat) (p0 : Int32) (fFault : Int32) (fPlace : Int32) (fPos : Int32) (fText : Int32) (zVer : Int32) (zTic : Int32) (zTyc : Int32) (zLec : Int32) (zStc : Int32) (zUtc : Int32) (zIxA : Nat → Int32) (chS : Int32) (chN : Nat) (chA : Nat → Int32) (ruHas : Int32) (ruWide : Int32) (ruSo : Int32) (ruUo : Int32) (ruSp : Int32) (ruSs : Int32) (ruUp : Int32) (ruUs : Int32) (ruNev : Int32) (txS : Int32) (txN : Nat) (txA : Nat → Int32) {r0 : Int32} (hf : f_FP_nameFits nf p0 zTyc zIxA chS chN chA ruSp ruSs ruUp ruUs txS txN txA = some r0) : Met l y_FP_nameFits (wd y_FP_nameFits b_FP_nameFits 4 (some .boolean)) ({ frames := 2, cells := 0, slots := 0, locals := 44 }) (RO dC dI [(h0, .inr (3, [.int fFault, .int fPlace, .ref fTape, .ref fZone, .ref fCounts, .int fPos, .int fText])), (fZone, .inr (8, [.int zVer, .int zTic, .int zTyc, .int zLec, .int zStc, .int zUtc, .ref zTi, .ref zTt, .ref zOf, .ref zDs, .ref zIx, .ref zSd, .ref zUt, .ref zCh, .ref zLt, .ref zLo, .ref zRu])), (zIx, .inl (cAzIx, 40, .inl zIxA)), (zCh, .inr (0, [.ref chR, .int chS])), (chR, .inl (cAchR, chN, .inl chA)), (zRu, .inr (5, [.ref ruT, .ref ruB, .ref ruE, .int ruHas, .int ruWide, .int ruSo, .int ruUo, .int ruSp, .int ruSs, .int ruUp, .int ruUs, .int ruNev])), (ruT, .inr (0, [.ref txR, .int txS])), (txR, .inl (cAtxR, txN, .inl txA))] [(cAzIx, .int), (cAchR, .byte), (cAtxR, .byte)] [.ref h0, .int p0]) (SV (some (.int r0))) 0 0 (fun _ => False) :=
  met_S (plainFor_of_name (by decide)) (Nat.le_of_ble_eq_true rfl) (fun p e R s m args below meth c ls C0 hST hK hP hl => by
    obtain ⟨hx, hb, hr, hml, hown, hts, hlocks, hRf, hRl⟩ := id C0
    unfold f_FP_nameFits at hf
    exact k_FP_nameFits_0 C0 hST hK hP (fun pc ls hd hn => W.zret hx hb hr hn (fun t ht hW => ⟨rfl, ht⟩) (fun q h => by cases h) hd) hf (lv_sub hl [0, 1] rfl))
-- ZoneFiles$FileParser.readHeader(Z)Z
def f_FP_readHeader_178 (nf : Nat) : Nat → Int32 → Int32 → Int32 → Int32 → Int32 → (Nat → Int64) → Option (Int32 × Int32 × Int32 × Int32 × Int32 × (Nat → Int64))
  | 0, _, _, _, _, _, _ => none
  | n + 1, x3, w0_0, w0_1, w0_5, w3_0, w4_a =>
    if (6 : Int32) ≤ x3 then
    some (1, w0_0, w0_1, w0_5 + 44, w3_0, w4_a)
    else
    if x3 < 0 ∨ 6 ≤ x3.toNatClampNeg then none else
      (f_FP_countFits nf x3 (w4_a x3.toNatClampNeg) w4_a).bind fun r_11 =>
      if r_11 = 0 then
      (f_FP_fail nf 4 ((w0_5 + 20) + (4 * x3)) w0_0 w0_1).bind fun (z_13, z_14, z_15) =>
        if z_13 = 0 ∨ z_13 = 1 then some (z_13, z_14, z_15, w0_5, w3_0, w4_a) else none
      else
      f_FP_readHeader_178 nf n (x3 + 1) w0_0 w0_1 w0_5 w3_0 w4_a
def f_FP_readHeader_137 (nf : Nat) (tpS : Int32) (tpN : Nat) (tpA : Nat → Int32) : Nat → Int32 → Int32 → Int32 → Int32 → Int32 → (Nat → Int64) → Option (Int32 × Int32 × Int32 × Int32 × Int32 × (Nat → Int64))
  | 0, _, _, _, _, _, _ => none
  | n + 1, x3, w0_0, w0_1, w0_5, w3_0, w4_a =>
    if (6 : Int32) ≤ x3 then
    f_FP_readHeader_178 nf nf 0 w0_0 w0_1 w0_5 w3_0 w4_a
    else
    (f_By_unsignedAt nf ((w0_5 + 20) + (4 * x3)) tpS tpN tpA).bind fun r_17 =>
      if x3 < 0 ∨ 6 ≤ x3.toNatClampNeg then none else
      f_FP_readHeader_137 nf tpS tpN tpA n (x3 + 1) w0_0 w0_1 w0_5 w3_0 (vp_updL w4_a x3.toNatClampNeg r_17)
def f_FP_readHeader_116 (nf : Nat) (tpS : Int32) (tpN : Nat) (tpA : Nat → Int32) (x2 : Int32) (w0_0 : Int32) (w0_1 : Int32) (w0_5 : Int32) (w3_0 : Int32) (w4_a : Nat → Int64) : Option (Int32 × Int32 × Int32 × Int32 × Int32 × (Nat → Int64)) :=
  (f_FP_hasMore nf 44 w0_0 w0_1 w0_5 tpS).bind fun (z_4, z_5, z_6) =>
  if z_4 = 0 then
  some (0, z_5, z_6, w0_5, w3_0, w4_a)
  else
  f_FP_readHeader_137 nf tpS tpN tpA nf 0 z_5 z_6 w0_5 x2 w4_a
def f_FP_readHeader_59 (nf : Nat) (K2 : Int32 → Int32 → Int32 → Int32 → Int32 → Int32 → (Nat → Int64) → Option (Int32 × Int32 × Int32 × Int32 × Int32 × (Nat → Int64))) (x2 : Int32) (x1 : Int32) (w0_0 : Int32) (w0_1 : Int32) (w0_5 : Int32) (w3_0 : Int32) (w4_a : Nat → Int64) : Option (Int32 × Int32 × Int32 × Int32 × Int32 × (Nat → Int64)) :=
  K2 (x2 + 1) x1 w0_0 w0_1 w0_5 w3_0 w4_a
def f_FP_readHeader_2 (nf : Nat) (tpS : Int32) (tpN : Nat) (tpA : Nat → Int32) : Nat → Int32 → Int32 → Int32 → Int32 → Int32 → Int32 → (Nat → Int64) → Option (Int32 × Int32 × Int32 × Int32 × Int32 × (Nat → Int64))
  | 0, _, _, _, _, _, _, _ => none
  | n + 1, x2, x1, w0_0, w0_1, w0_5, w3_0, w4_a =>
    if (4 : Int32) ≤ x2 then
    (f_By_get nf (w0_5 + 4) tpS tpN tpA).bind fun r_2 =>
      if tpS ≤ (w0_5 + 4) then
      f_FP_readHeader_116 nf tpS tpN tpA r_2 w0_0 w0_1 w0_5 w3_0 w4_a
      else
      (f_FP_isVersion nf r_2 x1 w3_0).bind fun r_19 =>
        if r_19 = 0 then
        (f_FP_fail nf 3 (w0_5 + 4) w0_0 w0_1).bind fun (z_21, z_22, z_23) =>
          if z_21 = 0 ∨ z_21 = 1 then some (z_21, z_22, z_23, w0_5, w3_0, w4_a) else none
        else
        f_FP_readHeader_116 nf tpS tpN tpA r_2 w0_0 w0_1 w0_5 w3_0 w4_a
    else
    if tpS ≤ (w0_5 + x2) then
      f_FP_readHeader_59 nf (f_FP_readHeader_2 nf tpS tpN tpA n) x2 x1 w0_0 w0_1 w0_5 w3_0 w4_a
      else
      (f_By_get nf (w0_5 + x2) tpS tpN tpA).bind fun r_26 =>
        if x2 < 0 ∨ 4 ≤ x2.toNatClampNeg then none else
        if r_26 = (mg_v x2.toNatClampNeg) then
        f_FP_readHeader_59 nf (f_FP_readHeader_2 nf tpS tpN tpA n) x2 x1 w0_0 w0_1 w0_5 w3_0 w4_a
        else
        (f_FP_fail nf 2 (w0_5 + x2) w0_0 w0_1).bind fun (z_29, z_30, z_31) =>
          if z_29 = 0 ∨ z_29 = 1 then some (z_29, z_30, z_31, w0_5, w3_0, w4_a) else none
def f_FP_readHeader_0 (nf : Nat) (tpS : Int32) (tpN : Nat) (tpA : Nat → Int32) (x1 : Int32) (w0_0 : Int32) (w0_1 : Int32) (w0_5 : Int32) (w3_0 : Int32) (w4_a : Nat → Int64) : Option (Int32 × Int32 × Int32 × Int32 × Int32 × (Nat → Int64)) :=
  f_FP_readHeader_2 nf tpS tpN tpA nf 0 x1 w0_0 w0_1 w0_5 w3_0 w4_a
def f_FP_readHeader (nf : Nat) (p0 : Int32) (fFault : Int32) (fPlace : Int32) (fPos : Int32) (tpS : Int32) (tpN : Nat) (tpA : Nat → Int32) (zVer : Int32) (fCountsA : Nat → Int64) : Option (Int32 × Int32 × Int32 × Int32 × Int32 × (Nat → Int64)) :=
  f_FP_readHeader_0 nf tpS tpN tpA p0 fFault fPlace fPos zVer fCountsA
section
variable {p : Program} {l : Launch} {e : Env} {R : Room} {s : State} {m : MethodId} {args : Array Value} {below : List Frame} {meth : Method} {c : Code} {Q : State → Prop} {dC : Nat → ClassId} {dI : Nat → Nat → Nat} {nf : Nat} {A : Nat → Prop}
variable {h0 : Nat} {fTape : Nat} {fZone : Nat} {fCounts : Nat} {tpR : Nat} {zTi : Nat} {zTt : Nat} {zOf : Nat} {zDs : Nat} {zIx : Nat} {zSd : Nat} {zUt : Nat} {zCh : Nat} {zLt : Nat} {zLo : Nat} {zRu : Nat} {cAtpR : ClassId} {cAfCounts : ClassId} {fFault : Int32} {fPlace : Int32} {fPos : Int32} {fText : Int32} {tpS : Int32} {tpN : Nat} {tpA : Nat → Int32} {zVer : Int32} {zTic : Int32} {zTyc : Int32} {zLec : Int32} {zStc : Int32} {zUtc : Int32} {fCountsA : Nat → Int64} {r0 : Int32} {v0_0 : Int32} {v0_1 : Int32} {v0_5 : Int32} {v3_0 : Int32} {v4_a : Nat → Int64}
set_option maxHeartbeats 400000 in
set_option maxRecDepth 100000 in
theorem k_FP_readHeader_178 (C0 : Cx p s m meth c args R b_FP_readHeader "ZoneFiles$FileParser" 4 (some .boolean) 3 67) (hST : ST A s s.heap) (hA : ∀ q, s.heap.size ≤ q → A q) (hE : ∀ (pc : Nat) (ls : Array Slot) {q2 : Nat} {nA2 : ClassId} (H : Heap) (locs : List Loc), decode b_FP_readHeader pc = .ok (.ireturn, 1) → narrow .boolean (.int r0) = .int r0 → va_P (dC, dI) classes [(h0, .inr (3, [.int v0_0, .int v0_1, .ref fTape, .ref fZone, .ref fCounts, .int v0_5, .int fText])), (fTape, .inr (0, [.ref q2, .int tpS])), (q2, .inl (nA2, tpN, .inl tpA)), (fZone, .inr (8, [.int v3_0, .int zTic, .int zTyc, .int zLec, .int zStc, .int zUtc, .ref zTi, .ref zTt, .ref zOf, .ref zDs, .ref zIx, .ref zSd, .ref zUt, .ref zCh, .ref zLt, .ref zLo, .ref zRu])), (fCounts, .inl (cAfCounts, 6, .inr (.inl v4_a)))] H → va_D A [(h0, .inr (3, [.int v0_0, .int v0_1, .ref fTape, .ref fZone, .ref fCounts, .int v0_5, .int fText])), (fTape, .inr (0, [.ref q2, .int tpS])), (q2, .inl (nA2, tpN, .inl tpA)), (fZone, .inr (8, [.int v3_0, .int zTic, .int zTyc, .int zLec, .int zStc, .int zUtc, .ref zTi, .ref zTt, .ref zOf, .ref zDs, .ref zIx, .ref zSd, .ref zUt, .ref zCh, .ref zLt, .ref zLo, .ref zRu])), (fCounts, .inl (cAfCounts, 6, .inr (.inl v4_a)))] → va_S A s.heap H locs → va_K (dC, dI) classes [(nA2, .byte), (cAfCounts, .long)] s → W p l e R s m args below meth c H locs 0 0 Q (F0 m pc ls [.int r0])) : ∀ (n : Nat) {x3 : Int32} {w0_0 : Int32} {w0_1 : Int32} {w0_5 : Int32} {w3_0 : Int32} {w4_a : Nat → Int64}, f_FP_readHeader_178 nf n x3 w0_0 w0_1 w0_5 w3_0 w4_a = some (r0, v0_0, v0_1, v0_5, v3_0, v4_a) → ∀ {q2 : Nat} {nA2 : ClassId} {H : Heap} {locs : List Loc} {ls : Array Slot}, va_K (dC, dI) classes [(nA2, .byte), (cAfCounts, .long)] s → va_P (dC, dI) classes [(h0, .inr (3, [.int w0_0, .int w0_1, .ref fTape, .ref fZone, .ref fCounts, .int w0_5, .int fText])), (fTape, .inr (0, [.ref q2, .int tpS])), (q2, .inl (nA2, tpN, .inl tpA)), (fZone, .inr (8, [.int w3_0, .int zTic, .int zTyc, .int zLec, .int zStc, .int zUtc, .ref zTi, .ref zTt, .ref zOf, .ref zDs, .ref zIx, .ref zSd, .ref zUt, .ref zCh, .ref zLt, .ref zLo, .ref zRu])), (fCounts, .inl (cAfCounts, 6, .inr (.inl w4_a)))] H → va_D A [(h0, .inr (3, [.int w0_0, .int w0_1, .ref fTape, .ref fZone, .ref fCounts, .int w0_5, .int fText])), (fTape, .inr (0, [.ref q2, .int tpS])), (q2, .inl (nA2, tpN, .inl tpA)), (fZone, .inr (8, [.int w3_0, .int zTic, .int zTyc, .int zLec, .int zStc, .int zUtc, .ref zTi, .ref zTt, .ref zOf, .ref zDs, .ref zIx, .ref zSd, .ref zUt, .ref zCh, .ref zLt, .ref zLo, .ref zRu])), (fCounts, .inl (cAfCounts, 6, .inr (.inl w4_a)))] → va_S A s.heap H locs → lv_has ls 4 [(3, .int x3), (0, .ref h0)] → W p l e R s m args below meth c H locs 0 0 Q (F0 m 178 ls []) := by
  obtain ⟨hx, hb, hr, hml, hown, hts, hlocks, hRf, hRl⟩ := id C0
  obtain ⟨tms, hZms, hTms, tmg, hZmg, hTmg, hNW⟩ := id hST
  intro n
  induction n with
  | zero =>
    intro x3 w0_0 w0_1 w0_5 w3_0 w4_a hf
    exact absurd hf (by simp [f_FP_readHeader_178])
  | succ n ih =>
    intro x3 w0_0 w0_1 w0_5 w3_0 w4_a hf q2 nA2 H locs ls hK hP hD hS hl
    unfold f_FP_readHeader_178 at hf
    refine lv_iload_n hx hb d_FP_readHeader_178 rfl (lv_at hl 0 rfl) ?_
    refine lv_aload_n hx hb d_FP_readHeader_179 rfl (lv_at hl 1 rfl) ?_
    refine va_get (D := (dC, dI)) (ci := 3) (v := .ref fCounts) (C := RFileParser) (T := TFileParser) (N := 7) hx hb hts in_FileParser hown hK hP 0 rfl rfl 4 (by decide) (hts (.fieldLink "ZoneFiles$FileParser" 19 "ZoneFiles$FileParser" "counts" "[J") m_3_162) (fun _ h9 => h9) rfl d_FP_readHeader_180 ?_
    refine va_alen (v := 6) hx hb hK hP 4 1 rfl rfl rfl d_FP_readHeader_183 ?_
    refine lv_icmp_ge (tgt := 224) hx hb d_FP_readHeader_184 (by decide) (fun c_9 => ?_) (fun c_9 => ?_)
    · have hf := it_t c_9 hf
      refine lv_aload_n hx hb d_FP_readHeader_224 rfl (lv_at hl 1 rfl) ?_
      refine lv_dup hx hb d_FP_readHeader_225 rfl ?_
      refine va_get (D := (dC, dI)) (ci := 3) (v := .int w0_5) (C := RFileParser) (T := TFileParser) (N := 7) hx hb hts in_FileParser hown hK hP 0 rfl rfl 5 (by decide) (hts (.fieldLink "ZoneFiles$FileParser" 44 "ZoneFiles$FileParser" "pos" "I") m_3_163) (fun _ h9 => h9) rfl d_FP_readHeader_226 ?_
      refine lv_bipush (v := 44) hx hb d_FP_readHeader_229 (by decide) ?_
      refine lv_iadd hx hb d_FP_readHeader_231 ?_
      refine va_put (D := (dC, dI)) (ci := 3) (v := .int (w0_5 + 44)) (ty := .int) (C := RFileParser) (T := TFileParser) (N := 7) hx hb hts in_FileParser tyFileParser ty_FileParser nm_FileParser hown hK hP hD hS 0 rfl rfl 5 (by decide) (hts (.fieldLink "ZoneFiles$FileParser" 44 "ZoneFiles$FileParser" "pos" "I") m_3_163) (fun _ h9 => h9) rfl (by decide +kernel) rfl rfl (Nat.le_of_ble_eq_true rfl) d_FP_readHeader_232 (fun H locs hP hD hS => ?_)
      have hP : va_P (dC, dI) classes [(h0, .inr (3, [.int w0_0, .int w0_1, .ref fTape, .ref fZone, .ref fCounts, .int (w0_5 + 44), .int fText])), (fTape, .inr (0, [.ref q2, .int tpS])), (q2, .inl (nA2, tpN, .inl tpA)), (fZone, .inr (8, [.int w3_0, .int zTic, .int zTyc, .int zLec, .int zStc, .int zUtc, .ref zTi, .ref zTt, .ref zOf, .ref zDs, .ref zIx, .ref zSd, .ref zUt, .ref zCh, .ref zLt, .ref zLo, .ref zRu])), (fCounts, .inl (cAfCounts, 6, .inr (.inl w4_a)))] H := hP
      have hD : va_D A [(h0, .inr (3, [.int w0_0, .int w0_1, .ref fTape, .ref fZone, .ref fCounts, .int (w0_5 + 44), .int fText])), (fTape, .inr (0, [.ref q2, .int tpS])), (q2, .inl (nA2, tpN, .inl tpA)), (fZone, .inr (8, [.int w3_0, .int zTic, .int zTyc, .int zLec, .int zStc, .int zUtc, .ref zTi, .ref zTt, .ref zOf, .ref zDs, .ref zIx, .ref zSd, .ref zUt, .ref zCh, .ref zLt, .ref zLo, .ref zRu])), (fCounts, .inl (cAfCounts, 6, .inr (.inl w4_a)))] := hD
      refine lv_iconst (v := 1) hx hb d_FP_readHeader_235 (by decide) ?_
      cases rs hf
      exact hE _ _ _ _ d_FP_readHeader_236 rfl hP hD hS hK
    · have hf := it_f c_9 hf
      refine lv_aload_n hx hb d_FP_readHeader_187 rfl (lv_at hl 1 rfl) ?_
      refine lv_iload_n hx hb d_FP_readHeader_188 rfl (lv_at hl 0 rfl) ?_
      refine lv_aload_n hx hb d_FP_readHeader_189 rfl (lv_at hl 1 rfl) ?_
      refine va_get (D := (dC, dI)) (ci := 3) (v := .ref fCounts) (C := RFileParser) (T := TFileParser) (N := 7) hx hb hts in_FileParser hown hK hP 0 rfl rfl 4 (by decide) (hts (.fieldLink "ZoneFiles$FileParser" 19 "ZoneFiles$FileParser" "counts" "[J") m_3_162) (fun _ h9 => h9) rfl d_FP_readHeader_190 ?_
      refine lv_iload_n hx hb d_FP_readHeader_193 rfl (lv_at hl 0 rfl) ?_
      obtain ⟨c_10, hf⟩ := it_n hf
      refine va_lald hx hb hK hP 4 1 rfl rfl c_10 d_FP_readHeader_194 ?_
      obtain ⟨r_11, hc, hf⟩ := ob hf
      refine cl_S (v := (some (.int r_11))) (st1 := [.int r_11]) (va_runV (As := [.int x3, .long (w4_a x3.toNatClampNeg)]) (rest := []) ⟨hx, hb, hml, hown, hts⟩ (c_FP_countFits l dC dI h0 fTape fZone fCounts cAfCounts nf x3 (w4_a x3.toNatClampNeg) w0_0 w0_1 w0_5 fText w4_a hc) (cwV 2 hts (gdV m_3_213 m_3_215 msel_19 m_1_16 m_3_216) rfl rfl rfl (by decide +kernel) ⟨Nat.le_trans (Nat.le_of_ble_eq_true rfl) hRf, Nat.le_trans (Nat.le_of_ble_eq_true rfl) hRl⟩) ((RO.pre (hP.sub (ws' := [(h0, .inr (3, [.int w0_0, .int w0_1, .ref fTape, .ref fZone, .ref fCounts, .int w0_5, .int fText])), (fCounts, .inl (cAfCounts, 6, .inr (.inl w4_a)))]) [0, 4] rfl) (hK.sub (tys' := [(cAfCounts, .long)]) [1] rfl) (hST.ro hS)).vir (va_recv (hK.sub (tys' := [(cAfCounts, .long)]) [1] rfl) (hP.sub (ws' := [(h0, .inr (3, [.int w0_0, .int w0_1, .ref fTape, .ref fZone, .ref fCounts, .int w0_5, .int fText])), (fCounts, .inl (cAfCounts, 6, .inr (.inl w4_a)))]) [0, 4] rfl) (ci := 3) (q0 := 0) rfl rfl)) rfl rfl hl.1 rfl (lv_room (Nat.le_of_ble_eq_true rfl)) d_FP_readHeader_195 ⟨Nat.zero_le _, Nat.zero_le _⟩) rfl ?_
      refine lv_if_ne (tgt := 218) hx hb d_FP_readHeader_198 (by decide) (fun c_12 => ?_) (fun c_12 => ?_)
      · have hf := it_f c_12 hf
        refine lv_iinc (v := x3 + 1) (lv' := [(3, .int (x3 + 1)), (0, .ref h0)]) hx hb d_FP_readHeader_218 hl (k := 0) rfl rfl (by decide) rfl (fun ls hl => ?_)
        refine lv_goto (tgt := 178) hx hb d_FP_readHeader_221 (by decide) ?_
        exact ih hf hK hP hD hS (lv_sub hl [0, 1] rfl)
      · have hf := it_t c_12 hf
        refine lv_aload_n hx hb d_FP_readHeader_201 rfl (lv_at hl 1 rfl) ?_
        refine lv_iconst (v := 4) hx hb d_FP_readHeader_202 (by decide) ?_
        refine lv_aload_n hx hb d_FP_readHeader_203 rfl (lv_at hl 1 rfl) ?_
        refine va_get (D := (dC, dI)) (ci := 3) (v := .int w0_5) (C := RFileParser) (T := TFileParser) (N := 7) hx hb hts in_FileParser hown hK hP 0 rfl rfl 5 (by decide) (hts (.fieldLink "ZoneFiles$FileParser" 44 "ZoneFiles$FileParser" "pos" "I") m_3_163) (fun _ h9 => h9) rfl d_FP_readHeader_204 ?_
        refine lv_bipush (v := 20) hx hb d_FP_readHeader_207 (by decide) ?_
        refine lv_iadd hx hb d_FP_readHeader_209 ?_
        refine lv_iconst (v := 4) hx hb d_FP_readHeader_210 (by decide) ?_
        refine lv_iload_n hx hb d_FP_readHeader_211 rfl (lv_at hl 0 rfl) ?_
        refine lv_imul hx hb d_FP_readHeader_212 ?_
        refine lv_iadd hx hb d_FP_readHeader_213 ?_
        obtain ⟨⟨z_13, z_14, z_15⟩, hc, hf⟩ := ob hf
        have hPc := hP.sub (ws' := [(h0, .inr (3, [.int w0_0, .int w0_1, .ref fTape, .ref fZone, .ref fCounts, .int w0_5, .int fText]))]) [0] rfl
        have hDc := hD.sub (ws' := [(h0, .inr (3, [.int w0_0, .int w0_1, .ref fTape, .ref fZone, .ref fCounts, .int w0_5, .int fText]))]) [0] (by decide) rfl
        have hKc := hK.sub (tys' := []) [] rfl
        have hFc := va_free (wc := [(h0, .inr (3, [.int w0_0, .int w0_1, .ref fTape, .ref fZone, .ref fCounts, .int w0_5, .int fText]))]) hD hS hA [0] rfl
        refine cl_M (v := (some (.int z_13))) (st1 := [.int z_13]) (va_runV (As := [.int 4, .int ((w0_5 + 20) + (4 * x3))]) (rest := []) ⟨hx, hb, hml, hown, hts⟩ (c_FP_fail l dC dI h0 fTape fZone fCounts H.size nf 4 ((w0_5 + 20) + (4 * x3)) w0_0 w0_1 w0_5 fText hc) (cwV 2 hts (gdV m_3_191 m_3_193 msel_16 m_1_16 m_3_194) rfl rfl rfl (by decide +kernel) ⟨Nat.le_trans (Nat.le_of_ble_eq_true rfl) hRf, Nat.le_trans (Nat.le_of_ble_eq_true rfl) hRl⟩) ((MU.pre hPc hKc hDc (hST.mu hS hFc)).vir (va_recv hKc hPc (ci := 3) (q0 := 0) rfl rfl)) rfl rfl hl.1 rfl (lv_room (Nat.le_of_ble_eq_true rfl)) d_FP_readHeader_214 ⟨Nat.zero_le _, Nat.zero_le _⟩) rfl hS (fun q _ h => hFc q h) hFc (fun t H1 locs ht hvm hB hz1 hk1 hS => ?_)
        obtain ⟨hP1, hK1, hD1⟩ := hB
        rw [ht] at hP1
        have hK1 := va_K.moved hvm.symm hK1
        obtain ⟨hP, hD⟩ := va_join (wr := [(fTape, .inr (0, [.ref q2, .int tpS])), (q2, .inl (nA2, tpN, .inl tpA)), (fZone, .inr (8, [.int w3_0, .int zTic, .int zTyc, .int zLec, .int zStc, .int zUtc, .ref zTi, .ref zTt, .ref zOf, .ref zDs, .ref zIx, .ref zSd, .ref zUt, .ref zCh, .ref zLt, .ref zLo, .ref zRu])), (fCounts, .inl (cAfCounts, 6, .inr (.inl w4_a)))]) (w1 := [(h0, .inr (3, [.int z_14, .int z_15, .ref fTape, .ref fZone, .ref fCounts, .int w0_5, .int fText]))]) hP hD [0] [1, 2, 3, 4] rfl rfl (by decide) (by decide) hk1 hFc hP1 hD1
        have hK := (hK.sub (tys' := [(nA2, .byte), (cAfCounts, .long)]) [0, 1] rfl).app hK1
        generalize H1 = H at hP hS ⊢
        have hP := hP.sub (ws' := [(h0, .inr (3, [.int z_14, .int z_15, .ref fTape, .ref fZone, .ref fCounts, .int w0_5, .int fText])), (fTape, .inr (0, [.ref q2, .int tpS])), (q2, .inl (nA2, tpN, .inl tpA)), (fZone, .inr (8, [.int w3_0, .int zTic, .int zTyc, .int zLec, .int zStc, .int zUtc, .ref zTi, .ref zTt, .ref zOf, .ref zDs, .ref zIx, .ref zSd, .ref zUt, .ref zCh, .ref zLt, .ref zLo, .ref zRu])), (fCounts, .inl (cAfCounts, 6, .inr (.inl w4_a)))]) [4, 0, 1, 2, 3] rfl
        have hD := hD.sub (ws' := [(h0, .inr (3, [.int z_14, .int z_15, .ref fTape, .ref fZone, .ref fCounts, .int w0_5, .int fText])), (fTape, .inr (0, [.ref q2, .int tpS])), (q2, .inl (nA2, tpN, .inl tpA)), (fZone, .inr (8, [.int w3_0, .int zTic, .int zTyc, .int zLec, .int zStc, .int zUtc, .ref zTi, .ref zTt, .ref zOf, .ref zDs, .ref zIx, .ref zSd, .ref zUt, .ref zCh, .ref zLt, .ref zLo, .ref zRu])), (fCounts, .inl (cAfCounts, 6, .inr (.inl w4_a)))]) [4, 0, 1, 2, 3] (by decide) rfl
        have hK := hK.sub (tys' := [(nA2, .byte), (cAfCounts, .long)]) [0, 1] rfl
        obtain ⟨c_16, hf⟩ := it_g hf
        cases rs hf
        exact hE _ _ _ _ d_FP_readHeader_217 (nb_of c_16) hP hD hS hK
set_option maxHeartbeats 400000 in
set_option maxRecDepth 100000 in
theorem k_FP_readHeader_137 (C0 : Cx p s m meth c args R b_FP_readHeader "ZoneFiles$FileParser" 4 (some .boolean) 3 67) (hST : ST A s s.heap) (hA : ∀ q, s.heap.size ≤ q → A q) (hE : ∀ (pc : Nat) (ls : Array Slot) {q2 : Nat} {nA2 : ClassId} (H : Heap) (locs : List Loc), decode b_FP_readHeader pc = .ok (.ireturn, 1) → narrow .boolean (.int r0) = .int r0 → va_P (dC, dI) classes [(h0, .inr (3, [.int v0_0, .int v0_1, .ref fTape, .ref fZone, .ref fCounts, .int v0_5, .int fText])), (fTape, .inr (0, [.ref q2, .int tpS])), (q2, .inl (nA2, tpN, .inl tpA)), (fZone, .inr (8, [.int v3_0, .int zTic, .int zTyc, .int zLec, .int zStc, .int zUtc, .ref zTi, .ref zTt, .ref zOf, .ref zDs, .ref zIx, .ref zSd, .ref zUt, .ref zCh, .ref zLt, .ref zLo, .ref zRu])), (fCounts, .inl (cAfCounts, 6, .inr (.inl v4_a)))] H → va_D A [(h0, .inr (3, [.int v0_0, .int v0_1, .ref fTape, .ref fZone, .ref fCounts, .int v0_5, .int fText])), (fTape, .inr (0, [.ref q2, .int tpS])), (q2, .inl (nA2, tpN, .inl tpA)), (fZone, .inr (8, [.int v3_0, .int zTic, .int zTyc, .int zLec, .int zStc, .int zUtc, .ref zTi, .ref zTt, .ref zOf, .ref zDs, .ref zIx, .ref zSd, .ref zUt, .ref zCh, .ref zLt, .ref zLo, .ref zRu])), (fCounts, .inl (cAfCounts, 6, .inr (.inl v4_a)))] → va_S A s.heap H locs → va_K (dC, dI) classes [(nA2, .byte), (cAfCounts, .long)] s → W p l e R s m args below meth c H locs 0 0 Q (F0 m pc ls [.int r0])) : ∀ (n : Nat) {x3 : Int32} {w0_0 : Int32} {w0_1 : Int32} {w0_5 : Int32} {w3_0 : Int32} {w4_a : Nat → Int64}, f_FP_readHeader_137 nf tpS tpN tpA n x3 w0_0 w0_1 w0_5 w3_0 w4_a = some (r0, v0_0, v0_1, v0_5, v3_0, v4_a) → ∀ {q2 : Nat} {nA2 : ClassId} {H : Heap} {locs : List Loc} {ls : Array Slot}, va_K (dC, dI) classes [(nA2, .byte), (cAfCounts, .long)] s → va_P (dC, dI) classes [(h0, .inr (3, [.int w0_0, .int w0_1, .ref fTape, .ref fZone, .ref fCounts, .int w0_5, .int fText])), (fTape, .inr (0, [.ref q2, .int tpS])), (q2, .inl (nA2, tpN, .inl tpA)), (fZone, .inr (8, [.int w3_0, .int zTic, .int zTyc, .int zLec, .int zStc, .int zUtc, .ref zTi, .ref zTt, .ref zOf, .ref zDs, .ref zIx, .ref zSd, .ref zUt, .ref zCh, .ref zLt, .ref zLo, .ref zRu])), (fCounts, .inl (cAfCounts, 6, .inr (.inl w4_a)))] H → va_D A [(h0, .inr (3, [.int w0_0, .int w0_1, .ref fTape, .ref fZone, .ref fCounts, .int w0_5, .int fText])), (fTape, .inr (0, [.ref q2, .int tpS])), (q2, .inl (nA2, tpN, .inl tpA)), (fZone, .inr (8, [.int w3_0, .int zTic, .int zTyc, .int zLec, .int zStc, .int zUtc, .ref zTi, .ref zTt, .ref zOf, .ref zDs, .ref zIx, .ref zSd, .ref zUt, .ref zCh, .ref zLt, .ref zLo, .ref zRu])), (fCounts, .inl (cAfCounts, 6, .inr (.inl w4_a)))] → va_S A s.heap H locs → lv_has ls 4 [(3, .int x3), (0, .ref h0)] → W p l e R s m args below meth c H locs 0 0 Q (F0 m 137 ls []) := by
  obtain ⟨hx, hb, hr, hml, hown, hts, hlocks, hRf, hRl⟩ := id C0
  obtain ⟨tms, hZms, hTms, tmg, hZmg, hTmg, hNW⟩ := id hST
  intro n
  induction n with
  | zero =>
    intro x3 w0_0 w0_1 w0_5 w3_0 w4_a hf
    exact absurd hf (by simp [f_FP_readHeader_137])
  | succ n ih =>
    intro x3 w0_0 w0_1 w0_5 w3_0 w4_a hf q2 nA2 H locs ls hK hP hD hS hl
    unfold f_FP_readHeader_137 at hf
    refine lv_iload_n hx hb d_FP_readHeader_137 rfl (lv_at hl 0 rfl) ?_
    refine lv_aload_n hx hb d_FP_readHeader_138 rfl (lv_at hl 1 rfl) ?_
    refine va_get (D := (dC, dI)) (ci := 3) (v := .ref fCounts) (C := RFileParser) (T := TFileParser) (N := 7) hx hb hts in_FileParser hown hK hP 0 rfl rfl 4 (by decide) (hts (.fieldLink "ZoneFiles$FileParser" 19 "ZoneFiles$FileParser" "counts" "[J") m_3_162) (fun _ h9 => h9) rfl d_FP_readHeader_139 ?_
    refine va_alen (v := 6) hx hb hK hP 4 1 rfl rfl rfl d_FP_readHeader_142 ?_
    refine lv_icmp_ge (tgt := 176) hx hb d_FP_readHeader_143 (by decide) (fun c_8 => ?_) (fun c_8 => ?_)
    · have hf := it_t c_8 hf
      refine lv_iconst (v := 0) hx hb d_FP_readHeader_176 (by decide) ?_
      refine lv_istore_n (lv' := [(3, .int 0), (0, .ref h0)]) hx hb d_FP_readHeader_177 rfl hl (by decide) rfl (fun ls hl => ?_)
      exact k_FP_readHeader_178 C0 hST hA hE nf hf hK hP hD hS (lv_sub hl [0, 1] rfl)
    · have hf := it_f c_8 hf
      refine lv_aload_n hx hb d_FP_readHeader_146 rfl (lv_at hl 1 rfl) ?_
      refine va_get (D := (dC, dI)) (ci := 3) (v := .ref fCounts) (C := RFileParser) (T := TFileParser) (N := 7) hx hb hts in_FileParser hown hK hP 0 rfl rfl 4 (by decide) (hts (.fieldLink "ZoneFiles$FileParser" 19 "ZoneFiles$FileParser" "counts" "[J") m_3_162) (fun _ h9 => h9) rfl d_FP_readHeader_147 ?_
      refine lv_iload_n hx hb d_FP_readHeader_150 rfl (lv_at hl 0 rfl) ?_
      refine lv_aload_n hx hb d_FP_readHeader_151 rfl (lv_at hl 1 rfl) ?_
      refine va_get (D := (dC, dI)) (ci := 3) (v := .ref fTape) (C := RFileParser) (T := TFileParser) (N := 7) hx hb hts in_FileParser hown hK hP 0 rfl rfl 2 (by decide) (hts (.fieldLink "ZoneFiles$FileParser" 9 "ZoneFiles$FileParser" "tape" "LZoneFiles$Bytes;") m_3_160) (fun _ h9 => h9) rfl d_FP_readHeader_152 ?_
      refine lv_aload_n hx hb d_FP_readHeader_155 rfl (lv_at hl 1 rfl) ?_
      refine va_get (D := (dC, dI)) (ci := 3) (v := .int w0_5) (C := RFileParser) (T := TFileParser) (N := 7) hx hb hts in_FileParser hown hK hP 0 rfl rfl 5 (by decide) (hts (.fieldLink "ZoneFiles$FileParser" 44 "ZoneFiles$FileParser" "pos" "I") m_3_163) (fun _ h9 => h9) rfl d_FP_readHeader_156 ?_
      refine lv_bipush (v := 20) hx hb d_FP_readHeader_159 (by decide) ?_
      refine lv_iadd hx hb d_FP_readHeader_161 ?_
      refine lv_iconst (v := 4) hx hb d_FP_readHeader_162 (by decide) ?_
      refine lv_iload_n hx hb d_FP_readHeader_163 rfl (lv_at hl 0 rfl) ?_
      refine lv_imul hx hb d_FP_readHeader_164 ?_
      refine lv_iadd hx hb d_FP_readHeader_165 ?_
      obtain ⟨r_17, hc, hf⟩ := ob hf
      refine cl_S (v := (some (.long r_17))) (st1 := [.long r_17, .int x3, .ref fCounts]) (va_runV (As := [.int ((w0_5 + 20) + (4 * x3))]) (rest := [.int x3, .ref fCounts]) ⟨hx, hb, hml, hown, hts⟩ (c_By_unsignedAt l dC dI fTape q2 nA2 nf ((w0_5 + 20) + (4 * x3)) tpS tpN tpA hc) (cwV 1 hts (gdV m_3_203 m_3_204 m_3_205 m_1_2 m_3_206) rfl rfl rfl (by decide +kernel) ⟨Nat.le_trans (Nat.le_of_ble_eq_true rfl) hRf, Nat.le_trans (Nat.le_of_ble_eq_true rfl) hRl⟩) ((RO.pre (hP.sub (ws' := [(fTape, .inr (0, [.ref q2, .int tpS])), (q2, .inl (nA2, tpN, .inl tpA))]) [1, 2] rfl) (hK.sub (tys' := [(nA2, .byte)]) [0] rfl) (hST.ro hS)).vir (va_recv (hK.sub (tys' := [(nA2, .byte)]) [0] rfl) (hP.sub (ws' := [(fTape, .inr (0, [.ref q2, .int tpS])), (q2, .inl (nA2, tpN, .inl tpA))]) [1, 2] rfl) (ci := 0) (q0 := 0) rfl rfl)) rfl rfl hl.1 rfl (lv_room (Nat.le_of_ble_eq_true rfl)) d_FP_readHeader_166 ⟨Nat.zero_le _, Nat.zero_le _⟩) rfl ?_
      obtain ⟨c_18, hf⟩ := it_n hf
      refine va_last hx hb hK hP hD hS 4 1 rfl rfl c_18 d_FP_readHeader_169 (fun H locs hP hD hS => ?_)
      have hP : va_P (dC, dI) classes [(h0, .inr (3, [.int w0_0, .int w0_1, .ref fTape, .ref fZone, .ref fCounts, .int w0_5, .int fText])), (fTape, .inr (0, [.ref q2, .int tpS])), (q2, .inl (nA2, tpN, .inl tpA)), (fZone, .inr (8, [.int w3_0, .int zTic, .int zTyc, .int zLec, .int zStc, .int zUtc, .ref zTi, .ref zTt, .ref zOf, .ref zDs, .ref zIx, .ref zSd, .ref zUt, .ref zCh, .ref zLt, .ref zLo, .ref zRu])), (fCounts, .inl (cAfCounts, 6, .inr (.inl (vp_updL w4_a x3.toNatClampNeg r_17))))] H := hP
      have hD : va_D A [(h0, .inr (3, [.int w0_0, .int w0_1, .ref fTape, .ref fZone, .ref fCounts, .int w0_5, .int fText])), (fTape, .inr (0, [.ref q2, .int tpS])), (q2, .inl (nA2, tpN, .inl tpA)), (fZone, .inr (8, [.int w3_0, .int zTic, .int zTyc, .int zLec, .int zStc, .int zUtc, .ref zTi, .ref zTt, .ref zOf, .ref zDs, .ref zIx, .ref zSd, .ref zUt, .ref zCh, .ref zLt, .ref zLo, .ref zRu])), (fCounts, .inl (cAfCounts, 6, .inr (.inl (vp_updL w4_a x3.toNatClampNeg r_17))))] := hD
      refine lv_iinc (v := x3 + 1) (lv' := [(3, .int (x3 + 1)), (0, .ref h0)]) hx hb d_FP_readHeader_170 hl (k := 0) rfl rfl (by decide) rfl (fun ls hl => ?_)
      refine lv_goto (tgt := 137) hx hb d_FP_readHeader_173 (by decide) ?_
      exact ih hf hK hP hD hS (lv_sub hl [0, 1] rfl)
set_option maxHeartbeats 400000 in
set_option maxRecDepth 100000 in
theorem k_FP_readHeader_116 (C0 : Cx p s m meth c args R b_FP_readHeader "ZoneFiles$FileParser" 4 (some .boolean) 3 67) (hST : ST A s s.heap) (hA : ∀ q, s.heap.size ≤ q → A q) (hE : ∀ (pc : Nat) (ls : Array Slot) {q2 : Nat} {nA2 : ClassId} (H : Heap) (locs : List Loc), decode b_FP_readHeader pc = .ok (.ireturn, 1) → narrow .boolean (.int r0) = .int r0 → va_P (dC, dI) classes [(h0, .inr (3, [.int v0_0, .int v0_1, .ref fTape, .ref fZone, .ref fCounts, .int v0_5, .int fText])), (fTape, .inr (0, [.ref q2, .int tpS])), (q2, .inl (nA2, tpN, .inl tpA)), (fZone, .inr (8, [.int v3_0, .int zTic, .int zTyc, .int zLec, .int zStc, .int zUtc, .ref zTi, .ref zTt, .ref zOf, .ref zDs, .ref zIx, .ref zSd, .ref zUt, .ref zCh, .ref zLt, .ref zLo, .ref zRu])), (fCounts, .inl (cAfCounts, 6, .inr (.inl v4_a)))] H → va_D A [(h0, .inr (3, [.int v0_0, .int v0_1, .ref fTape, .ref fZone, .ref fCounts, .int v0_5, .int fText])), (fTape, .inr (0, [.ref q2, .int tpS])), (q2, .inl (nA2, tpN, .inl tpA)), (fZone, .inr (8, [.int v3_0, .int zTic, .int zTyc, .int zLec, .int zStc, .int zUtc, .ref zTi, .ref zTt, .ref zOf, .ref zDs, .ref zIx, .ref zSd, .ref zUt, .ref zCh, .ref zLt, .ref zLo, .ref zRu])), (fCounts, .inl (cAfCounts, 6, .inr (.inl v4_a)))] → va_S A s.heap H locs → va_K (dC, dI) classes [(nA2, .byte), (cAfCounts, .long)] s → W p l e R s m args below meth c H locs 0 0 Q (F0 m pc ls [.int r0])) {x2 : Int32} {w0_0 : Int32} {w0_1 : Int32} {w0_5 : Int32} {w3_0 : Int32} {w4_a : Nat → Int64} (hf : f_FP_readHeader_116 nf tpS tpN tpA x2 w0_0 w0_1 w0_5 w3_0 w4_a = some (r0, v0_0, v0_1, v0_5, v3_0, v4_a)) {q2 : Nat} {nA2 : ClassId} {H : Heap} {locs : List Loc} {ls : Array Slot} (hK : va_K (dC, dI) classes [(nA2, .byte), (cAfCounts, .long)] s) (hP : va_P (dC, dI) classes [(h0, .inr (3, [.int w0_0, .int w0_1, .ref fTape, .ref fZone, .ref fCounts, .int w0_5, .int fText])), (fTape, .inr (0, [.ref q2, .int tpS])), (q2, .inl (nA2, tpN, .inl tpA)), (fZone, .inr (8, [.int w3_0, .int zTic, .int zTyc, .int zLec, .int zStc, .int zUtc, .ref zTi, .ref zTt, .ref zOf, .ref zDs, .ref zIx, .ref zSd, .ref zUt, .ref zCh, .ref zLt, .ref zLo, .ref zRu])), (fCounts, .inl (cAfCounts, 6, .inr (.inl w4_a)))] H) (hD : va_D A [(h0, .inr (3, [.int w0_0, .int w0_1, .ref fTape, .ref fZone, .ref fCounts, .int w0_5, .int fText])), (fTape, .inr (0, [.ref q2, .int tpS])), (q2, .inl (nA2, tpN, .inl tpA)), (fZone, .inr (8, [.int w3_0, .int zTic, .int zTyc, .int zLec, .int zStc, .int zUtc, .ref zTi, .ref zTt, .ref zOf, .ref zDs, .ref zIx, .ref zSd, .ref zUt, .ref zCh, .ref zLt, .ref zLo, .ref zRu])), (fCounts, .inl (cAfCounts, 6, .inr (.inl w4_a)))]) (hS : va_S A s.heap H locs) (hl : lv_has ls 4 [(2, .int x2), (0, .ref h0)]) : W p l e R s m args below meth c H locs 0 0 Q (F0 m 116 ls []) := by
  obtain ⟨hx, hb, hr, hml, hown, hts, hlocks, hRf, hRl⟩ := id C0
  obtain ⟨tms, hZms, hTms, tmg, hZmg, hTmg, hNW⟩ := id hST
  unfold f_FP_readHeader_116 at hf
  refine lv_aload_n hx hb d_FP_readHeader_116 rfl (lv_at hl 1 rfl) ?_
  refine lv_bipush (v := 44) hx hb d_FP_readHeader_117 (by decide) ?_
  obtain ⟨⟨z_4, z_5, z_6⟩, hc, hf⟩ := ob hf
  have hPc := hP.sub (ws' := [(h0, .inr (3, [.int w0_0, .int w0_1, .ref fTape, .ref fZone, .ref fCounts, .int w0_5, .int fText])), (fTape, .inr (0, [.ref q2, .int tpS]))]) [0, 1] rfl
  have hDc := hD.sub (ws' := [(h0, .inr (3, [.int w0_0, .int w0_1, .ref fTape, .ref fZone, .ref fCounts, .int w0_5, .int fText])), (fTape, .inr (0, [.ref q2, .int tpS]))]) [0, 1] (by decide) rfl
  have hKc := hK.sub (tys' := []) [] rfl
  have hFc := va_free (wc := [(h0, .inr (3, [.int w0_0, .int w0_1, .ref fTape, .ref fZone, .ref fCounts, .int w0_5, .int fText])), (fTape, .inr (0, [.ref q2, .int tpS]))]) hD hS hA [0, 1] rfl
  refine cl_M (v := (some (.int z_4))) (st1 := [.int z_4]) (va_runV (As := [.int 44]) (rest := []) ⟨hx, hb, hml, hown, hts⟩ (c_FP_hasMore l dC dI h0 fTape fZone fCounts q2 H.size nf 44 w0_0 w0_1 w0_5 fText tpS hc) (cwV 1 hts (gdV m_3_199 m_3_201 msel_18 m_1_16 m_3_202) rfl rfl rfl (by decide +kernel) ⟨Nat.le_trans (Nat.le_of_ble_eq_true rfl) hRf, Nat.le_trans (Nat.le_of_ble_eq_true rfl) hRl⟩) ((MU.pre hPc hKc hDc (hST.mu hS hFc)).vir (va_recv hKc hPc (ci := 3) (q0 := 0) rfl rfl)) rfl rfl hl.1 rfl (lv_room (Nat.le_of_ble_eq_true rfl)) d_FP_readHeader_119 ⟨Nat.zero_le _, Nat.zero_le _⟩) rfl hS (fun q _ h => hFc q h) hFc (fun t H1 locs ht hvm hB hz1 hk1 hS => ?_)
  obtain ⟨hP1, hK1, hD1⟩ := hB
  rw [ht] at hP1
  have hK1 := va_K.moved hvm.symm hK1
  obtain ⟨hP, hD⟩ := va_join (wr := [(q2, .inl (nA2, tpN, .inl tpA)), (fZone, .inr (8, [.int w3_0, .int zTic, .int zTyc, .int zLec, .int zStc, .int zUtc, .ref zTi, .ref zTt, .ref zOf, .ref zDs, .ref zIx, .ref zSd, .ref zUt, .ref zCh, .ref zLt, .ref zLo, .ref zRu])), (fCounts, .inl (cAfCounts, 6, .inr (.inl w4_a)))]) (w1 := [(h0, .inr (3, [.int z_5, .int z_6, .ref fTape, .ref fZone, .ref fCounts, .int w0_5, .int fText])), (fTape, .inr (0, [.ref q2, .int tpS]))]) hP hD [0, 1] [2, 3, 4] rfl rfl (by decide) (by decide) hk1 hFc hP1 hD1
  have hK := (hK.sub (tys' := [(nA2, .byte), (cAfCounts, .long)]) [0, 1] rfl).app hK1
  generalize H1 = H at hP hS ⊢
  have hP := hP.sub (ws' := [(h0, .inr (3, [.int z_5, .int z_6, .ref fTape, .ref fZone, .ref fCounts, .int w0_5, .int fText])), (fTape, .inr (0, [.ref q2, .int tpS])), (q2, .inl (nA2, tpN, .inl tpA)), (fZone, .inr (8, [.int w3_0, .int zTic, .int zTyc, .int zLec, .int zStc, .int zUtc, .ref zTi, .ref zTt, .ref zOf, .ref zDs, .ref zIx, .ref zSd, .ref zUt, .ref zCh, .ref zLt, .ref zLo, .ref zRu])), (fCounts, .inl (cAfCounts, 6, .inr (.inl w4_a)))]) [3, 4, 0, 1, 2] rfl
  have hD := hD.sub (ws' := [(h0, .inr (3, [.int z_5, .int z_6, .ref fTape, .ref fZone, .ref fCounts, .int w0_5, .int fText])), (fTape, .inr (0, [.ref q2, .int tpS])), (q2, .inl (nA2, tpN, .inl tpA)), (fZone, .inr (8, [.int w3_0, .int zTic, .int zTyc, .int zLec, .int zStc, .int zUtc, .ref zTi, .ref zTt, .ref zOf, .ref zDs, .ref zIx, .ref zSd, .ref zUt, .ref zCh, .ref zLt, .ref zLo, .ref zRu])), (fCounts, .inl (cAfCounts, 6, .inr (.inl w4_a)))]) [3, 4, 0, 1, 2] (by decide) rfl
  have hK := hK.sub (tys' := [(nA2, .byte), (cAfCounts, .long)]) [0, 1] rfl
  refine lv_if_ne (tgt := 127) hx hb d_FP_readHeader_122 (by decide) (fun c_7 => ?_) (fun c_7 => ?_)
  · have hf := it_f c_7 hf
    refine lv_aload_n hx hb d_FP_readHeader_127 rfl (lv_at hl 1 rfl) ?_
    refine va_get (D := (dC, dI)) (ci := 3) (v := .ref fZone) (C := RFileParser) (T := TFileParser) (N := 7) hx hb hts in_FileParser hown hK hP 0 rfl rfl 3 (by decide) (hts (.fieldLink "ZoneFiles$FileParser" 15 "ZoneFiles$FileParser" "zone" "LZoneFiles$Zone;") m_3_161) (fun _ h9 => h9) rfl d_FP_readHeader_128 ?_
    refine lv_iload_n hx hb d_FP_readHeader_131 rfl (lv_at hl 0 rfl) ?_
    refine va_put (D := (dC, dI)) (ci := 8) (v := .int x2) (ty := .int) (C := RZone) (T := TZone) (N := 17) hx hb hts in_Zone tyZone ty_Zone nm_Zone hown hK hP hD hS 3 rfl rfl 0 (by decide) (hts (.fieldLink "ZoneFiles$FileParser" 27 "ZoneFiles$Zone" "version" "I") m_1_163) (fun _ h9 => h9) rfl (by decide +kernel) rfl rfl (Nat.le_of_ble_eq_true rfl) d_FP_readHeader_132 (fun H locs hP hD hS => ?_)
    have hP : va_P (dC, dI) classes [(h0, .inr (3, [.int z_5, .int z_6, .ref fTape, .ref fZone, .ref fCounts, .int w0_5, .int fText])), (fTape, .inr (0, [.ref q2, .int tpS])), (q2, .inl (nA2, tpN, .inl tpA)), (fZone, .inr (8, [.int x2, .int zTic, .int zTyc, .int zLec, .int zStc, .int zUtc, .ref zTi, .ref zTt, .ref zOf, .ref zDs, .ref zIx, .ref zSd, .ref zUt, .ref zCh, .ref zLt, .ref zLo, .ref zRu])), (fCounts, .inl (cAfCounts, 6, .inr (.inl w4_a)))] H := hP
    have hD : va_D A [(h0, .inr (3, [.int z_5, .int z_6, .ref fTape, .ref fZone, .ref fCounts, .int w0_5, .int fText])), (fTape, .inr (0, [.ref q2, .int tpS])), (q2, .inl (nA2, tpN, .inl tpA)), (fZone, .inr (8, [.int x2, .int zTic, .int zTyc, .int zLec, .int zStc, .int zUtc, .ref zTi, .ref zTt, .ref zOf, .ref zDs, .ref zIx, .ref zSd, .ref zUt, .ref zCh, .ref zLt, .ref zLo, .ref zRu])), (fCounts, .inl (cAfCounts, 6, .inr (.inl w4_a)))] := hD
    refine lv_iconst (v := 0) hx hb d_FP_readHeader_135 (by decide) ?_
    refine lv_istore_n (lv' := [(3, .int 0), (2, .int x2), (0, .ref h0)]) hx hb d_FP_readHeader_136 rfl hl (by decide) rfl (fun ls hl => ?_)
    exact k_FP_readHeader_137 C0 hST hA hE nf hf hK hP hD hS (lv_sub hl [0, 2] rfl)
  · have hf := it_t c_7 hf
    refine lv_iconst (v := 0) hx hb d_FP_readHeader_125 (by decide) ?_
    cases rs hf
    exact hE _ _ _ _ d_FP_readHeader_126 rfl hP hD hS hK
set_option maxHeartbeats 400000 in
set_option maxRecDepth 100000 in
theorem k_FP_readHeader_59 (C0 : Cx p s m meth c args R b_FP_readHeader "ZoneFiles$FileParser" 4 (some .boolean) 3 67) (hST : ST A s s.heap) (hA : ∀ q, s.heap.size ≤ q → A q) (hE : ∀ (pc : Nat) (ls : Array Slot) {q2 : Nat} {nA2 : ClassId} (H : Heap) (locs : List Loc), decode b_FP_readHeader pc = .ok (.ireturn, 1) → narrow .boolean (.int r0) = .int r0 → va_P (dC, dI) classes [(h0, .inr (3, [.int v0_0, .int v0_1, .ref fTape, .ref fZone, .ref fCounts, .int v0_5, .int fText])), (fTape, .inr (0, [.ref q2, .int tpS])), (q2, .inl (nA2, tpN, .inl tpA)), (fZone, .inr (8, [.int v3_0, .int zTic, .int zTyc, .int zLec, .int zStc, .int zUtc, .ref zTi, .ref zTt, .ref zOf, .ref zDs, .ref zIx, .ref zSd, .ref zUt, .ref zCh, .ref zLt, .ref zLo, .ref zRu])), (fCounts, .inl (cAfCounts, 6, .inr (.inl v4_a)))] H → va_D A [(h0, .inr (3, [.int v0_0, .int v0_1, .ref fTape, .ref fZone, .ref fCounts, .int v0_5, .int fText])), (fTape, .inr (0, [.ref q2, .int tpS])), (q2, .inl (nA2, tpN, .inl tpA)), (fZone, .inr (8, [.int v3_0, .int zTic, .int zTyc, .int zLec, .int zStc, .int zUtc, .ref zTi, .ref zTt, .ref zOf, .ref zDs, .ref zIx, .ref zSd, .ref zUt, .ref zCh, .ref zLt, .ref zLo, .ref zRu])), (fCounts, .inl (cAfCounts, 6, .inr (.inl v4_a)))] → va_S A s.heap H locs → va_K (dC, dI) classes [(nA2, .byte), (cAfCounts, .long)] s → W p l e R s m args below meth c H locs 0 0 Q (F0 m pc ls [.int r0])) {K2 : Int32 → Int32 → Int32 → Int32 → Int32 → Int32 → (Nat → Int64) → Option (Int32 × Int32 × Int32 × Int32 × Int32 × (Nat → Int64))} (hK2 : ∀ {x2 : Int32} {x1 : Int32} {w0_0 : Int32} {w0_1 : Int32} {w0_5 : Int32} {w3_0 : Int32} {w4_a : Nat → Int64}, K2 x2 x1 w0_0 w0_1 w0_5 w3_0 w4_a = some (r0, v0_0, v0_1, v0_5, v3_0, v4_a) → ∀ {q2 : Nat} {nA2 : ClassId} {H : Heap} {locs : List Loc} {ls : Array Slot}, va_K (dC, dI) classes [(nA2, .byte), (cAfCounts, .long)] s → va_P (dC, dI) classes [(h0, .inr (3, [.int w0_0, .int w0_1, .ref fTape, .ref fZone, .ref fCounts, .int w0_5, .int fText])), (fTape, .inr (0, [.ref q2, .int tpS])), (q2, .inl (nA2, tpN, .inl tpA)), (fZone, .inr (8, [.int w3_0, .int zTic, .int zTyc, .int zLec, .int zStc, .int zUtc, .ref zTi, .ref zTt, .ref zOf, .ref zDs, .ref zIx, .ref zSd, .ref zUt, .ref zCh, .ref zLt, .ref zLo, .ref zRu])), (fCounts, .inl (cAfCounts, 6, .inr (.inl w4_a)))] H → va_D A [(h0, .inr (3, [.int w0_0, .int w0_1, .ref fTape, .ref fZone, .ref fCounts, .int w0_5, .int fText])), (fTape, .inr (0, [.ref q2, .int tpS])), (q2, .inl (nA2, tpN, .inl tpA)), (fZone, .inr (8, [.int w3_0, .int zTic, .int zTyc, .int zLec, .int zStc, .int zUtc, .ref zTi, .ref zTt, .ref zOf, .ref zDs, .ref zIx, .ref zSd, .ref zUt, .ref zCh, .ref zLt, .ref zLo, .ref zRu])), (fCounts, .inl (cAfCounts, 6, .inr (.inl w4_a)))] → va_S A s.heap H locs → lv_has ls 4 [(2, .int x2), (0, .ref h0), (1, .int x1)] → W p l e R s m args below meth c H locs 0 0 Q (F0 m 2 ls [])) {x2 : Int32} {x1 : Int32} {w0_0 : Int32} {w0_1 : Int32} {w0_5 : Int32} {w3_0 : Int32} {w4_a : Nat → Int64} (hf : f_FP_readHeader_59 nf K2 x2 x1 w0_0 w0_1 w0_5 w3_0 w4_a = some (r0, v0_0, v0_1, v0_5, v3_0, v4_a)) {q2 : Nat} {nA2 : ClassId} {H : Heap} {locs : List Loc} {ls : Array Slot} (hK : va_K (dC, dI) classes [(nA2, .byte), (cAfCounts, .long)] s) (hP : va_P (dC, dI) classes [(h0, .inr (3, [.int w0_0, .int w0_1, .ref fTape, .ref fZone, .ref fCounts, .int w0_5, .int fText])), (fTape, .inr (0, [.ref q2, .int tpS])), (q2, .inl (nA2, tpN, .inl tpA)), (fZone, .inr (8, [.int w3_0, .int zTic, .int zTyc, .int zLec, .int zStc, .int zUtc, .ref zTi, .ref zTt, .ref zOf, .ref zDs, .ref zIx, .ref zSd, .ref zUt, .ref zCh, .ref zLt, .ref zLo, .ref zRu])), (fCounts, .inl (cAfCounts, 6, .inr (.inl w4_a)))] H) (hD : va_D A [(h0, .inr (3, [.int w0_0, .int w0_1, .ref fTape, .ref fZone, .ref fCounts, .int w0_5, .int fText])), (fTape, .inr (0, [.ref q2, .int tpS])), (q2, .inl (nA2, tpN, .inl tpA)), (fZone, .inr (8, [.int w3_0, .int zTic, .int zTyc, .int zLec, .int zStc, .int zUtc, .ref zTi, .ref zTt, .ref zOf, .ref zDs, .ref zIx, .ref zSd, .ref zUt, .ref zCh, .ref zLt, .ref zLo, .ref zRu])), (fCounts, .inl (cAfCounts, 6, .inr (.inl w4_a)))]) (hS : va_S A s.heap H locs) (hl : lv_has ls 4 [(2, .int x2), (0, .ref h0), (1, .int x1)]) : W p l e R s m args below meth c H locs 0 0 Q (F0 m 59 ls []) := by
  obtain ⟨hx, hb, hr, hml, hown, hts, hlocks, hRf, hRl⟩ := id C0
  obtain ⟨tms, hZms, hTms, tmg, hZmg, hTmg, hNW⟩ := id hST
  unfold f_FP_readHeader_59 at hf
  refine lv_iinc (v := x2 + 1) (lv' := [(2, .int (x2 + 1)), (0, .ref h0), (1, .int x1)]) hx hb d_FP_readHeader_59 hl (k := 0) rfl rfl (by decide) rfl (fun ls hl => ?_)
  refine lv_goto (tgt := 2) hx hb d_FP_readHeader_62 (by decide) ?_
  exact hK2 hf hK hP hD hS (lv_sub hl [0, 1, 2] rfl)
set_option maxHeartbeats 400000 in
set_option maxRecDepth 100000 in
theorem k_FP_readHeader_2 (C0 : Cx p s m meth c args R b_FP_readHeader "ZoneFiles$FileParser" 4 (some .boolean) 3 67) (hST : ST A s s.heap) (hA : ∀ q, s.heap.size ≤ q → A q) (hE : ∀ (pc : Nat) (ls : Array Slot) {q2 : Nat} {nA2 : ClassId} (H : Heap) (locs : List Loc), decode b_FP_readHeader pc = .ok (.ireturn, 1) → narrow .boolean (.int r0) = .int r0 → va_P (dC, dI) classes [(h0, .inr (3, [.int v0_0, .int v0_1, .ref fTape, .ref fZone, .ref fCounts, .int v0_5, .int fText])), (fTape, .inr (0, [.ref q2, .int tpS])), (q2, .inl (nA2, tpN, .inl tpA)), (fZone, .inr (8, [.int v3_0, .int zTic, .int zTyc, .int zLec, .int zStc, .int zUtc, .ref zTi, .ref zTt, .ref zOf, .ref zDs, .ref zIx, .ref zSd, .ref zUt, .ref zCh, .ref zLt, .ref zLo, .ref zRu])), (fCounts, .inl (cAfCounts, 6, .inr (.inl v4_a)))] H → va_D A [(h0, .inr (3, [.int v0_0, .int v0_1, .ref fTape, .ref fZone, .ref fCounts, .int v0_5, .int fText])), (fTape, .inr (0, [.ref q2, .int tpS])), (q2, .inl (nA2, tpN, .inl tpA)), (fZone, .inr (8, [.int v3_0, .int zTic, .int zTyc, .int zLec, .int zStc, .int zUtc, .ref zTi, .ref zTt, .ref zOf, .ref zDs, .ref zIx, .ref zSd, .ref zUt, .ref zCh, .ref zLt, .ref zLo, .ref zRu])), (fCounts, .inl (cAfCounts, 6, .inr (.inl v4_a)))] → va_S A s.heap H locs → va_K (dC, dI) classes [(nA2, .byte), (cAfCounts, .long)] s → W p l e R s m args below meth c H locs 0 0 Q (F0 m pc ls [.int r0])) : ∀ (n : Nat) {x2 : Int32} {x1 : Int32} {w0_0 : Int32} {w0_1 : Int32} {w0_5 : Int32} {w3_0 : Int32} {w4_a : Nat → Int64}, f_FP_readHeader_2 nf tpS tpN tpA n x2 x1 w0_0 w0_1 w0_5 w3_0 w4_a = some (r0, v0_0, v0_1, v0_5, v3_0, v4_a) → ∀ {q2 : Nat} {nA2 : ClassId} {H : Heap} {locs : List Loc} {ls : Array Slot}, va_K (dC, dI) classes [(nA2, .byte), (cAfCounts, .long)] s → va_P (dC, dI) classes [(h0, .inr (3, [.int w0_0, .int w0_1, .ref fTape, .ref fZone, .ref fCounts, .int w0_5, .int fText])), (fTape, .inr (0, [.ref q2, .int tpS])), (q2, .inl (nA2, tpN, .inl tpA)), (fZone, .inr (8, [.int w3_0, .int zTic, .int zTyc, .int zLec, .int zStc, .int zUtc, .ref zTi, .ref zTt, .ref zOf, .ref zDs, .ref zIx, .ref zSd, .ref zUt, .ref zCh, .ref zLt, .ref zLo, .ref zRu])), (fCounts, .inl (cAfCounts, 6, .inr (.inl w4_a)))] H → va_D A [(h0, .inr (3, [.int w0_0, .int w0_1, .ref fTape, .ref fZone, .ref fCounts, .int w0_5, .int fText])), (fTape, .inr (0, [.ref q2, .int tpS])), (q2, .inl (nA2, tpN, .inl tpA)), (fZone, .inr (8, [.int w3_0, .int zTic, .int zTyc, .int zLec, .int zStc, .int zUtc, .ref zTi, .ref zTt, .ref zOf, .ref zDs, .ref zIx, .ref zSd, .ref zUt, .ref zCh, .ref zLt, .ref zLo, .ref zRu])), (fCounts, .inl (cAfCounts, 6, .inr (.inl w4_a)))] → va_S A s.heap H locs → lv_has ls 4 [(2, .int x2), (0, .ref h0), (1, .int x1)] → W p l e R s m args below meth c H locs 0 0 Q (F0 m 2 ls []) := by
  obtain ⟨hx, hb, hr, hml, hown, hts, hlocks, hRf, hRl⟩ := id C0
  obtain ⟨tms, hZms, hTms, tmg, hZmg, hTmg, hNW⟩ := id hST
  intro n
  induction n with
  | zero =>
    intro x2 x1 w0_0 w0_1 w0_5 w3_0 w4_a hf
    exact absurd hf (by simp [f_FP_readHeader_2])
  | succ n ih =>
    intro x2 x1 w0_0 w0_1 w0_5 w3_0 w4_a hf q2 nA2 H locs ls hK hP hD hS hl
    unfold f_FP_readHeader_2 at hf
    refine lv_iload_n hx hb d_FP_readHeader_2 rfl (lv_at hl 0 rfl) ?_
    refine va_getsN hx hb hZmg hS hown (va_Nw.use rfl hNW.2.2.1) (fun _ h9 => h9) d_FP_readHeader_3 ?_
    refine va_tlen (v := 4) hx hb hTmg hS rfl d_FP_readHeader_6 ?_
    refine lv_icmp_ge (tgt := 65) hx hb d_FP_readHeader_7 (by decide) (fun c_1 => ?_) (fun c_1 => ?_)
    · have hf := it_t c_1 hf
      refine lv_aload_n hx hb d_FP_readHeader_65 rfl (lv_at hl 1 rfl) ?_
      refine va_get (D := (dC, dI)) (ci := 3) (v := .ref fTape) (C := RFileParser) (T := TFileParser) (N := 7) hx hb hts in_FileParser hown hK hP 0 rfl rfl 2 (by decide) (hts (.fieldLink "ZoneFiles$FileParser" 9 "ZoneFiles$FileParser" "tape" "LZoneFiles$Bytes;") m_3_160) (fun _ h9 => h9) rfl d_FP_readHeader_66 ?_
      refine lv_aload_n hx hb d_FP_readHeader_69 rfl (lv_at hl 1 rfl) ?_
      refine va_get (D := (dC, dI)) (ci := 3) (v := .int w0_5) (C := RFileParser) (T := TFileParser) (N := 7) hx hb hts in_FileParser hown hK hP 0 rfl rfl 5 (by decide) (hts (.fieldLink "ZoneFiles$FileParser" 44 "ZoneFiles$FileParser" "pos" "I") m_3_163) (fun _ h9 => h9) rfl d_FP_readHeader_70 ?_
      refine lv_iconst (v := 4) hx hb d_FP_readHeader_73 (by decide) ?_
      refine lv_iadd hx hb d_FP_readHeader_74 ?_
      obtain ⟨r_2, hc, hf⟩ := ob hf
      refine cl_S (v := (some (.int r_2))) (st1 := [.int r_2]) (va_runV (As := [.int (w0_5 + 4)]) (rest := []) ⟨hx, hb, hml, hown, hts⟩ (c_By_get l dC dI fTape q2 nA2 nf (w0_5 + 4) tpS tpN tpA hc) (cwV 1 hts (gdV m_3_190 m_2_71 m_2_72 m_1_2 m_2_73) rfl rfl rfl (by decide +kernel) ⟨Nat.le_trans (Nat.le_of_ble_eq_true rfl) hRf, Nat.le_trans (Nat.le_of_ble_eq_true rfl) hRl⟩) ((RO.pre (hP.sub (ws' := [(fTape, .inr (0, [.ref q2, .int tpS])), (q2, .inl (nA2, tpN, .inl tpA))]) [1, 2] rfl) (hK.sub (tys' := [(nA2, .byte)]) [0] rfl) (hST.ro hS)).vir (va_recv (hK.sub (tys' := [(nA2, .byte)]) [0] rfl) (hP.sub (ws' := [(fTape, .inr (0, [.ref q2, .int tpS])), (q2, .inl (nA2, tpN, .inl tpA))]) [1, 2] rfl) (ci := 0) (q0 := 0) rfl rfl)) rfl rfl hl.1 rfl (lv_room (Nat.le_of_ble_eq_true rfl)) d_FP_readHeader_75 ⟨Nat.zero_le _, Nat.zero_le _⟩) rfl ?_
      refine lv_istore_n (lv' := [(2, .int r_2), (0, .ref h0), (1, .int x1)]) hx hb d_FP_readHeader_78 rfl hl (by decide) rfl (fun ls hl => ?_)
      refine lv_aload_n hx hb d_FP_readHeader_79 rfl (lv_at hl 1 rfl) ?_
      refine va_get (D := (dC, dI)) (ci := 3) (v := .int w0_5) (C := RFileParser) (T := TFileParser) (N := 7) hx hb hts in_FileParser hown hK hP 0 rfl rfl 5 (by decide) (hts (.fieldLink "ZoneFiles$FileParser" 44 "ZoneFiles$FileParser" "pos" "I") m_3_163) (fun _ h9 => h9) rfl d_FP_readHeader_80 ?_
      refine lv_iconst (v := 4) hx hb d_FP_readHeader_83 (by decide) ?_
      refine lv_iadd hx hb d_FP_readHeader_84 ?_
      refine lv_aload_n hx hb d_FP_readHeader_85 rfl (lv_at hl 1 rfl) ?_
      refine va_get (D := (dC, dI)) (ci := 3) (v := .ref fTape) (C := RFileParser) (T := TFileParser) (N := 7) hx hb hts in_FileParser hown hK hP 0 rfl rfl 2 (by decide) (hts (.fieldLink "ZoneFiles$FileParser" 9 "ZoneFiles$FileParser" "tape" "LZoneFiles$Bytes;") m_3_160) (fun _ h9 => h9) rfl d_FP_readHeader_86 ?_
      refine va_get (D := (dC, dI)) (ci := 0) (v := .int tpS) (C := RBytes) (T := TBytes) (N := 2) hx hb hts in_Bytes hown hK hP 1 rfl rfl 1 (by decide) (hts (.fieldLink "ZoneFiles$FileParser" 56 "ZoneFiles$Bytes" "size" "I") m_1_43) (fun _ h9 => h9) rfl d_FP_readHeader_89 ?_
      refine lv_icmp_ge (tgt := 116) hx hb d_FP_readHeader_92 (by decide) (fun c_3 => ?_) (fun c_3 => ?_)
      · have hf := it_t c_3 hf
        exact k_FP_readHeader_116 C0 hST hA hE hf hK hP hD hS (lv_sub hl [0, 1] rfl)
      · have hf := it_f c_3 hf
        refine lv_aload_n hx hb d_FP_readHeader_95 rfl (lv_at hl 1 rfl) ?_
        refine lv_iload_n hx hb d_FP_readHeader_96 rfl (lv_at hl 0 rfl) ?_
        refine lv_iload_n hx hb d_FP_readHeader_97 rfl (lv_at hl 2 rfl) ?_
        obtain ⟨r_19, hc, hf⟩ := ob hf
        refine cl_S (v := (some (.int r_19))) (st1 := [.int r_19]) (va_runV (As := [.int r_2, .int x1]) (rest := []) ⟨hx, hb, hml, hown, hts⟩ (c_FP_isVersion l dC dI h0 fTape fZone fCounts zTi zTt zOf zDs zIx zSd zUt zCh zLt zLo zRu nf r_2 x1 w0_0 w0_1 w0_5 fText w3_0 zTic zTyc zLec zStc zUtc hc) (cwV 2 hts (gdV m_3_195 m_3_197 msel_17 m_1_16 m_3_198) rfl rfl rfl (by decide +kernel) ⟨Nat.le_trans (Nat.le_of_ble_eq_true rfl) hRf, Nat.le_trans (Nat.le_of_ble_eq_true rfl) hRl⟩) ((RO.pre (hP.sub (ws' := [(h0, .inr (3, [.int w0_0, .int w0_1, .ref fTape, .ref fZone, .ref fCounts, .int w0_5, .int fText])), (fZone, .inr (8, [.int w3_0, .int zTic, .int zTyc, .int zLec, .int zStc, .int zUtc, .ref zTi, .ref zTt, .ref zOf, .ref zDs, .ref zIx, .ref zSd, .ref zUt, .ref zCh, .ref zLt, .ref zLo, .ref zRu]))]) [0, 3] rfl) (hK.sub (tys' := []) [] rfl) (hST.ro hS)).vir (va_recv (hK.sub (tys' := []) [] rfl) (hP.sub (ws' := [(h0, .inr (3, [.int w0_0, .int w0_1, .ref fTape, .ref fZone, .ref fCounts, .int w0_5, .int fText])), (fZone, .inr (8, [.int w3_0, .int zTic, .int zTyc, .int zLec, .int zStc, .int zUtc, .ref zTi, .ref zTt, .ref zOf, .ref zDs, .ref zIx, .ref zSd, .ref zUt, .ref zCh, .ref zLt, .ref zLo, .ref zRu]))]) [0, 3] rfl) (ci := 3) (q0 := 0) rfl rfl)) rfl rfl hl.1 rfl (lv_room (Nat.le_of_ble_eq_true rfl)) d_FP_readHeader_98 ⟨Nat.zero_le _, Nat.zero_le _⟩) rfl ?_
        refine lv_if_ne (tgt := 116) hx hb d_FP_readHeader_101 (by decide) (fun c_20 => ?_) (fun c_20 => ?_)
        · have hf := it_f c_20 hf
          exact k_FP_readHeader_116 C0 hST hA hE hf hK hP hD hS (lv_sub hl [0, 1] rfl)
        · have hf := it_t c_20 hf
          refine lv_aload_n hx hb d_FP_readHeader_104 rfl (lv_at hl 1 rfl) ?_
          refine lv_iconst (v := 3) hx hb d_FP_readHeader_105 (by decide) ?_
          refine lv_aload_n hx hb d_FP_readHeader_106 rfl (lv_at hl 1 rfl) ?_
          refine va_get (D := (dC, dI)) (ci := 3) (v := .int w0_5) (C := RFileParser) (T := TFileParser) (N := 7) hx hb hts in_FileParser hown hK hP 0 rfl rfl 5 (by decide) (hts (.fieldLink "ZoneFiles$FileParser" 44 "ZoneFiles$FileParser" "pos" "I") m_3_163) (fun _ h9 => h9) rfl d_FP_readHeader_107 ?_
          refine lv_iconst (v := 4) hx hb d_FP_readHeader_110 (by decide) ?_
          refine lv_iadd hx hb d_FP_readHeader_111 ?_
          obtain ⟨⟨z_21, z_22, z_23⟩, hc, hf⟩ := ob hf
          have hPc := hP.sub (ws' := [(h0, .inr (3, [.int w0_0, .int w0_1, .ref fTape, .ref fZone, .ref fCounts, .int w0_5, .int fText]))]) [0] rfl
          have hDc := hD.sub (ws' := [(h0, .inr (3, [.int w0_0, .int w0_1, .ref fTape, .ref fZone, .ref fCounts, .int w0_5, .int fText]))]) [0] (by decide) rfl
          have hKc := hK.sub (tys' := []) [] rfl
          have hFc := va_free (wc := [(h0, .inr (3, [.int w0_0, .int w0_1, .ref fTape, .ref fZone, .ref fCounts, .int w0_5, .int fText]))]) hD hS hA [0] rfl
          refine cl_M (v := (some (.int z_21))) (st1 := [.int z_21]) (va_runV (As := [.int 3, .int (w0_5 + 4)]) (rest := []) ⟨hx, hb, hml, hown, hts⟩ (c_FP_fail l dC dI h0 fTape fZone fCounts H.size nf 3 (w0_5 + 4) w0_0 w0_1 w0_5 fText hc) (cwV 2 hts (gdV m_3_191 m_3_193 msel_16 m_1_16 m_3_194) rfl rfl rfl (by decide +kernel) ⟨Nat.le_trans (Nat.le_of_ble_eq_true rfl) hRf, Nat.le_trans (Nat.le_of_ble_eq_true rfl) hRl⟩) ((MU.pre hPc hKc hDc (hST.mu hS hFc)).vir (va_recv hKc hPc (ci := 3) (q0 := 0) rfl rfl)) rfl rfl hl.1 rfl (lv_room (Nat.le_of_ble_eq_true rfl)) d_FP_readHeader_112 ⟨Nat.zero_le _, Nat.zero_le _⟩) rfl hS (fun q _ h => hFc q h) hFc (fun t H1 locs ht hvm hB hz1 hk1 hS => ?_)
          obtain ⟨hP1, hK1, hD1⟩ := hB
          rw [ht] at hP1
          have hK1 := va_K.moved hvm.symm hK1
          obtain ⟨hP, hD⟩ := va_join (wr := [(fTape, .inr (0, [.ref q2, .int tpS])), (q2, .inl (nA2, tpN, .inl tpA)), (fZone, .inr (8, [.int w3_0, .int zTic, .int zTyc, .int zLec, .int zStc, .int zUtc, .ref zTi, .ref zTt, .ref zOf, .ref zDs, .ref zIx, .ref zSd, .ref zUt, .ref zCh, .ref zLt, .ref zLo, .ref zRu])), (fCounts, .inl (cAfCounts, 6, .inr (.inl w4_a)))]) (w1 := [(h0, .inr (3, [.int z_22, .int z_23, .ref fTape, .ref fZone, .ref fCounts, .int w0_5, .int fText]))]) hP hD [0] [1, 2, 3, 4] rfl rfl (by decide) (by decide) hk1 hFc hP1 hD1
          have hK := (hK.sub (tys' := [(nA2, .byte), (cAfCounts, .long)]) [0, 1] rfl).app hK1
          generalize H1 = H at hP hS ⊢
          have hP := hP.sub (ws' := [(h0, .inr (3, [.int z_22, .int z_23, .ref fTape, .ref fZone, .ref fCounts, .int w0_5, .int fText])), (fTape, .inr (0, [.ref q2, .int tpS])), (q2, .inl (nA2, tpN, .inl tpA)), (fZone, .inr (8, [.int w3_0, .int zTic, .int zTyc, .int zLec, .int zStc, .int zUtc, .ref zTi, .ref zTt, .ref zOf, .ref zDs, .ref zIx, .ref zSd, .ref zUt, .ref zCh, .ref zLt, .ref zLo, .ref zRu])), (fCounts, .inl (cAfCounts, 6, .inr (.inl w4_a)))]) [4, 0, 1, 2, 3] rfl
          have hD := hD.sub (ws' := [(h0, .inr (3, [.int z_22, .int z_23, .ref fTape, .ref fZone, .ref fCounts, .int w0_5, .int fText])), (fTape, .inr (0, [.ref q2, .int tpS])), (q2, .inl (nA2, tpN, .inl tpA)), (fZone, .inr (8, [.int w3_0, .int zTic, .int zTyc, .int zLec, .int zStc, .int zUtc, .ref zTi, .ref zTt, .ref zOf, .ref zDs, .ref zIx, .ref zSd, .ref zUt, .ref zCh, .ref zLt, .ref zLo, .ref zRu])), (fCounts, .inl (cAfCounts, 6, .inr (.inl w4_a)))]) [4, 0, 1, 2, 3] (by decide) rfl
          have hK := hK.sub (tys' := [(nA2, .byte), (cAfCounts, .long)]) [0, 1] rfl
          obtain ⟨c_24, hf⟩ := it_g hf
          cases rs hf
          exact hE _ _ _ _ d_FP_readHeader_115 (nb_of c_24) hP hD hS hK
    · have hf := it_f c_1 hf
      refine lv_aload_n hx hb d_FP_readHeader_10 rfl (lv_at hl 1 rfl) ?_
      refine va_get (D := (dC, dI)) (ci := 3) (v := .int w0_5) (C := RFileParser) (T := TFileParser) (N := 7) hx hb hts in_FileParser hown hK hP 0 rfl rfl 5 (by decide) (hts (.fieldLink "ZoneFiles$FileParser" 44 "ZoneFiles$FileParser" "pos" "I") m_3_163) (fun _ h9 => h9) rfl d_FP_readHeader_11 ?_
      refine lv_iload_n hx hb d_FP_readHeader_14 rfl (lv_at hl 0 rfl) ?_
      refine lv_iadd hx hb d_FP_readHeader_15 ?_
      refine lv_aload_n hx hb d_FP_readHeader_16 rfl (lv_at hl 1 rfl) ?_
      refine va_get (D := (dC, dI)) (ci := 3) (v := .ref fTape) (C := RFileParser) (T := TFileParser) (N := 7) hx hb hts in_FileParser hown hK hP 0 rfl rfl 2 (by decide) (hts (.fieldLink "ZoneFiles$FileParser" 9 "ZoneFiles$FileParser" "tape" "LZoneFiles$Bytes;") m_3_160) (fun _ h9 => h9) rfl d_FP_readHeader_17 ?_
      refine va_get (D := (dC, dI)) (ci := 0) (v := .int tpS) (C := RBytes) (T := TBytes) (N := 2) hx hb hts in_Bytes hown hK hP 1 rfl rfl 1 (by decide) (hts (.fieldLink "ZoneFiles$FileParser" 56 "ZoneFiles$Bytes" "size" "I") m_1_43) (fun _ h9 => h9) rfl d_FP_readHeader_20 ?_
      refine lv_icmp_ge (tgt := 59) hx hb d_FP_readHeader_23 (by decide) (fun c_25 => ?_) (fun c_25 => ?_)
      · have hf := it_t c_25 hf
        exact k_FP_readHeader_59 C0 hST hA hE (fun hf => ih hf) hf hK hP hD hS (lv_sub hl [0, 1, 2] rfl)
      · have hf := it_f c_25 hf
        refine lv_aload_n hx hb d_FP_readHeader_26 rfl (lv_at hl 1 rfl) ?_
        refine va_get (D := (dC, dI)) (ci := 3) (v := .ref fTape) (C := RFileParser) (T := TFileParser) (N := 7) hx hb hts in_FileParser hown hK hP 0 rfl rfl 2 (by decide) (hts (.fieldLink "ZoneFiles$FileParser" 9 "ZoneFiles$FileParser" "tape" "LZoneFiles$Bytes;") m_3_160) (fun _ h9 => h9) rfl d_FP_readHeader_27 ?_
        refine lv_aload_n hx hb d_FP_readHeader_30 rfl (lv_at hl 1 rfl) ?_
        refine va_get (D := (dC, dI)) (ci := 3) (v := .int w0_5) (C := RFileParser) (T := TFileParser) (N := 7) hx hb hts in_FileParser hown hK hP 0 rfl rfl 5 (by decide) (hts (.fieldLink "ZoneFiles$FileParser" 44 "ZoneFiles$FileParser" "pos" "I") m_3_163) (fun _ h9 => h9) rfl d_FP_readHeader_31 ?_
        refine lv_iload_n hx hb d_FP_readHeader_34 rfl (lv_at hl 0 rfl) ?_
        refine lv_iadd hx hb d_FP_readHeader_35 ?_
        obtain ⟨r_26, hc, hf⟩ := ob hf
        refine cl_S (v := (some (.int r_26))) (st1 := [.int r_26]) (va_runV (As := [.int (w0_5 + x2)]) (rest := []) ⟨hx, hb, hml, hown, hts⟩ (c_By_get l dC dI fTape q2 nA2 nf (w0_5 + x2) tpS tpN tpA hc) (cwV 1 hts (gdV m_3_190 m_2_71 m_2_72 m_1_2 m_2_73) rfl rfl rfl (by decide +kernel) ⟨Nat.le_trans (Nat.le_of_ble_eq_true rfl) hRf, Nat.le_trans (Nat.le_of_ble_eq_true rfl) hRl⟩) ((RO.pre (hP.sub (ws' := [(fTape, .inr (0, [.ref q2, .int tpS])), (q2, .inl (nA2, tpN, .inl tpA))]) [1, 2] rfl) (hK.sub (tys' := [(nA2, .byte)]) [0] rfl) (hST.ro hS)).vir (va_recv (hK.sub (tys' := [(nA2, .byte)]) [0] rfl) (hP.sub (ws' := [(fTape, .inr (0, [.ref q2, .int tpS])), (q2, .inl (nA2, tpN, .inl tpA))]) [1, 2] rfl) (ci := 0) (q0 := 0) rfl rfl)) rfl rfl hl.1 rfl (lv_room (Nat.le_of_ble_eq_true rfl)) d_FP_readHeader_36 ⟨Nat.zero_le _, Nat.zero_le _⟩) rfl ?_
        refine va_getsN hx hb hZmg hS hown (va_Nw.use rfl hNW.2.2.1) (fun _ h9 => h9) d_FP_readHeader_39 ?_
        refine lv_iload_n hx hb d_FP_readHeader_42 rfl (lv_at hl 0 rfl) ?_
        obtain ⟨c_27, hf⟩ := it_n hf
        refine va_ti (v := .int (mg_v x2.toNatClampNeg)) hx hb hTmg hS c_27 rfl d_FP_readHeader_43 ?_
        refine lv_icmp_eq (tgt := 59) hx hb d_FP_readHeader_44 (by decide) (fun c_28 => ?_) (fun c_28 => ?_)
        · have hf := it_t c_28 hf
          exact k_FP_readHeader_59 C0 hST hA hE (fun hf => ih hf) hf hK hP hD hS (lv_sub hl [0, 1, 2] rfl)
        · have hf := it_f c_28 hf
          refine lv_aload_n hx hb d_FP_readHeader_47 rfl (lv_at hl 1 rfl) ?_
          refine lv_iconst (v := 2) hx hb d_FP_readHeader_48 (by decide) ?_
          refine lv_aload_n hx hb d_FP_readHeader_49 rfl (lv_at hl 1 rfl) ?_
          refine va_get (D := (dC, dI)) (ci := 3) (v := .int w0_5) (C := RFileParser) (T := TFileParser) (N := 7) hx hb hts in_FileParser hown hK hP 0 rfl rfl 5 (by decide) (hts (.fieldLink "ZoneFiles$FileParser" 44 "ZoneFiles$FileParser" "pos" "I") m_3_163) (fun _ h9 => h9) rfl d_FP_readHeader_50 ?_
          refine lv_iload_n hx hb d_FP_readHeader_53 rfl (lv_at hl 0 rfl) ?_
          refine lv_iadd hx hb d_FP_readHeader_54 ?_
          obtain ⟨⟨z_29, z_30, z_31⟩, hc, hf⟩ := ob hf
          have hPc := hP.sub (ws' := [(h0, .inr (3, [.int w0_0, .int w0_1, .ref fTape, .ref fZone, .ref fCounts, .int w0_5, .int fText]))]) [0] rfl
          have hDc := hD.sub (ws' := [(h0, .inr (3, [.int w0_0, .int w0_1, .ref fTape, .ref fZone, .ref fCounts, .int w0_5, .int fText]))]) [0] (by decide) rfl
          have hKc := hK.sub (tys' := []) [] rfl
          have hFc := va_free (wc := [(h0, .inr (3, [.int w0_0, .int w0_1, .ref fTape, .ref fZone, .ref fCounts, .int w0_5, .int fText]))]) hD hS hA [0] rfl
          refine cl_M (v := (some (.int z_29))) (st1 := [.int z_29]) (va_runV (As := [.int 2, .int (w0_5 + x2)]) (rest := []) ⟨hx, hb, hml, hown, hts⟩ (c_FP_fail l dC dI h0 fTape fZone fCounts H.size nf 2 (w0_5 + x2) w0_0 w0_1 w0_5 fText hc) (cwV 2 hts (gdV m_3_191 m_3_193 msel_16 m_1_16 m_3_194) rfl rfl rfl (by decide +kernel) ⟨Nat.le_trans (Nat.le_of_ble_eq_true rfl) hRf, Nat.le_trans (Nat.le_of_ble_eq_true rfl) hRl⟩) ((MU.pre hPc hKc hDc (hST.mu hS hFc)).vir (va_recv hKc hPc (ci := 3) (q0 := 0) rfl rfl)) rfl rfl hl.1 rfl (lv_room (Nat.le_of_ble_eq_true rfl)) d_FP_readHeader_55 ⟨Nat.zero_le _, Nat.zero_le _⟩) rfl hS (fun q _ h => hFc q h) hFc (fun t H1 locs ht hvm hB hz1 hk1 hS => ?_)
          obtain ⟨hP1, hK1, hD1⟩ := hB
          rw [ht] at hP1
          have hK1 := va_K.moved hvm.symm hK1
          obtain ⟨hP, hD⟩ := va_join (wr := [(fTape, .inr (0, [.ref q2, .int tpS])), (q2, .inl (nA2, tpN, .inl tpA)), (fZone, .inr (8, [.int w3_0, .int zTic, .int zTyc, .int zLec, .int zStc, .int zUtc, .ref zTi, .ref zTt, .ref zOf, .ref zDs, .ref zIx, .ref zSd, .ref zUt, .ref zCh, .ref zLt, .ref zLo, .ref zRu])), (fCounts, .inl (cAfCounts, 6, .inr (.inl w4_a)))]) (w1 := [(h0, .inr (3, [.int z_30, .int z_31, .ref fTape, .ref fZone, .ref fCounts, .int w0_5, .int fText]))]) hP hD [0] [1, 2, 3, 4] rfl rfl (by decide) (by decide) hk1 hFc hP1 hD1
          have hK := (hK.sub (tys' := [(nA2, .byte), (cAfCounts, .long)]) [0, 1] rfl).app hK1
          generalize H1 = H at hP hS ⊢
          have hP := hP.sub (ws' := [(h0, .inr (3, [.int z_30, .int z_31, .ref fTape, .ref fZone, .ref fCounts, .int w0_5, .int fText])), (fTape, .inr (0, [.ref q2, .int tpS])), (q2, .inl (nA2, tpN, .inl tpA)), (fZone, .inr (8, [.int w3_0, .int zTic, .int zTyc, .int zLec, .int zStc, .int zUtc, .ref zTi, .ref zTt, .ref zOf, .ref zDs, .ref zIx, .ref zSd, .ref zUt, .ref zCh, .ref zLt, .ref zLo, .ref zRu])), (fCounts, .inl (cAfCounts, 6, .inr (.inl w4_a)))]) [4, 0, 1, 2, 3] rfl
          have hD := hD.sub (ws' := [(h0, .inr (3, [.int z_30, .int z_31, .ref fTape, .ref fZone, .ref fCounts, .int w0_5, .int fText])), (fTape, .inr (0, [.ref q2, .int tpS])), (q2, .inl (nA2, tpN, .inl tpA)), (fZone, .inr (8, [.int w3_0, .int zTic, .int zTyc, .int zLec, .int zStc, .int zUtc, .ref zTi, .ref zTt, .ref zOf, .ref zDs, .ref zIx, .ref zSd, .ref zUt, .ref zCh, .ref zLt, .ref zLo, .ref zRu])), (fCounts, .inl (cAfCounts, 6, .inr (.inl w4_a)))]) [4, 0, 1, 2, 3] (by decide) rfl
          have hK := hK.sub (tys' := [(nA2, .byte), (cAfCounts, .long)]) [0, 1] rfl
          obtain ⟨c_32, hf⟩ := it_g hf
          cases rs hf
          exact hE _ _ _ _ d_FP_readHeader_58 (nb_of c_32) hP hD hS hK
set_option maxHeartbeats 400000 in
set_option maxRecDepth 100000 in
theorem k_FP_readHeader_0 (C0 : Cx p s m meth c args R b_FP_readHeader "ZoneFiles$FileParser" 4 (some .boolean) 3 67) (hST : ST A s s.heap) (hA : ∀ q, s.heap.size ≤ q → A q) (hE : ∀ (pc : Nat) (ls : Array Slot) {q2 : Nat} {nA2 : ClassId} (H : Heap) (locs : List Loc), decode b_FP_readHeader pc = .ok (.ireturn, 1) → narrow .boolean (.int r0) = .int r0 → va_P (dC, dI) classes [(h0, .inr (3, [.int v0_0, .int v0_1, .ref fTape, .ref fZone, .ref fCounts, .int v0_5, .int fText])), (fTape, .inr (0, [.ref q2, .int tpS])), (q2, .inl (nA2, tpN, .inl tpA)), (fZone, .inr (8, [.int v3_0, .int zTic, .int zTyc, .int zLec, .int zStc, .int zUtc, .ref zTi, .ref zTt, .ref zOf, .ref zDs, .ref zIx, .ref zSd, .ref zUt, .ref zCh, .ref zLt, .ref zLo, .ref zRu])), (fCounts, .inl (cAfCounts, 6, .inr (.inl v4_a)))] H → va_D A [(h0, .inr (3, [.int v0_0, .int v0_1, .ref fTape, .ref fZone, .ref fCounts, .int v0_5, .int fText])), (fTape, .inr (0, [.ref q2, .int tpS])), (q2, .inl (nA2, tpN, .inl tpA)), (fZone, .inr (8, [.int v3_0, .int zTic, .int zTyc, .int zLec, .int zStc, .int zUtc, .ref zTi, .ref zTt, .ref zOf, .ref zDs, .ref zIx, .ref zSd, .ref zUt, .ref zCh, .ref zLt, .ref zLo, .ref zRu])), (fCounts, .inl (cAfCounts, 6, .inr (.inl v4_a)))] → va_S A s.heap H locs → va_K (dC, dI) classes [(nA2, .byte), (cAfCounts, .long)] s → W p l e R s m args below meth c H locs 0 0 Q (F0 m pc ls [.int r0])) {x1 : Int32} {w0_0 : Int32} {w0_1 : Int32} {w0_5 : Int32} {w3_0 : Int32} {w4_a : Nat → Int64} (hf : f_FP_readHeader_0 nf tpS tpN tpA x1 w0_0 w0_1 w0_5 w3_0 w4_a = some (r0, v0_0, v0_1, v0_5, v3_0, v4_a)) {q2 : Nat} {nA2 : ClassId} {H : Heap} {locs : List Loc} {ls : Array Slot} (hK : va_K (dC, dI) classes [(nA2, .byte), (cAfCounts, .long)] s) (hP : va_P (dC, dI) classes [(h0, .inr (3, [.int w0_0, .int w0_1, .ref fTape, .ref fZone, .ref fCounts, .int w0_5, .int fText])), (fTape, .inr (0, [.ref q2, .int tpS])), (q2, .inl (nA2, tpN, .inl tpA)), (fZone, .inr (8, [.int w3_0, .int zTic, .int zTyc, .int zLec, .int zStc, .int zUtc, .ref zTi, .ref zTt, .ref zOf, .ref zDs, .ref zIx, .ref zSd, .ref zUt, .ref zCh, .ref zLt, .ref zLo, .ref zRu])), (fCounts, .inl (cAfCounts, 6, .inr (.inl w4_a)))] H) (hD : va_D A [(h0, .inr (3, [.int w0_0, .int w0_1, .ref fTape, .ref fZone, .ref fCounts, .int w0_5, .int fText])), (fTape, .inr (0, [.ref q2, .int tpS])), (q2, .inl (nA2, tpN, .inl tpA)), (fZone, .inr (8, [.int w3_0, .int zTic, .int zTyc, .int zLec, .int zStc, .int zUtc, .ref zTi, .ref zTt, .ref zOf, .ref zDs, .ref zIx, .ref zSd, .ref zUt, .ref zCh, .ref zLt, .ref zLo, .ref zRu])), (fCounts, .inl (cAfCounts, 6, .inr (.inl w4_a)))]) (hS : va_S A s.heap H locs) (hl : lv_has ls 4 [(0, .ref h0), (1, .int x1)]) : W p l e R s m args below meth c H locs 0 0 Q (F0 m 0 ls []) := by
  obtain ⟨hx, hb, hr, hml, hown, hts, hlocks, hRf, hRl⟩ := id C0
  obtain ⟨tms, hZms, hTms, tmg, hZmg, hTmg, hNW⟩ := id hST
  unfold f_FP_readHeader_0 at hf
  refine lv_iconst (v := 0) hx hb d_FP_readHeader_0 (by decide) ?_
  refine lv_istore_n (lv' := [(2, .int 0), (0, .ref h0), (1, .int x1)]) hx hb d_FP_readHeader_1 rfl hl (by decide) rfl (fun ls hl => ?_)
  exact k_FP_readHeader_2 C0 hST hA hE nf hf hK hP hD hS (lv_sub hl [0, 1, 2] rfl)
end
set_option maxHeartbeats 400000 in
set_option maxRecDepth 100000 in
theorem c_FP_readHeader (l : Launch) (dC : Nat → ClassId) (dI : Nat → Nat → Nat) (h0 : Nat) (fTape : Nat) (fZone : Nat) (fCounts : Nat) (tpR : Nat) (zTi : Nat) (zTt : Nat) (zOf : Nat) (zDs : Nat) (zIx : Nat) (zSd : Nat) (zUt : Nat) (zCh : Nat) (zLt : Nat) (zLo : Nat) (zRu : Nat) (cAtpR : ClassId) (cAfCounts : ClassId) (sz : Nat) (nf : Nat) (p0 : Int32) (fFault : Int32) (fPlace : Int32) (fPos : Int32) (fText : Int32) (tpS : Int32) (tpN : Nat) (tpA : Nat → Int32) (zVer : Int32) (zTic : Int32) (zTyc : Int32) (zLec : Int32) (zStc : Int32) (zUtc : Int32) (fCountsA : Nat → Int64) {r0 : Int32} {v0_0 : Int32} {v0_1 : Int32} {v0_5 : Int32} {v3_0 : Int32} {v4_a : Nat → Int64} (hf : f_FP_readHeader nf p0 fFault fPlace fPos tpS tpN tpA zVer fCountsA = some (r0, v0_0, v0_1, v0_5, v3_0, v4_a)) : Met l y_FP_readHeader (wd y_FP_readHeader b_FP_readHeader 4 (some .boolean)) ({ frames := 3, cells := 0, slots := 0, locals := 67 }) (MU dC dI [(h0, .inr (3, [.int fFault, .int fPlace, .ref fTape, .ref fZone, .ref fCounts, .int fPos, .int fText])), (fTape, .inr (0, [.ref tpR, .int tpS])), (tpR, .inl (cAtpR, tpN, .inl tpA)), (fZone, .inr (8, [.int zVer, .int zTic, .int zTyc, .int zLec, .int zStc, .int zUtc, .ref zTi, .ref zTt, .ref zOf, .ref zDs, .ref zIx, .ref zSd, .ref zUt, .ref zCh, .ref zLt, .ref zLo, .ref zRu])), (fCounts, .inl (cAfCounts, 6, .inr (.inl fCountsA)))] [(cAtpR, .byte), (cAfCounts, .long)] sz [.ref h0, .int p0]) (MV (some (.int r0)) (fun t => ∃ (q2 : Nat) (nA2 : ClassId), va_P (dC, dI) classes [(h0, .inr (3, [.int v0_0, .int v0_1, .ref fTape, .ref fZone, .ref fCounts, .int v0_5, .int fText])), (fTape, .inr (0, [.ref q2, .int tpS])), (q2, .inl (nA2, tpN, .inl tpA)), (fZone, .inr (8, [.int v3_0, .int zTic, .int zTyc, .int zLec, .int zStc, .int zUtc, .ref zTi, .ref zTt, .ref zOf, .ref zDs, .ref zIx, .ref zSd, .ref zUt, .ref zCh, .ref zLt, .ref zLo, .ref zRu])), (fCounts, .inl (cAfCounts, 6, .inr (.inl v4_a)))] t.heap ∧ va_K (dC, dI) classes [(nA2, .byte), (cAfCounts, .long)] t ∧ va_D (va_A [(h0, .inr (3, [.int fFault, .int fPlace, .ref fTape, .ref fZone, .ref fCounts, .int fPos, .int fText])), (fTape, .inr (0, [.ref tpR, .int tpS])), (tpR, .inl (cAtpR, tpN, .inl tpA)), (fZone, .inr (8, [.int zVer, .int zTic, .int zTyc, .int zLec, .int zStc, .int zUtc, .ref zTi, .ref zTt, .ref zOf, .ref zDs, .ref zIx, .ref zSd, .ref zUt, .ref zCh, .ref zLt, .ref zLo, .ref zRu])), (fCounts, .inl (cAfCounts, 6, .inr (.inl fCountsA)))] sz) [(h0, .inr (3, [.int v0_0, .int v0_1, .ref fTape, .ref fZone, .ref fCounts, .int v0_5, .int fText])), (fTape, .inr (0, [.ref q2, .int tpS])), (q2, .inl (nA2, tpN, .inl tpA)), (fZone, .inr (8, [.int v3_0, .int zTic, .int zTyc, .int zLec, .int zStc, .int zUtc, .ref zTi, .ref zTt, .ref zOf, .ref zDs, .ref zIx, .ref zSd, .ref zUt, .ref zCh, .ref zLt, .ref zLo, .ref zRu])), (fCounts, .inl (cAfCounts, 6, .inr (.inl v4_a)))]) (va_A [(h0, .inr (3, [.int fFault, .int fPlace, .ref fTape, .ref fZone, .ref fCounts, .int fPos, .int fText])), (fTape, .inr (0, [.ref tpR, .int tpS])), (tpR, .inl (cAtpR, tpN, .inl tpA)), (fZone, .inr (8, [.int zVer, .int zTic, .int zTyc, .int zLec, .int zStc, .int zUtc, .ref zTi, .ref zTt, .ref zOf, .ref zDs, .ref zIx, .ref zSd, .ref zUt, .ref zCh, .ref zLt, .ref zLo, .ref zRu])), (fCounts, .inl (cAfCounts, 6, .inr (.inl fCountsA)))] sz)) 0 0 (va_A [(h0, .inr (3, [.int fFault, .int fPlace, .ref fTape, .ref fZone, .ref fCounts, .int fPos, .int fText])), (fTape, .inr (0, [.ref tpR, .int tpS])), (tpR, .inl (cAtpR, tpN, .inl tpA)), (fZone, .inr (8, [.int zVer, .int zTic, .int zTyc, .int zLec, .int zStc, .int zUtc, .ref zTi, .ref zTt, .ref zOf, .ref zDs, .ref zIx, .ref zSd, .ref zUt, .ref zCh, .ref zLt, .ref zLo, .ref zRu])), (fCounts, .inl (cAfCounts, 6, .inr (.inl fCountsA)))] sz) :=
  met_M (plainFor_of_name (by decide)) (Nat.le_of_ble_eq_true rfl) (fun p e R s m args below meth c ls hRc hRs hsz hin C0 hST hK hP hD hl => by
    obtain ⟨hx, hb, hr, hml, hown, hts, hlocks, hRf, hRl⟩ := id C0
    subst hsz
    have hA : ∀ q : Nat, s.heap.size ≤ q → va_A [(h0, .inr (3, [.int fFault, .int fPlace, .ref fTape, .ref fZone, .ref fCounts, .int fPos, .int fText])), (fTape, .inr (0, [.ref tpR, .int tpS])), (tpR, .inl (cAtpR, tpN, .inl tpA)), (fZone, .inr (8, [.int zVer, .int zTic, .int zTyc, .int zLec, .int zStc, .int zUtc, .ref zTi, .ref zTt, .ref zOf, .ref zDs, .ref zIx, .ref zSd, .ref zUt, .ref zCh, .ref zLt, .ref zLo, .ref zRu])), (fCounts, .inl (cAfCounts, 6, .inr (.inl fCountsA)))] s.heap.size q := fun q h => Or.inr h
    have hS : va_S (va_A [(h0, .inr (3, [.int fFault, .int fPlace, .ref fTape, .ref fZone, .ref fCounts, .int fPos, .int fText])), (fTape, .inr (0, [.ref tpR, .int tpS])), (tpR, .inl (cAtpR, tpN, .inl tpA)), (fZone, .inr (8, [.int zVer, .int zTic, .int zTyc, .int zLec, .int zStc, .int zUtc, .ref zTi, .ref zTt, .ref zOf, .ref zDs, .ref zIx, .ref zSd, .ref zUt, .ref zCh, .ref zLt, .ref zLo, .ref zRu])), (fCounts, .inl (cAfCounts, 6, .inr (.inl fCountsA)))] s.heap.size) s.heap s.heap [] := va_S.rf
    unfold f_FP_readHeader at hf
    exact k_FP_readHeader_0 C0 hST hA (fun pc ls {q2} {nA2} H locs hd hn hP hD hS hK => W.zret hx hb hr hn (fun t ht hW => ⟨⟨rfl, ⟨q2, nA2, by rw [ht]; exact hP, va_K.moved hW.alike hK, hD⟩⟩, hS.F ht⟩) hS.2.2 hd) hf hK hP hD hS (lv_sub hl [0, 1] rfl))
-- ZoneFiles$FileParser.readTimes(I)Z
def f_FP_readTimes_71 (nf : Nat) (w0_0 : Int32) (w0_1 : Int32) (w0_5 : Int32) (w4_a : Nat → Int64) : Option (Int32 × Int32 × Int32 × Int32 × (Nat → Int64)) :=
  (f_FP_fail nf 5 w0_5 w0_0 w0_1).bind fun (z_9, z_10, z_11) =>
  if z_9 = 0 ∨ z_9 = 1 then some (z_9, z_10, z_11, w0_5, w4_a) else none
def f_FP_readTimes_81 (nf : Nat) (K20 : Int32 → Int32 → Int32 → Int32 → Int32 → (Nat → Int64) → Option (Int32 × Int32 × Int32 × Int32 × (Nat → Int64))) (x3 : Int64) (x2 : Int32) (x1 : Int32) (w0_0 : Int32) (w0_1 : Int32) (w0_5 : Int32) (w4_a : Nat → Int64) : Option (Int32 × Int32 × Int32 × Int32 × (Nat → Int64)) :=
  if x2 < 0 ∨ 200 ≤ x2.toNatClampNeg then none else
  K20 (x2 + 1) x1 w0_0 w0_1 (w0_5 + x1) (vp_updL w4_a x2.toNatClampNeg x3)
def f_FP_readTimes_20 (nf : Nat) (tpS : Int32) (tpN : Nat) (tpA : Nat → Int32) (zTic : Int32) : Nat → Int32 → Int32 → Int32 → Int32 → Int32 → (Nat → Int64) → Option (Int32 × Int32 × Int32 × Int32 × (Nat → Int64))
  | 0, _, _, _, _, _, _ => none
  | n + 1, x2, x1, w0_0, w0_1, w0_5, w4_a =>
    if zTic ≤ x2 then
    some (1, w0_0, w0_1, w0_5, w4_a)
    else
    (f_By_signedAt nf w0_5 x1 tpS tpN tpA).bind fun r_6 =>
      (f_ZF_isInstant nf r_6).bind fun r_7 =>
      if r_7 = 0 then
      f_FP_readTimes_71 nf w0_0 w0_1 w0_5 w4_a
      else
      if x2 ≤ 0 then
        f_FP_readTimes_81 nf (f_FP_readTimes_20 nf tpS tpN tpA zTic n) r_6 x2 x1 w0_0 w0_1 w0_5 w4_a
        else
        if (x2 - 1) < 0 ∨ 200 ≤ (x2 - 1).toNatClampNeg then none else
          if (w4_a (x2 - 1).toNatClampNeg) < r_6 then
          f_FP_readTimes_81 nf (f_FP_readTimes_20 nf tpS tpN tpA zTic n) r_6 x2 x1 w0_0 w0_1 w0_5 w4_a
          else
          f_FP_readTimes_71 nf w0_0 w0_1 w0_5 w4_a
def f_FP_readTimes_0 (nf : Nat) (tpS : Int32) (tpN : Nat) (tpA : Nat → Int32) (zTic : Int32) (x1 : Int32) (w0_0 : Int32) (w0_1 : Int32) (w0_5 : Int32) (w4_a : Nat → Int64) : Option (Int32 × Int32 × Int32 × Int32 × (Nat → Int64)) :=
  (f_FP_hasMore nf (x1 * zTic) w0_0 w0_1 w0_5 tpS).bind fun (z_1, z_2, z_3) =>
  if z_1 = 0 then
  some (0, z_2, z_3, w0_5, w4_a)
  else
  f_FP_readTimes_20 nf tpS tpN tpA zTic nf 0 x1 z_2 z_3 w0_5 w4_a
def f_FP_readTimes (nf : Nat) (p0 : Int32) (fFault : Int32) (fPlace : Int32) (fPos : Int32) (tpS : Int32) (tpN : Nat) (tpA : Nat → Int32) (zTic : Int32) (zTiA : Nat → Int64) : Option (Int32 × Int32 × Int32 × Int32 × (Nat → Int64)) :=
  f_FP_readTimes_0 nf tpS tpN tpA zTic p0 fFault fPlace fPos zTiA
section
variable {p : Program} {l : Launch} {e : Env} {R : Room} {s : State} {m : MethodId} {args : Array Value} {below : List Frame} {meth : Method} {c : Code} {Q : State → Prop} {dC : Nat → ClassId} {dI : Nat → Nat → Nat} {nf : Nat} {A : Nat → Prop}
variable {h0 : Nat} {fTape : Nat} {fZone : Nat} {fCounts : Nat} {tpR : Nat} {zTi : Nat} {zTt : Nat} {zOf : Nat} {zDs : Nat} {zIx : Nat} {zSd : Nat} {zUt : Nat} {zCh : Nat} {zLt : Nat} {zLo : Nat} {zRu : Nat} {cAtpR : ClassId} {cAzTi : ClassId} {fFault : Int32} {fPlace : Int32} {fPos : Int32} {fText : Int32} {tpS : Int32} {tpN : Nat} {tpA : Nat → Int32} {zVer : Int32} {zTic : Int32} {zTyc : Int32} {zLec : Int32} {zStc : Int32} {zUtc : Int32} {zTiA : Nat → Int64} {r0 : Int32} {v0_0 : Int32} {v0_1 : Int32} {v0_5 : Int32} {v4_a : Nat → Int64}
set_option maxHeartbeats 400000 in
set_option maxRecDepth 100000 in
theorem k_FP_readTimes_71 (C0 : Cx p s m meth c args R b_FP_readTimes "ZoneFiles$FileParser" 5 (some .boolean) 2 46) (hST : ST A s s.heap) (hA : ∀ q, s.heap.size ≤ q → A q) (hE : ∀ (pc : Nat) (ls : Array Slot) {q2 : Nat} {nA2 : ClassId} (H : Heap) (locs : List Loc), decode b_FP_readTimes pc = .ok (.ireturn, 1) → narrow .boolean (.int r0) = .int r0 → va_P (dC, dI) classes [(h0, .inr (3, [.int v0_0, .int v0_1, .ref fTape, .ref fZone, .ref fCounts, .int v0_5, .int fText])), (fTape, .inr (0, [.ref q2, .int tpS])), (q2, .inl (nA2, tpN, .inl tpA)), (fZone, .inr (8, [.int zVer, .int zTic, .int zTyc, .int zLec, .int zStc, .int zUtc, .ref zTi, .ref zTt, .ref zOf, .ref zDs, .ref zIx, .ref zSd, .ref zUt, .ref zCh, .ref zLt, .ref zLo, .ref zRu])), (zTi, .inl (cAzTi, 200, .inr (.inl v4_a)))] H → va_D A [(h0, .inr (3, [.int v0_0, .int v0_1, .ref fTape, .ref fZone, .ref fCounts, .int v0_5, .int fText])), (fTape, .inr (0, [.ref q2, .int tpS])), (q2, .inl (nA2, tpN, .inl tpA)), (fZone, .inr (8, [.int zVer, .int zTic, .int zTyc, .int zLec, .int zStc, .int zUtc, .ref zTi, .ref zTt, .ref zOf, .ref zDs, .ref zIx, .ref zSd, .ref zUt, .ref zCh, .ref zLt, .ref zLo, .ref zRu])), (zTi, .inl (cAzTi, 200, .inr (.inl v4_a)))] → va_S A s.heap H locs → va_K (dC, dI) classes [(nA2, .byte), (cAzTi, .long)] s → W p l e R s m args below meth c H locs 0 0 Q (F0 m pc ls [.int r0])) {w0_0 : Int32} {w0_1 : Int32} {w0_5 : Int32} {w4_a : Nat → Int64} (hf : f_FP_readTimes_71 nf w0_0 w0_1 w0_5 w4_a = some (r0, v0_0, v0_1, v0_5, v4_a)) {q2 : Nat} {nA2 : ClassId} {H : Heap} {locs : List Loc} {ls : Array Slot} (hK : va_K (dC, dI) classes [(nA2, .byte), (cAzTi, .long)] s) (hP : va_P (dC, dI) classes [(h0, .inr (3, [.int w0_0, .int w0_1, .ref fTape, .ref fZone, .ref fCounts, .int w0_5, .int fText])), (fTape, .inr (0, [.ref q2, .int tpS])), (q2, .inl (nA2, tpN, .inl tpA)), (fZone, .inr (8, [.int zVer, .int zTic, .int zTyc, .int zLec, .int zStc, .int zUtc, .ref zTi, .ref zTt, .ref zOf, .ref zDs, .ref zIx, .ref zSd, .ref zUt, .ref zCh, .ref zLt, .ref zLo, .ref zRu])), (zTi, .inl (cAzTi, 200, .inr (.inl w4_a)))] H) (hD : va_D A [(h0, .inr (3, [.int w0_0, .int w0_1, .ref fTape, .ref fZone, .ref fCounts, .int w0_5, .int fText])), (fTape, .inr (0, [.ref q2, .int tpS])), (q2, .inl (nA2, tpN, .inl tpA)), (fZone, .inr (8, [.int zVer, .int zTic, .int zTyc, .int zLec, .int zStc, .int zUtc, .ref zTi, .ref zTt, .ref zOf, .ref zDs, .ref zIx, .ref zSd, .ref zUt, .ref zCh, .ref zLt, .ref zLo, .ref zRu])), (zTi, .inl (cAzTi, 200, .inr (.inl w4_a)))]) (hS : va_S A s.heap H locs) (hl : lv_has ls 5 [(0, .ref h0)]) : W p l e R s m args below meth c H locs 0 0 Q (F0 m 71 ls []) := by
  obtain ⟨hx, hb, hr, hml, hown, hts, hlocks, hRf, hRl⟩ := id C0
  obtain ⟨tms, hZms, hTms, tmg, hZmg, hTmg, hNW⟩ := id hST
  unfold f_FP_readTimes_71 at hf
  refine lv_aload_n hx hb d_FP_readTimes_71 rfl (lv_at hl 0 rfl) ?_
  refine lv_iconst (v := 5) hx hb d_FP_readTimes_72 (by decide) ?_
  refine lv_aload_n hx hb d_FP_readTimes_73 rfl (lv_at hl 0 rfl) ?_
  refine va_get (D := (dC, dI)) (ci := 3) (v := .int w0_5) (C := RFileParser) (T := TFileParser) (N := 7) hx hb hts in_FileParser hown hK hP 0 rfl rfl 5 (by decide) (hts (.fieldLink "ZoneFiles$FileParser" 44 "ZoneFiles$FileParser" "pos" "I") m_3_163) (fun _ h9 => h9) rfl d_FP_readTimes_74 ?_
  obtain ⟨⟨z_9, z_10, z_11⟩, hc, hf⟩ := ob hf
  have hPc := hP.sub (ws' := [(h0, .inr (3, [.int w0_0, .int w0_1, .ref fTape, .ref fZone, .ref fCounts, .int w0_5, .int fText]))]) [0] rfl
  have hDc := hD.sub (ws' := [(h0, .inr (3, [.int w0_0, .int w0_1, .ref fTape, .ref fZone, .ref fCounts, .int w0_5, .int fText]))]) [0] (by decide) rfl
  have hKc := hK.sub (tys' := []) [] rfl
  have hFc := va_free (wc := [(h0, .inr (3, [.int w0_0, .int w0_1, .ref fTape, .ref fZone, .ref fCounts, .int w0_5, .int fText]))]) hD hS hA [0] rfl
  refine cl_M (v := (some (.int z_9))) (st1 := [.int z_9]) (va_runV (As := [.int 5, .int w0_5]) (rest := []) ⟨hx, hb, hml, hown, hts⟩ (c_FP_fail l dC dI h0 fTape fZone fCounts H.size nf 5 w0_5 w0_0 w0_1 w0_5 fText hc) (cwV 2 hts (gdV m_3_191 m_3_193 msel_16 m_1_16 m_3_194) rfl rfl rfl (by decide +kernel) ⟨Nat.le_trans (Nat.le_of_ble_eq_true rfl) hRf, Nat.le_trans (Nat.le_of_ble_eq_true rfl) hRl⟩) ((MU.pre hPc hKc hDc (hST.mu hS hFc)).vir (va_recv hKc hPc (ci := 3) (q0 := 0) rfl rfl)) rfl rfl hl.1 rfl (lv_room (Nat.le_of_ble_eq_true rfl)) d_FP_readTimes_77 ⟨Nat.zero_le _, Nat.zero_le _⟩) rfl hS (fun q _ h => hFc q h) hFc (fun t H1 locs ht hvm hB hz1 hk1 hS => ?_)
  obtain ⟨hP1, hK1, hD1⟩ := hB
  rw [ht] at hP1
  have hK1 := va_K.moved hvm.symm hK1
  obtain ⟨hP, hD⟩ := va_join (wr := [(fTape, .inr (0, [.ref q2, .int tpS])), (q2, .inl (nA2, tpN, .inl tpA)), (fZone, .inr (8, [.int zVer, .int zTic, .int zTyc, .int zLec, .int zStc, .int zUtc, .ref zTi, .ref zTt, .ref zOf, .ref zDs, .ref zIx, .ref zSd, .ref zUt, .ref zCh, .ref zLt, .ref zLo, .ref zRu])), (zTi, .inl (cAzTi, 200, .inr (.inl w4_a)))]) (w1 := [(h0, .inr (3, [.int z_10, .int z_11, .ref fTape, .ref fZone, .ref fCounts, .int w0_5, .int fText]))]) hP hD [0] [1, 2, 3, 4] rfl rfl (by decide) (by decide) hk1 hFc hP1 hD1
  have hK := (hK.sub (tys' := [(nA2, .byte), (cAzTi, .long)]) [0, 1] rfl).app hK1
  generalize H1 = H at hP hS ⊢
  have hP := hP.sub (ws' := [(h0, .inr (3, [.int z_10, .int z_11, .ref fTape, .ref fZone, .ref fCounts, .int w0_5, .int fText])), (fTape, .inr (0, [.ref q2, .int tpS])), (q2, .inl (nA2, tpN, .inl tpA)), (fZone, .inr (8, [.int zVer, .int zTic, .int zTyc, .int zLec, .int zStc, .int zUtc, .ref zTi, .ref zTt, .ref zOf, .ref zDs, .ref zIx, .ref zSd, .ref zUt, .ref zCh, .ref zLt, .ref zLo, .ref zRu])), (zTi, .inl (cAzTi, 200, .inr (.inl w4_a)))]) [4, 0, 1, 2, 3] rfl
  have hD := hD.sub (ws' := [(h0, .inr (3, [.int z_10, .int z_11, .ref fTape, .ref fZone, .ref fCounts, .int w0_5, .int fText])), (fTape, .inr (0, [.ref q2, .int tpS])), (q2, .inl (nA2, tpN, .inl tpA)), (fZone, .inr (8, [.int zVer, .int zTic, .int zTyc, .int zLec, .int zStc, .int zUtc, .ref zTi, .ref zTt, .ref zOf, .ref zDs, .ref zIx, .ref zSd, .ref zUt, .ref zCh, .ref zLt, .ref zLo, .ref zRu])), (zTi, .inl (cAzTi, 200, .inr (.inl w4_a)))]) [4, 0, 1, 2, 3] (by decide) rfl
  have hK := hK.sub (tys' := [(nA2, .byte), (cAzTi, .long)]) [0, 1] rfl
  obtain ⟨c_12, hf⟩ := it_g hf
  cases rs hf
  exact hE _ _ _ _ d_FP_readTimes_80 (nb_of c_12) hP hD hS hK
set_option maxHeartbeats 400000 in
set_option maxRecDepth 100000 in
theorem k_FP_readTimes_81 (C0 : Cx p s m meth c args R b_FP_readTimes "ZoneFiles$FileParser" 5 (some .boolean) 2 46) (hST : ST A s s.heap) (hA : ∀ q, s.heap.size ≤ q → A q) (hE : ∀ (pc : Nat) (ls : Array Slot) {q2 : Nat} {nA2 : ClassId} (H : Heap) (locs : List Loc), decode b_FP_readTimes pc = .ok (.ireturn, 1) → narrow .boolean (.int r0) = .int r0 → va_P (dC, dI) classes [(h0, .inr (3, [.int v0_0, .int v0_1, .ref fTape, .ref fZone, .ref fCounts, .int v0_5, .int fText])), (fTape, .inr (0, [.ref q2, .int tpS])), (q2, .inl (nA2, tpN, .inl tpA)), (fZone, .inr (8, [.int zVer, .int zTic, .int zTyc, .int zLec, .int zStc, .int zUtc, .ref zTi, .ref zTt, .ref zOf, .ref zDs, .ref zIx, .ref zSd, .ref zUt, .ref zCh, .ref zLt, .ref zLo, .ref zRu])), (zTi, .inl (cAzTi, 200, .inr (.inl v4_a)))] H → va_D A [(h0, .inr (3, [.int v0_0, .int v0_1, .ref fTape, .ref fZone, .ref fCounts, .int v0_5, .int fText])), (fTape, .inr (0, [.ref q2, .int tpS])), (q2, .inl (nA2, tpN, .inl tpA)), (fZone, .inr (8, [.int zVer, .int zTic, .int zTyc, .int zLec, .int zStc, .int zUtc, .ref zTi, .ref zTt, .ref zOf, .ref zDs, .ref zIx, .ref zSd, .ref zUt, .ref zCh, .ref zLt, .ref zLo, .ref zRu])), (zTi, .inl (cAzTi, 200, .inr (.inl v4_a)))] → va_S A s.heap H locs → va_K (dC, dI) classes [(nA2, .byte), (cAzTi, .long)] s → W p l e R s m args below meth c H locs 0 0 Q (F0 m pc ls [.int r0])) {K20 : Int32 → Int32 → Int32 → Int32 → Int32 → (Nat → Int64) → Option (Int32 × Int32 × Int32 × Int32 × (Nat → Int64))} (hK20 : ∀ {x2 : Int32} {x1 : Int32} {w0_0 : Int32} {w0_1 : Int32} {w0_5 : Int32} {w4_a : Nat → Int64}, K20 x2 x1 w0_0 w0_1 w0_5 w4_a = some (r0, v0_0, v0_1, v0_5, v4_a) → ∀ {q2 : Nat} {nA2 : ClassId} {H : Heap} {locs : List Loc} {ls : Array Slot}, va_K (dC, dI) classes [(nA2, .byte), (cAzTi, .long)] s → va_P (dC, dI) classes [(h0, .inr (3, [.int w0_0, .int w0_1, .ref fTape, .ref fZone, .ref fCounts, .int w0_5, .int fText])), (fTape, .inr (0, [.ref q2, .int tpS])), (q2, .inl (nA2, tpN, .inl tpA)), (fZone, .inr (8, [.int zVer, .int zTic, .int zTyc, .int zLec, .int zStc, .int zUtc, .ref zTi, .ref zTt, .ref zOf, .ref zDs, .ref zIx, .ref zSd, .ref zUt, .ref zCh, .ref zLt, .ref zLo, .ref zRu])), (zTi, .inl (cAzTi, 200, .inr (.inl w4_a)))] H → va_D A [(h0, .inr (3, [.int w0_0, .int w0_1, .ref fTape, .ref fZone, .ref fCounts, .int w0_5, .int fText])), (fTape, .inr (0, [.ref q2, .int tpS])), (q2, .inl (nA2, tpN, .inl tpA)), (fZone, .inr (8, [.int zVer, .int zTic, .int zTyc, .int zLec, .int zStc, .int zUtc, .ref zTi, .ref zTt, .ref zOf, .ref zDs, .ref zIx, .ref zSd, .ref zUt, .ref zCh, .ref zLt, .ref zLo, .ref zRu])), (zTi, .inl (cAzTi, 200, .inr (.inl w4_a)))] → va_S A s.heap H locs → lv_has ls 5 [(2, .int x2), (0, .ref h0), (1, .int x1)] → W p l e R s m args below meth c H locs 0 0 Q (F0 m 20 ls [])) {x3 : Int64} {x2 : Int32} {x1 : Int32} {w0_0 : Int32} {w0_1 : Int32} {w0_5 : Int32} {w4_a : Nat → Int64} (hf : f_FP_readTimes_81 nf K20 x3 x2 x1 w0_0 w0_1 w0_5 w4_a = some (r0, v0_0, v0_1, v0_5, v4_a)) {q2 : Nat} {nA2 : ClassId} {H : Heap} {locs : List Loc} {ls : Array Slot} (hK : va_K (dC, dI) classes [(nA2, .byte), (cAzTi, .long)] s) (hP : va_P (dC, dI) classes [(h0, .inr (3, [.int w0_0, .int w0_1, .ref fTape, .ref fZone, .ref fCounts, .int w0_5, .int fText])), (fTape, .inr (0, [.ref q2, .int tpS])), (q2, .inl (nA2, tpN, .inl tpA)), (fZone, .inr (8, [.int zVer, .int zTic, .int zTyc, .int zLec, .int zStc, .int zUtc, .ref zTi, .ref zTt, .ref zOf, .ref zDs, .ref zIx, .ref zSd, .ref zUt, .ref zCh, .ref zLt, .ref zLo, .ref zRu])), (zTi, .inl (cAzTi, 200, .inr (.inl w4_a)))] H) (hD : va_D A [(h0, .inr (3, [.int w0_0, .int w0_1, .ref fTape, .ref fZone, .ref fCounts, .int w0_5, .int fText])), (fTape, .inr (0, [.ref q2, .int tpS])), (q2, .inl (nA2, tpN, .inl tpA)), (fZone, .inr (8, [.int zVer, .int zTic, .int zTyc, .int zLec, .int zStc, .int zUtc, .ref zTi, .ref zTt, .ref zOf, .ref zDs, .ref zIx, .ref zSd, .ref zUt, .ref zCh, .ref zLt, .ref zLo, .ref zRu])), (zTi, .inl (cAzTi, 200, .inr (.inl w4_a)))]) (hS : va_S A s.heap H locs) (hl : lv_has ls 5 [(3, .long x3), (2, .int x2), (0, .ref h0), (1, .int x1)]) : W p l e R s m args below meth c H locs 0 0 Q (F0 m 81 ls []) := by
  obtain ⟨hx, hb, hr, hml, hown, hts, hlocks, hRf, hRl⟩ := id C0
  obtain ⟨tms, hZms, hTms, tmg, hZmg, hTmg, hNW⟩ := id hST
  unfold f_FP_readTimes_81 at hf
  refine lv_aload_n hx hb d_FP_readTimes_81 rfl (lv_at hl 2 rfl) ?_
  refine va_get (D := (dC, dI)) (ci := 3) (v := .ref fZone) (C := RFileParser) (T := TFileParser) (N := 7) hx hb hts in_FileParser hown hK hP 0 rfl rfl 3 (by decide) (hts (.fieldLink "ZoneFiles$FileParser" 15 "ZoneFiles$FileParser" "zone" "LZoneFiles$Zone;") m_3_161) (fun _ h9 => h9) rfl d_FP_readTimes_82 ?_
  refine va_get (D := (dC, dI)) (ci := 8) (v := .ref zTi) (C := RZone) (T := TZone) (N := 17) hx hb hts in_Zone hown hK hP 3 rfl rfl 6 (by decide) (hts (.fieldLink "ZoneFiles$FileParser" 87 "ZoneFiles$Zone" "times" "[J") m_1_187) (fun _ h9 => h9) rfl d_FP_readTimes_85 ?_
  refine lv_iload_n hx hb d_FP_readTimes_88 rfl (lv_at hl 1 rfl) ?_
  refine lv_lload_n hx hb d_FP_readTimes_89 rfl (lv_at hl 0 rfl) ?_
  obtain ⟨c_14, hf⟩ := it_n hf
  refine va_last hx hb hK hP hD hS 4 1 rfl rfl c_14 d_FP_readTimes_90 (fun H locs hP hD hS => ?_)
  have hP : va_P (dC, dI) classes [(h0, .inr (3, [.int w0_0, .int w0_1, .ref fTape, .ref fZone, .ref fCounts, .int w0_5, .int fText])), (fTape, .inr (0, [.ref q2, .int tpS])), (q2, .inl (nA2, tpN, .inl tpA)), (fZone, .inr (8, [.int zVer, .int zTic, .int zTyc, .int zLec, .int zStc, .int zUtc, .ref zTi, .ref zTt, .ref zOf, .ref zDs, .ref zIx, .ref zSd, .ref zUt, .ref zCh, .ref zLt, .ref zLo, .ref zRu])), (zTi, .inl (cAzTi, 200, .inr (.inl (vp_updL w4_a x2.toNatClampNeg x3))))] H := hP
  have hD : va_D A [(h0, .inr (3, [.int w0_0, .int w0_1, .ref fTape, .ref fZone, .ref fCounts, .int w0_5, .int fText])), (fTape, .inr (0, [.ref q2, .int tpS])), (q2, .inl (nA2, tpN, .inl tpA)), (fZone, .inr (8, [.int zVer, .int zTic, .int zTyc, .int zLec, .int zStc, .int zUtc, .ref zTi, .ref zTt, .ref zOf, .ref zDs, .ref zIx, .ref zSd, .ref zUt, .ref zCh, .ref zLt, .ref zLo, .ref zRu])), (zTi, .inl (cAzTi, 200, .inr (.inl (vp_updL w4_a x2.toNatClampNeg x3))))] := hD
  refine lv_aload_n hx hb d_FP_readTimes_91 rfl (lv_at hl 2 rfl) ?_
  refine lv_dup hx hb d_FP_readTimes_92 rfl ?_
  refine va_get (D := (dC, dI)) (ci := 3) (v := .int w0_5) (C := RFileParser) (T := TFileParser) (N := 7) hx hb hts in_FileParser hown hK hP 0 rfl rfl 5 (by decide) (hts (.fieldLink "ZoneFiles$FileParser" 44 "ZoneFiles$FileParser" "pos" "I") m_3_163) (fun _ h9 => h9) rfl d_FP_readTimes_93 ?_
  refine lv_iload_n hx hb d_FP_readTimes_96 rfl (lv_at hl 3 rfl) ?_
  refine lv_iadd hx hb d_FP_readTimes_97 ?_
  refine va_put (D := (dC, dI)) (ci := 3) (v := .int (w0_5 + x1)) (ty := .int) (C := RFileParser) (T := TFileParser) (N := 7) hx hb hts in_FileParser tyFileParser ty_FileParser nm_FileParser hown hK hP hD hS 0 rfl rfl 5 (by decide) (hts (.fieldLink "ZoneFiles$FileParser" 44 "ZoneFiles$FileParser" "pos" "I") m_3_163) (fun _ h9 => h9) rfl (by decide +kernel) rfl rfl (Nat.le_of_ble_eq_true rfl) d_FP_readTimes_98 (fun H locs hP hD hS => ?_)
  have hP : va_P (dC, dI) classes [(h0, .inr (3, [.int w0_0, .int w0_1, .ref fTape, .ref fZone, .ref fCounts, .int (w0_5 + x1), .int fText])), (fTape, .inr (0, [.ref q2, .int tpS])), (q2, .inl (nA2, tpN, .inl tpA)), (fZone, .inr (8, [.int zVer, .int zTic, .int zTyc, .int zLec, .int zStc, .int zUtc, .ref zTi, .ref zTt, .ref zOf, .ref zDs, .ref zIx, .ref zSd, .ref zUt, .ref zCh, .ref zLt, .ref zLo, .ref zRu])), (zTi, .inl (cAzTi, 200, .inr (.inl (vp_updL w4_a x2.toNatClampNeg x3))))] H := hP
  have hD : va_D A [(h0, .inr (3, [.int w0_0, .int w0_1, .ref fTape, .ref fZone, .ref fCounts, .int (w0_5 + x1), .int fText])), (fTape, .inr (0, [.ref q2, .int tpS])), (q2, .inl (nA2, tpN, .inl tpA)), (fZone, .inr (8, [.int zVer, .int zTic, .int zTyc, .int zLec, .int zStc, .int zUtc, .ref zTi, .ref zTt, .ref zOf, .ref zDs, .ref zIx, .ref zSd, .ref zUt, .ref zCh, .ref zLt, .ref zLo, .ref zRu])), (zTi, .inl (cAzTi, 200, .inr (.inl (vp_updL w4_a x2.toNatClampNeg x3))))] := hD
  refine lv_iinc (v := x2 + 1) (lv' := [(2, .int (x2 + 1)), (3, .long x3), (0, .ref h0), (1, .int x1)]) hx hb d_FP_readTimes_101 hl (k := 1) rfl rfl (by decide) rfl (fun ls hl => ?_)
  refine lv_goto (tgt := 20) hx hb d_FP_readTimes_104 (by decide) ?_
  exact hK20 hf hK hP hD hS (lv_sub hl [0, 2, 3] rfl)
set_option maxHeartbeats 400000 in
set_option maxRecDepth 100000 in
theorem k_FP_readTimes_20 (C0 : Cx p s m meth c args R b_FP_readTimes "ZoneFiles$FileParser" 5 (some .boolean) 2 46) (hST : ST A s s.heap) (hA : ∀ q, s.heap.size ≤ q → A q) (hE : ∀ (pc : Nat) (ls : Array Slot) {q2 : Nat} {nA2 : ClassId} (H : Heap) (locs : List Loc), decode b_FP_readTimes pc = .ok (.ireturn, 1) → narrow .boolean (.int r0) = .int r0 → va_P (dC, dI) classes [(h0, .inr (3, [.int v0_0, .int v0_1, .ref fTape, .ref fZone, .ref fCounts, .int v0_5, .int fText])), (fTape, .inr (0, [.ref q2, .int tpS])), (q2, .inl (nA2, tpN, .inl tpA)), (fZone, .inr (8, [.int zVer, .int zTic, .int zTyc, .int zLec, .int zStc, .int zUtc, .ref zTi, .ref zTt, .ref zOf, .ref zDs, .ref zIx, .ref zSd, .ref zUt, .ref zCh, .ref zLt, .ref zLo, .ref zRu])), (zTi, .inl (cAzTi, 200, .inr (.inl v4_a)))] H → va_D A [(h0, .inr (3, [.int v0_0, .int v0_1, .ref fTape, .ref fZone, .ref fCounts, .int v0_5, .int fText])), (fTape, .inr (0, [.ref q2, .int tpS])), (q2, .inl (nA2, tpN, .inl tpA)), (fZone, .inr (8, [.int zVer, .int zTic, .int zTyc, .int zLec, .int zStc, .int zUtc, .ref zTi, .ref zTt, .ref zOf, .ref zDs, .ref zIx, .ref zSd, .ref zUt, .ref zCh, .ref zLt, .ref zLo, .ref zRu])), (zTi, .inl (cAzTi, 200, .inr (.inl v4_a)))] → va_S A s.heap H locs → va_K (dC, dI) classes [(nA2, .byte), (cAzTi, .long)] s → W p l e R s m args below meth c H locs 0 0 Q (F0 m pc ls [.int r0])) : ∀ (n : Nat) {x2 : Int32} {x1 : Int32} {w0_0 : Int32} {w0_1 : Int32} {w0_5 : Int32} {w4_a : Nat → Int64}, f_FP_readTimes_20 nf tpS tpN tpA zTic n x2 x1 w0_0 w0_1 w0_5 w4_a = some (r0, v0_0, v0_1, v0_5, v4_a) → ∀ {q2 : Nat} {nA2 : ClassId} {H : Heap} {locs : List Loc} {ls : Array Slot}, va_K (dC, dI) classes [(nA2, .byte), (cAzTi, .long)] s → va_P (dC, dI) classes [(h0, .inr (3, [.int w0_0, .int w0_1, .ref fTape, .ref fZone, .ref fCounts, .int w0_5, .int fText])), (fTape, .inr (0, [.ref q2, .int tpS])), (q2, .inl (nA2, tpN, .inl tpA)), (fZone, .inr (8, [.int zVer, .int zTic, .int zTyc, .int zLec, .int zStc, .int zUtc, .ref zTi, .ref zTt, .ref zOf, .ref zDs, .ref zIx, .ref zSd, .ref zUt, .ref zCh, .ref zLt, .ref zLo, .ref zRu])), (zTi, .inl (cAzTi, 200, .inr (.inl w4_a)))] H → va_D A [(h0, .inr (3, [.int w0_0, .int w0_1, .ref fTape, .ref fZone, .ref fCounts, .int w0_5, .int fText])), (fTape, .inr (0, [.ref q2, .int tpS])), (q2, .inl (nA2, tpN, .inl tpA)), (fZone, .inr (8, [.int zVer, .int zTic, .int zTyc, .int zLec, .int zStc, .int zUtc, .ref zTi, .ref zTt, .ref zOf, .ref zDs, .ref zIx, .ref zSd, .ref zUt, .ref zCh, .ref zLt, .ref zLo, .ref zRu])), (zTi, .inl (cAzTi, 200, .inr (.inl w4_a)))] → va_S A s.heap H locs → lv_has ls 5 [(2, .int x2), (0, .ref h0), (1, .int x1)] → W p l e R s m args below meth c H locs 0 0 Q (F0 m 20 ls []) := by
  obtain ⟨hx, hb, hr, hml, hown, hts, hlocks, hRf, hRl⟩ := id C0
  obtain ⟨tms, hZms, hTms, tmg, hZmg, hTmg, hNW⟩ := id hST
  intro n
  induction n with
  | zero =>
    intro x2 x1 w0_0 w0_1 w0_5 w4_a hf
    exact absurd hf (by simp [f_FP_readTimes_20])
  | succ n ih =>
    intro x2 x1 w0_0 w0_1 w0_5 w4_a hf q2 nA2 H locs ls hK hP hD hS hl
    unfold f_FP_readTimes_20 at hf
    refine lv_iload_n hx hb d_FP_readTimes_20 rfl (lv_at hl 0 rfl) ?_
    refine lv_aload_n hx hb d_FP_readTimes_21 rfl (lv_at hl 1 rfl) ?_
    refine va_get (D := (dC, dI)) (ci := 3) (v := .ref fZone) (C := RFileParser) (T := TFileParser) (N := 7) hx hb hts in_FileParser hown hK hP 0 rfl rfl 3 (by decide) (hts (.fieldLink "ZoneFiles$FileParser" 15 "ZoneFiles$FileParser" "zone" "LZoneFiles$Zone;") m_3_161) (fun _ h9 => h9) rfl d_FP_readTimes_22 ?_
    refine va_get (D := (dC, dI)) (ci := 8) (v := .int zTic) (C := RZone) (T := TZone) (N := 17) hx hb hts in_Zone hown hK hP 3 rfl rfl 1 (by decide) (hts (.fieldLink "ZoneFiles$FileParser" 81 "ZoneFiles$Zone" "timeCount" "I") m_1_167) (fun _ h9 => h9) rfl d_FP_readTimes_25 ?_
    refine lv_icmp_ge (tgt := 107) hx hb d_FP_readTimes_28 (by decide) (fun c_5 => ?_) (fun c_5 => ?_)
    · have hf := it_t c_5 hf
      refine lv_iconst (v := 1) hx hb d_FP_readTimes_107 (by decide) ?_
      cases rs hf
      exact hE _ _ _ _ d_FP_readTimes_108 rfl hP hD hS hK
    · have hf := it_f c_5 hf
      refine lv_aload_n hx hb d_FP_readTimes_31 rfl (lv_at hl 1 rfl) ?_
      refine va_get (D := (dC, dI)) (ci := 3) (v := .ref fTape) (C := RFileParser) (T := TFileParser) (N := 7) hx hb hts in_FileParser hown hK hP 0 rfl rfl 2 (by decide) (hts (.fieldLink "ZoneFiles$FileParser" 9 "ZoneFiles$FileParser" "tape" "LZoneFiles$Bytes;") m_3_160) (fun _ h9 => h9) rfl d_FP_readTimes_32 ?_
      refine lv_aload_n hx hb d_FP_readTimes_35 rfl (lv_at hl 1 rfl) ?_
      refine va_get (D := (dC, dI)) (ci := 3) (v := .int w0_5) (C := RFileParser) (T := TFileParser) (N := 7) hx hb hts in_FileParser hown hK hP 0 rfl rfl 5 (by decide) (hts (.fieldLink "ZoneFiles$FileParser" 44 "ZoneFiles$FileParser" "pos" "I") m_3_163) (fun _ h9 => h9) rfl d_FP_readTimes_36 ?_
      refine lv_iload_n hx hb d_FP_readTimes_39 rfl (lv_at hl 2 rfl) ?_
      obtain ⟨r_6, hc, hf⟩ := ob hf
      refine cl_S (v := (some (.long r_6))) (st1 := [.long r_6]) (va_runV (As := [.int w0_5, .int x1]) (rest := []) ⟨hx, hb, hml, hown, hts⟩ (c_By_signedAt l dC dI fTape q2 nA2 nf w0_5 x1 tpS tpN tpA hc) (cwV 2 hts (gdV m_3_231 m_3_208 m_3_209 m_1_2 m_3_210) rfl rfl rfl (by decide +kernel) ⟨Nat.le_trans (Nat.le_of_ble_eq_true rfl) hRf, Nat.le_trans (Nat.le_of_ble_eq_true rfl) hRl⟩) ((RO.pre (hP.sub (ws' := [(fTape, .inr (0, [.ref q2, .int tpS])), (q2, .inl (nA2, tpN, .inl tpA))]) [1, 2] rfl) (hK.sub (tys' := [(nA2, .byte)]) [0] rfl) (hST.ro hS)).vir (va_recv (hK.sub (tys' := [(nA2, .byte)]) [0] rfl) (hP.sub (ws' := [(fTape, .inr (0, [.ref q2, .int tpS])), (q2, .inl (nA2, tpN, .inl tpA))]) [1, 2] rfl) (ci := 0) (q0 := 0) rfl rfl)) rfl rfl hl.1 rfl (lv_room (Nat.le_of_ble_eq_true rfl)) d_FP_readTimes_40 ⟨Nat.zero_le _, Nat.zero_le _⟩) rfl ?_
      refine lv_lstore_n (lv' := [(3, .long r_6), (2, .int x2), (0, .ref h0), (1, .int x1)]) hx hb d_FP_readTimes_43 rfl hl (by decide) rfl (fun ls hl => ?_)
      refine lv_lload_n hx hb d_FP_readTimes_44 rfl (lv_at hl 0 rfl) ?_
      obtain ⟨r_7, hc, hf⟩ := ob hf
      refine cl_S (v := (some (.int r_7))) (st1 := [.int r_7]) (va_runSN (As := [.long r_6]) (rest := []) ⟨hx, hb, hml, hown, hts⟩ (c_ZF_isInstant l dC dI nf r_6 hc) ⟨va_cnB 1 hts (gd_of m_3_234) rfl rfl rfl hNW.2.2.2.1 (hts _ m_1_1) (by decide +kernel) ⟨Nat.le_trans (Nat.le_of_ble_eq_true rfl) hRf, Nat.le_trans (Nat.le_of_ble_eq_true rfl) hRl⟩, hts _ m_3_233, trivial⟩ (RO.pre0 hK (hST.ro hS)).sta rfl rfl hl.1 rfl (lv_room (Nat.le_of_ble_eq_true rfl)) d_FP_readTimes_45 ⟨Nat.zero_le _, Nat.zero_le _⟩) rfl ?_
      refine lv_if_eq (tgt := 71) hx hb d_FP_readTimes_48 (by decide) (fun c_8 => ?_) (fun c_8 => ?_)
      · have hf := it_t c_8 hf
        exact k_FP_readTimes_71 C0 hST hA hE hf hK hP hD hS (lv_sub hl [2] rfl)
      · have hf := it_f c_8 hf
        refine lv_iload_n hx hb d_FP_readTimes_51 rfl (lv_at hl 1 rfl) ?_
        refine lv_if_le (tgt := 81) hx hb d_FP_readTimes_52 (by decide) (fun c_13 => ?_) (fun c_13 => ?_)
        · have hf := it_t c_13 hf
          exact k_FP_readTimes_81 C0 hST hA hE (fun hf => ih hf) hf hK hP hD hS (lv_sub hl [0, 1, 2, 3] rfl)
        · have hf := it_f c_13 hf
          refine lv_lload_n hx hb d_FP_readTimes_55 rfl (lv_at hl 0 rfl) ?_
          refine lv_aload_n hx hb d_FP_readTimes_56 rfl (lv_at hl 2 rfl) ?_
          refine va_get (D := (dC, dI)) (ci := 3) (v := .ref fZone) (C := RFileParser) (T := TFileParser) (N := 7) hx hb hts in_FileParser hown hK hP 0 rfl rfl 3 (by decide) (hts (.fieldLink "ZoneFiles$FileParser" 15 "ZoneFiles$FileParser" "zone" "LZoneFiles$Zone;") m_3_161) (fun _ h9 => h9) rfl d_FP_readTimes_57 ?_
          refine va_get (D := (dC, dI)) (ci := 8) (v := .ref zTi) (C := RZone) (T := TZone) (N := 17) hx hb hts in_Zone hown hK hP 3 rfl rfl 6 (by decide) (hts (.fieldLink "ZoneFiles$FileParser" 87 "ZoneFiles$Zone" "times" "[J") m_1_187) (fun _ h9 => h9) rfl d_FP_readTimes_60 ?_
          refine lv_iload_n hx hb d_FP_readTimes_63 rfl (lv_at hl 1 rfl) ?_
          refine lv_iconst (v := 1) hx hb d_FP_readTimes_64 (by decide) ?_
          refine lv_isub hx hb d_FP_readTimes_65 ?_
          obtain ⟨c_15, hf⟩ := it_n hf
          refine va_lald hx hb hK hP 4 1 rfl rfl c_15 d_FP_readTimes_66 ?_
          refine lc_gt (tgt := 81) hx hb d_FP_readTimes_67 d_FP_readTimes_68 (by decide) (fun c_16 => ?_) (fun c_16 => ?_)
          · have hf := it_t c_16 hf
            exact k_FP_readTimes_81 C0 hST hA hE (fun hf => ih hf) hf hK hP hD hS (lv_sub hl [0, 1, 2, 3] rfl)
          · have hf := it_f c_16 hf
            exact k_FP_readTimes_71 C0 hST hA hE hf hK hP hD hS (lv_sub hl [2] rfl)
set_option maxHeartbeats 400000 in
set_option maxRecDepth 100000 in
theorem k_FP_readTimes_0 (C0 : Cx p s m meth c args R b_FP_readTimes "ZoneFiles$FileParser" 5 (some .boolean) 2 46) (hST : ST A s s.heap) (hA : ∀ q, s.heap.size ≤ q → A q) (hE : ∀ (pc : Nat) (ls : Array Slot) {q2 : Nat} {nA2 : ClassId} (H : Heap) (locs : List Loc), decode b_FP_readTimes pc = .ok (.ireturn, 1) → narrow .boolean (.int r0) = .int r0 → va_P (dC, dI) classes [(h0, .inr (3, [.int v0_0, .int v0_1, .ref fTape, .ref fZone, .ref fCounts, .int v0_5, .int fText])), (fTape, .inr (0, [.ref q2, .int tpS])), (q2, .inl (nA2, tpN, .inl tpA)), (fZone, .inr (8, [.int zVer, .int zTic, .int zTyc, .int zLec, .int zStc, .int zUtc, .ref zTi, .ref zTt, .ref zOf, .ref zDs, .ref zIx, .ref zSd, .ref zUt, .ref zCh, .ref zLt, .ref zLo, .ref zRu])), (zTi, .inl (cAzTi, 200, .inr (.inl v4_a)))] H → va_D A [(h0, .inr (3, [.int v0_0, .int v0_1, .ref fTape, .ref fZone, .ref fCounts, .int v0_5, .int fText])), (fTape, .inr (0, [.ref q2, .int tpS])), (q2, .inl (nA2, tpN, .inl tpA)), (fZone, .inr (8, [.int zVer, .int zTic, .int zTyc, .int zLec, .int zStc, .int zUtc, .ref zTi, .ref zTt, .ref zOf, .ref zDs, .ref zIx, .ref zSd, .ref zUt, .ref zCh, .ref zLt, .ref zLo, .ref zRu])), (zTi, .inl (cAzTi, 200, .inr (.inl v4_a)))] → va_S A s.heap H locs → va_K (dC, dI) classes [(nA2, .byte), (cAzTi, .long)] s → W p l e R s m args below meth c H locs 0 0 Q (F0 m pc ls [.int r0])) {x1 : Int32} {w0_0 : Int32} {w0_1 : Int32} {w0_5 : Int32} {w4_a : Nat → Int64} (hf : f_FP_readTimes_0 nf tpS tpN tpA zTic x1 w0_0 w0_1 w0_5 w4_a = some (r0, v0_0, v0_1, v0_5, v4_a)) {q2 : Nat} {nA2 : ClassId} {H : Heap} {locs : List Loc} {ls : Array Slot} (hK : va_K (dC, dI) classes [(nA2, .byte), (cAzTi, .long)] s) (hP : va_P (dC, dI) classes [(h0, .inr (3, [.int w0_0, .int w0_1, .ref fTape, .ref fZone, .ref fCounts, .int w0_5, .int fText])), (fTape, .inr (0, [.ref q2, .int tpS])), (q2, .inl (nA2, tpN, .inl tpA)), (fZone, .inr (8, [.int zVer, .int zTic, .int zTyc, .int zLec, .int zStc, .int zUtc, .ref zTi, .ref zTt, .ref zOf, .ref zDs, .ref zIx, .ref zSd, .ref zUt, .ref zCh, .ref zLt, .ref zLo, .ref zRu])), (zTi, .inl (cAzTi, 200, .inr (.inl w4_a)))] H) (hD : va_D A [(h0, .inr (3, [.int w0_0, .int w0_1, .ref fTape, .ref fZone, .ref fCounts, .int w0_5, .int fText])), (fTape, .inr (0, [.ref q2, .int tpS])), (q2, .inl (nA2, tpN, .inl tpA)), (fZone, .inr (8, [.int zVer, .int zTic, .int zTyc, .int zLec, .int zStc, .int zUtc, .ref zTi, .ref zTt, .ref zOf, .ref zDs, .ref zIx, .ref zSd, .ref zUt, .ref zCh, .ref zLt, .ref zLo, .ref zRu])), (zTi, .inl (cAzTi, 200, .inr (.inl w4_a)))]) (hS : va_S A s.heap H locs) (hl : lv_has ls 5 [(0, .ref h0), (1, .int x1)]) : W p l e R s m args below meth c H locs 0 0 Q (F0 m 0 ls []) := by
  obtain ⟨hx, hb, hr, hml, hown, hts, hlocks, hRf, hRl⟩ := id C0
  obtain ⟨tms, hZms, hTms, tmg, hZmg, hTmg, hNW⟩ := id hST
  unfold f_FP_readTimes_0 at hf
  refine lv_aload_n hx hb d_FP_readTimes_0 rfl (lv_at hl 0 rfl) ?_
  refine lv_iload_n hx hb d_FP_readTimes_1 rfl (lv_at hl 1 rfl) ?_
  refine lv_aload_n hx hb d_FP_readTimes_2 rfl (lv_at hl 0 rfl) ?_
  refine va_get (D := (dC, dI)) (ci := 3) (v := .ref fZone) (C := RFileParser) (T := TFileParser) (N := 7) hx hb hts in_FileParser hown hK hP 0 rfl rfl 3 (by decide) (hts (.fieldLink "ZoneFiles$FileParser" 15 "ZoneFiles$FileParser" "zone" "LZoneFiles$Zone;") m_3_161) (fun _ h9 => h9) rfl d_FP_readTimes_3 ?_
  refine va_get (D := (dC, dI)) (ci := 8) (v := .int zTic) (C := RZone) (T := TZone) (N := 17) hx hb hts in_Zone hown hK hP 3 rfl rfl 1 (by decide) (hts (.fieldLink "ZoneFiles$FileParser" 81 "ZoneFiles$Zone" "timeCount" "I") m_1_167) (fun _ h9 => h9) rfl d_FP_readTimes_6 ?_
  refine lv_imul hx hb d_FP_readTimes_9 ?_
  obtain ⟨⟨z_1, z_2, z_3⟩, hc, hf⟩ := ob hf
  have hPc := hP.sub (ws' := [(h0, .inr (3, [.int w0_0, .int w0_1, .ref fTape, .ref fZone, .ref fCounts, .int w0_5, .int fText])), (fTape, .inr (0, [.ref q2, .int tpS]))]) [0, 1] rfl
  have hDc := hD.sub (ws' := [(h0, .inr (3, [.int w0_0, .int w0_1, .ref fTape, .ref fZone, .ref fCounts, .int w0_5, .int fText])), (fTape, .inr (0, [.ref q2, .int tpS]))]) [0, 1] (by decide) rfl
  have hKc := hK.sub (tys' := []) [] rfl
  have hFc := va_free (wc := [(h0, .inr (3, [.int w0_0, .int w0_1, .ref fTape, .ref fZone, .ref fCounts, .int w0_5, .int fText])), (fTape, .inr (0, [.ref q2, .int tpS]))]) hD hS hA [0, 1] rfl
  refine cl_M (v := (some (.int z_1))) (st1 := [.int z_1]) (va_runV (As := [.int (x1 * zTic)]) (rest := []) ⟨hx, hb, hml, hown, hts⟩ (c_FP_hasMore l dC dI h0 fTape fZone fCounts q2 H.size nf (x1 * zTic) w0_0 w0_1 w0_5 fText tpS hc) (cwV 1 hts (gdV m_3_199 m_3_201 msel_18 m_1_16 m_3_202) rfl rfl rfl (by decide +kernel) ⟨Nat.le_trans (Nat.le_of_ble_eq_true rfl) hRf, Nat.le_trans (Nat.le_of_ble_eq_true rfl) hRl⟩) ((MU.pre hPc hKc hDc (hST.mu hS hFc)).vir (va_recv hKc hPc (ci := 3) (q0 := 0) rfl rfl)) rfl rfl hl.1 rfl (lv_room (Nat.le_of_ble_eq_true rfl)) d_FP_readTimes_10 ⟨Nat.zero_le _, Nat.zero_le _⟩) rfl hS (fun q _ h => hFc q h) hFc (fun t H1 locs ht hvm hB hz1 hk1 hS => ?_)
  obtain ⟨hP1, hK1, hD1⟩ := hB
  rw [ht] at hP1
  have hK1 := va_K.moved hvm.symm hK1
  obtain ⟨hP, hD⟩ := va_join (wr := [(q2, .inl (nA2, tpN, .inl tpA)), (fZone, .inr (8, [.int zVer, .int zTic, .int zTyc, .int zLec, .int zStc, .int zUtc, .ref zTi, .ref zTt, .ref zOf, .ref zDs, .ref zIx, .ref zSd, .ref zUt, .ref zCh, .ref zLt, .ref zLo, .ref zRu])), (zTi, .inl (cAzTi, 200, .inr (.inl w4_a)))]) (w1 := [(h0, .inr (3, [.int z_2, .int z_3, .ref fTape, .ref fZone, .ref fCounts, .int w0_5, .int fText])), (fTape, .inr (0, [.ref q2, .int tpS]))]) hP hD [0, 1] [2, 3, 4] rfl rfl (by decide) (by decide) hk1 hFc hP1 hD1
  have hK := (hK.sub (tys' := [(nA2, .byte), (cAzTi, .long)]) [0, 1] rfl).app hK1
  generalize H1 = H at hP hS ⊢
  have hP := hP.sub (ws' := [(h0, .inr (3, [.int z_2, .int z_3, .ref fTape, .ref fZone, .ref fCounts, .int w0_5, .int fText])), (fTape, .inr (0, [.ref q2, .int tpS])), (q2, .inl (nA2, tpN, .inl tpA)), (fZone, .inr (8, [.int zVer, .int zTic, .int zTyc, .int zLec, .int zStc, .int zUtc, .ref zTi, .ref zTt, .ref zOf, .ref zDs, .ref zIx, .ref zSd, .ref zUt, .ref zCh, .ref zLt, .ref zLo, .ref zRu])), (zTi, .inl (cAzTi, 200, .inr (.inl w4_a)))]) [3, 4, 0, 1, 2] rfl
  have hD := hD.sub (ws' := [(h0, .inr (3, [.int z_2, .int z_3, .ref fTape, .ref fZone, .ref fCounts, .int w0_5, .int fText])), (fTape, .inr (0, [.ref q2, .int tpS])), (q2, .inl (nA2, tpN, .inl tpA)), (fZone, .inr (8, [.int zVer, .int zTic, .int zTyc, .int zLec, .int zStc, .int zUtc, .ref zTi, .ref zTt, .ref zOf, .ref zDs, .ref zIx, .ref zSd, .ref zUt, .ref zCh, .ref zLt, .ref zLo, .ref zRu])), (zTi, .inl (cAzTi, 200, .inr (.inl w4_a)))]) [3, 4, 0, 1, 2] (by decide) rfl
  have hK := hK.sub (tys' := [(nA2, .byte), (cAzTi, .long)]) [0, 1] rfl
  refine lv_if_ne (tgt := 18) hx hb d_FP_readTimes_13 (by decide) (fun c_4 => ?_) (fun c_4 => ?_)
  · have hf := it_f c_4 hf
    refine lv_iconst (v := 0) hx hb d_FP_readTimes_18 (by decide) ?_
    refine lv_istore_n (lv' := [(2, .int 0), (0, .ref h0), (1, .int x1)]) hx hb d_FP_readTimes_19 rfl hl (by decide) rfl (fun ls hl => ?_)
    exact k_FP_readTimes_20 C0 hST hA hE nf hf hK hP hD hS (lv_sub hl [0, 1, 2] rfl)
  · have hf := it_t c_4 hf
    refine lv_iconst (v := 0) hx hb d_FP_readTimes_16 (by decide) ?_
    cases rs hf
    exact hE _ _ _ _ d_FP_readTimes_17 rfl hP hD hS hK
end
set_option maxHeartbeats 400000 in
set_option maxRecDepth 100000 in
theorem c_FP_readTimes (l : Launch) (dC : Nat → ClassId) (dI : Nat → Nat → Nat) (h0 : Nat) (fTape : Nat) (fZone : Nat) (fCounts : Nat) (tpR : Nat) (zTi : Nat) (zTt : Nat) (zOf : Nat) (zDs : Nat) (zIx : Nat) (zSd : Nat) (zUt : Nat) (zCh : Nat) (zLt : Nat) (zLo : Nat) (zRu : Nat) (cAtpR : ClassId) (cAzTi : ClassId) (sz : Nat) (nf : Nat) (p0 : Int32) (fFault : Int32) (fPlace : Int32) (fPos : Int32) (fText : Int32) (tpS : Int32) (tpN : Nat) (tpA : Nat → Int32) (zVer : Int32) (zTic : Int32) (zTyc : Int32) (zLec : Int32) (zStc : Int32) (zUtc : Int32) (zTiA : Nat → Int64) {r0 : Int32} {v0_0 : Int32} {v0_1 : Int32} {v0_5 : Int32} {v4_a : Nat → Int64} (hf : f_FP_readTimes nf p0 fFault fPlace fPos tpS tpN tpA zTic zTiA = some (r0, v0_0, v0_1, v0_5, v4_a)) : Met l y_FP_readTimes (wd y_FP_readTimes b_FP_readTimes 5 (some .boolean)) ({ frames := 2, cells := 0, slots := 0, locals := 46 }) (MU dC dI [(h0, .inr (3, [.int fFault, .int fPlace, .ref fTape, .ref fZone, .ref fCounts, .int fPos, .int fText])), (fTape, .inr (0, [.ref tpR, .int tpS])), (tpR, .inl (cAtpR, tpN, .inl tpA)), (fZone, .inr (8, [.int zVer, .int zTic, .int zTyc, .int zLec, .int zStc, .int zUtc, .ref zTi, .ref zTt, .ref zOf, .ref zDs, .ref zIx, .ref zSd, .ref zUt, .ref zCh, .ref zLt, .ref zLo, .ref zRu])), (zTi, .inl (cAzTi, 200, .inr (.inl zTiA)))] [(cAtpR, .byte), (cAzTi, .long)] sz [.ref h0, .int p0]) (MV (some (.int r0)) (fun t => ∃ (q2 : Nat) (nA2 : ClassId), va_P (dC, dI) classes [(h0, .inr (3, [.int v0_0, .int v0_1, .ref fTape, .ref fZone, .ref fCounts, .int v0_5, .int fText])), (fTape, .inr (0, [.ref q2, .int tpS])), (q2, .inl (nA2, tpN, .inl tpA)), (fZone, .inr (8, [.int zVer, .int zTic, .int zTyc, .int zLec, .int zStc, .int zUtc, .ref zTi, .ref zTt, .ref zOf, .ref zDs, .ref zIx, .ref zSd, .ref zUt, .ref zCh, .ref zLt, .ref zLo, .ref zRu])), (zTi, .inl (cAzTi, 200, .inr (.inl v4_a)))] t.heap ∧ va_K (dC, dI) classes [(nA2, .byte), (cAzTi, .long)] t ∧ va_D (va_A [(h0, .inr (3, [.int fFault, .int fPlace, .ref fTape, .ref fZone, .ref fCounts, .int fPos, .int fText])), (fTape, .inr (0, [.ref tpR, .int tpS])), (tpR, .inl (cAtpR, tpN, .inl tpA)), (fZone, .inr (8, [.int zVer, .int zTic, .int zTyc, .int zLec, .int zStc, .int zUtc, .ref zTi, .ref zTt, .ref zOf, .ref zDs, .ref zIx, .ref zSd, .ref zUt, .ref zCh, .ref zLt, .ref zLo, .ref zRu])), (zTi, .inl (cAzTi, 200, .inr (.inl zTiA)))] sz) [(h0, .inr (3, [.int v0_0, .int v0_1, .ref fTape, .ref fZone, .ref fCounts, .int v0_5, .int fText])), (fTape, .inr (0, [.ref q2, .int tpS])), (q2, .inl (nA2, tpN, .inl tpA)), (fZone, .inr (8, [.int zVer, .int zTic, .int zTyc, .int zLec, .int zStc, .int zUtc, .ref zTi, .ref zTt, .ref zOf, .ref zDs, .ref zIx, .ref zSd, .ref zUt, .ref zCh, .ref zLt, .ref zLo, .ref zRu])), (zTi, .inl (cAzTi, 200, .inr (.inl v4_a)))]) (va_A [(h0, .inr (3, [.int fFault, .int fPlace, .ref fTape, .ref fZone, .ref fCounts, .int fPos, .int fText])), (fTape, .inr (0, [.ref tpR, .int tpS])), (tpR, .inl (cAtpR, tpN, .inl tpA)), (fZone, .inr (8, [.int zVer, .int zTic, .int zTyc, .int zLec, .int zStc, .int zUtc, .ref zTi, .ref zTt, .ref zOf, .ref zDs, .ref zIx, .ref zSd, .ref zUt, .ref zCh, .ref zLt, .ref zLo, .ref zRu])), (zTi, .inl (cAzTi, 200, .inr (.inl zTiA)))] sz)) 0 0 (va_A [(h0, .inr (3, [.int fFault, .int fPlace, .ref fTape, .ref fZone, .ref fCounts, .int fPos, .int fText])), (fTape, .inr (0, [.ref tpR, .int tpS])), (tpR, .inl (cAtpR, tpN, .inl tpA)), (fZone, .inr (8, [.int zVer, .int zTic, .int zTyc, .int zLec, .int zStc, .int zUtc, .ref zTi, .ref zTt, .ref zOf, .ref zDs, .ref zIx, .ref zSd, .ref zUt, .ref zCh, .ref zLt, .ref zLo, .ref zRu])), (zTi, .inl (cAzTi, 200, .inr (.inl zTiA)))] sz) :=
  met_M (plainFor_of_name (by decide)) (Nat.le_of_ble_eq_true rfl) (fun p e R s m args below meth c ls hRc hRs hsz hin C0 hST hK hP hD hl => by
    obtain ⟨hx, hb, hr, hml, hown, hts, hlocks, hRf, hRl⟩ := id C0
    subst hsz
    have hA : ∀ q : Nat, s.heap.size ≤ q → va_A [(h0, .inr (3, [.int fFault, .int fPlace, .ref fTape, .ref fZone, .ref fCounts, .int fPos, .int fText])), (fTape, .inr (0, [.ref tpR, .int tpS])), (tpR, .inl (cAtpR, tpN, .inl tpA)), (fZone, .inr (8, [.int zVer, .int zTic, .int zTyc, .int zLec, .int zStc, .int zUtc, .ref zTi, .ref zTt, .ref zOf, .ref zDs, .ref zIx, .ref zSd, .ref zUt, .ref zCh, .ref zLt, .ref zLo, .ref zRu])), (zTi, .inl (cAzTi, 200, .inr (.inl zTiA)))] s.heap.size q := fun q h => Or.inr h
    have hS : va_S (va_A [(h0, .inr (3, [.int fFault, .int fPlace, .ref fTape, .ref fZone, .ref fCounts, .int fPos, .int fText])), (fTape, .inr (0, [.ref tpR, .int tpS])), (tpR, .inl (cAtpR, tpN, .inl tpA)), (fZone, .inr (8, [.int zVer, .int zTic, .int zTyc, .int zLec, .int zStc, .int zUtc, .ref zTi, .ref zTt, .ref zOf, .ref zDs, .ref zIx, .ref zSd, .ref zUt, .ref zCh, .ref zLt, .ref zLo, .ref zRu])), (zTi, .inl (cAzTi, 200, .inr (.inl zTiA)))] s.heap.size) s.heap s.heap [] := va_S.rf
    unfold f_FP_readTimes at hf
    exact k_FP_readTimes_0 C0 hST hA (fun pc ls {q2} {nA2} H locs hd hn hP hD hS hK => W.zret hx hb hr hn (fun t ht hW => ⟨⟨rfl, ⟨q2, nA2, by rw [ht]; exact hP, va_K.moved hW.alike hK, hD⟩⟩, hS.F ht⟩) hS.2.2 hd) hf hK hP hD hS (lv_sub hl [0, 1] rfl))
-- ZoneFiles$FileParser.readTimeTypes()Z
def f_FP_readTimeTypes_18 (nf : Nat) (tpS : Int32) (tpN : Nat) (tpA : Nat → Int32) (zTic : Int32) (zTyc : Int32) : Nat → Int32 → Int32 → Int32 → Int32 → (Nat → Int32) → Option (Int32 × Int32 × Int32 × Int32 × (Nat → Int32))
  | 0, _, _, _, _, _ => none
  | n + 1, x1, w0_0, w0_1, w0_5, w4_a =>
    if zTic ≤ x1 then
    some (1, w0_0, w0_1, w0_5, w4_a)
    else
    (f_By_get nf w0_5 tpS tpN tpA).bind fun r_6 =>
      if r_6 < zTyc then
      if x1 < 0 ∨ 200 ≤ x1.toNatClampNeg then none else
        f_FP_readTimeTypes_18 nf tpS tpN tpA zTic zTyc n (x1 + 1) w0_0 w0_1 (w0_5 + 1) (upd w4_a x1.toNatClampNeg r_6)
      else
      (f_FP_fail nf 6 w0_5 w0_0 w0_1).bind fun (z_9, z_10, z_11) =>
        if z_9 = 0 ∨ z_9 = 1 then some (z_9, z_10, z_11, w0_5, w4_a) else none
def f_FP_readTimeTypes_0 (nf : Nat) (tpS : Int32) (tpN : Nat) (tpA : Nat → Int32) (zTic : Int32) (zTyc : Int32) (w0_0 : Int32) (w0_1 : Int32) (w0_5 : Int32) (w4_a : Nat → Int32) : Option (Int32 × Int32 × Int32 × Int32 × (Nat → Int32)) :=
  (f_FP_hasMore nf zTic w0_0 w0_1 w0_5 tpS).bind fun (z_1, z_2, z_3) =>
  if z_1 = 0 then
  some (0, z_2, z_3, w0_5, w4_a)
  else
  f_FP_readTimeTypes_18 nf tpS tpN tpA zTic zTyc nf 0 z_2 z_3 w0_5 w4_a
def f_FP_readTimeTypes (nf : Nat) (fFault : Int32) (fPlace : Int32) (fPos : Int32) (tpS : Int32) (tpN : Nat) (tpA : Nat → Int32) (zTic : Int32) (zTyc : Int32) (zTtA : Nat → Int32) : Option (Int32 × Int32 × Int32 × Int32 × (Nat → Int32)) :=
  f_FP_readTimeTypes_0 nf tpS tpN tpA zTic zTyc fFault fPlace fPos zTtA
section
variable {p : Program} {l : Launch} {e : Env} {R : Room} {s : State} {m : MethodId} {args : Array Value} {below : List Frame} {meth : Method} {c : Code} {Q : State → Prop} {dC : Nat → ClassId} {dI : Nat → Nat → Nat} {nf : Nat} {A : Nat → Prop}
variable {h0 : Nat} {fTape : Nat} {fZone : Nat} {fCounts : Nat} {tpR : Nat} {zTi : Nat} {zTt : Nat} {zOf : Nat} {zDs : Nat} {zIx : Nat} {zSd : Nat} {zUt : Nat} {zCh : Nat} {zLt : Nat} {zLo : Nat} {zRu : Nat} {cAtpR : ClassId} {cAzTt : ClassId} {fFault : Int32} {fPlace : Int32} {fPos : Int32} {fText : Int32} {tpS : Int32} {tpN : Nat} {tpA : Nat → Int32} {zVer : Int32} {zTic : Int32} {zTyc : Int32} {zLec : Int32} {zStc : Int32} {zUtc : Int32} {zTtA : Nat → Int32} {r0 : Int32} {v0_0 : Int32} {v0_1 : Int32} {v0_5 : Int32} {v4_a : Nat → Int32}
set_option maxHeartbeats 400000 in
set_option maxRecDepth 100000 in
theorem k_FP_readTimeTypes_18 (C0 : Cx p s m meth c args R b_FP_readTimeTypes "ZoneFiles$FileParser" 3 (some .boolean) 2 43) (hST : ST A s s.heap) (hA : ∀ q, s.heap.size ≤ q → A q) (hE : ∀ (pc : Nat) (ls : Array Slot) {q2 : Nat} {nA2 : ClassId} (H : Heap) (locs : List Loc), decode b_FP_readTimeTypes pc = .ok (.ireturn, 1) → narrow .boolean (.int r0) = .int r0 → va_P (dC, dI) classes [(h0, .inr (3, [.int v0_0, .int v0_1, .ref fTape, .ref fZone, .ref fCounts, .int v0_5, .int fText])), (fTape, .inr (0, [.ref q2, .int tpS])), (q2, .inl (nA2, tpN, .inl tpA)), (fZone, .inr (8, [.int zVer, .int zTic, .int zTyc, .int zLec, .int zStc, .int zUtc, .ref zTi, .ref zTt, .ref zOf, .ref zDs, .ref zIx, .ref zSd, .ref zUt, .ref zCh, .ref zLt, .ref zLo, .ref zRu])), (zTt, .inl (cAzTt, 200, .inl v4_a))] H → va_D A [(h0, .inr (3, [.int v0_0, .int v0_1, .ref fTape, .ref fZone, .ref fCounts, .int v0_5, .int fText])), (fTape, .inr (0, [.ref q2, .int tpS])), (q2, .inl (nA2, tpN, .inl tpA)), (fZone, .inr (8, [.int zVer, .int zTic, .int zTyc, .int zLec, .int zStc, .int zUtc, .ref zTi, .ref zTt, .ref zOf, .ref zDs, .ref zIx, .ref zSd, .ref zUt, .ref zCh, .ref zLt, .ref zLo, .ref zRu])), (zTt, .inl (cAzTt, 200, .inl v4_a))] → va_S A s.heap H locs → va_K (dC, dI) classes [(nA2, .byte), (cAzTt, .int)] s → W p l e R s m args below meth c H locs 0 0 Q (F0 m pc ls [.int r0])) : ∀ (n : Nat) {x1 : Int32} {w0_0 : Int32} {w0_1 : Int32} {w0_5 : Int32} {w4_a : Nat → Int32}, f_FP_readTimeTypes_18 nf tpS tpN tpA zTic zTyc n x1 w0_0 w0_1 w0_5 w4_a = some (r0, v0_0, v0_1, v0_5, v4_a) → ∀ {q2 : Nat} {nA2 : ClassId} {H : Heap} {locs : List Loc} {ls : Array Slot}, va_K (dC, dI) classes [(nA2, .byte), (cAzTt, .int)] s → va_P (dC, dI) classes [(h0, .inr (3, [.int w0_0, .int w0_1, .ref fTape, .ref fZone, .ref fCounts, .int w0_5, .int fText])), (fTape, .inr (0, [.ref q2, .int tpS])), (q2, .inl (nA2, tpN, .inl tpA)), (fZone, .inr (8, [.int zVer, .int zTic, .int zTyc, .int zLec, .int zStc, .int zUtc, .ref zTi, .ref zTt, .ref zOf, .ref zDs, .ref zIx, .ref zSd, .ref zUt, .ref zCh, .ref zLt, .ref zLo, .ref zRu])), (zTt, .inl (cAzTt, 200, .inl w4_a))] H → va_D A [(h0, .inr (3, [.int w0_0, .int w0_1, .ref fTape, .ref fZone, .ref fCounts, .int w0_5, .int fText])), (fTape, .inr (0, [.ref q2, .int tpS])), (q2, .inl (nA2, tpN, .inl tpA)), (fZone, .inr (8, [.int zVer, .int zTic, .int zTyc, .int zLec, .int zStc, .int zUtc, .ref zTi, .ref zTt, .ref zOf, .ref zDs, .ref zIx, .ref zSd, .ref zUt, .ref zCh, .ref zLt, .ref zLo, .ref zRu])), (zTt, .inl (cAzTt, 200, .inl w4_a))] → va_S A s.heap H locs → lv_has ls 3 [(1, .int x1), (0, .ref h0)] → W p l e R s m args below meth c H locs 0 0 Q (F0 m 18 ls []) := by
  obtain ⟨hx, hb, hr, hml, hown, hts, hlocks, hRf, hRl⟩ := id C0
  obtain ⟨tms, hZms, hTms, tmg, hZmg, hTmg, hNW⟩ := id hST
  intro n
  induction n with
  | zero =>
    intro x1 w0_0 w0_1 w0_5 w4_a hf
    exact absurd hf (by simp [f_FP_readTimeTypes_18])
  | succ n ih =>
    intro x1 w0_0 w0_1 w0_5 w4_a hf q2 nA2 H locs ls hK hP hD hS hl
    unfold f_FP_readTimeTypes_18 at hf
    refine lv_iload_n hx hb d_FP_readTimeTypes_18 rfl (lv_at hl 0 rfl) ?_
    refine lv_aload_n hx hb d_FP_readTimeTypes_19 rfl (lv_at hl 1 rfl) ?_
    refine va_get (D := (dC, dI)) (ci := 3) (v := .ref fZone) (C := RFileParser) (T := TFileParser) (N := 7) hx hb hts in_FileParser hown hK hP 0 rfl rfl 3 (by decide) (hts (.fieldLink "ZoneFiles$FileParser" 15 "ZoneFiles$FileParser" "zone" "LZoneFiles$Zone;") m_3_161) (fun _ h9 => h9) rfl d_FP_readTimeTypes_20 ?_
    refine va_get (D := (dC, dI)) (ci := 8) (v := .int zTic) (C := RZone) (T := TZone) (N := 17) hx hb hts in_Zone hown hK hP 3 rfl rfl 1 (by decide) (hts (.fieldLink "ZoneFiles$FileParser" 81 "ZoneFiles$Zone" "timeCount" "I") m_1_167) (fun _ h9 => h9) rfl d_FP_readTimeTypes_23 ?_
    refine lv_icmp_ge (tgt := 89) hx hb d_FP_readTimeTypes_26 (by decide) (fun c_5 => ?_) (fun c_5 => ?_)
    · have hf := it_t c_5 hf
      refine lv_iconst (v := 1) hx hb d_FP_readTimeTypes_89 (by decide) ?_
      cases rs hf
      exact hE _ _ _ _ d_FP_readTimeTypes_90 rfl hP hD hS hK
    · have hf := it_f c_5 hf
      refine lv_aload_n hx hb d_FP_readTimeTypes_29 rfl (lv_at hl 1 rfl) ?_
      refine va_get (D := (dC, dI)) (ci := 3) (v := .ref fTape) (C := RFileParser) (T := TFileParser) (N := 7) hx hb hts in_FileParser hown hK hP 0 rfl rfl 2 (by decide) (hts (.fieldLink "ZoneFiles$FileParser" 9 "ZoneFiles$FileParser" "tape" "LZoneFiles$Bytes;") m_3_160) (fun _ h9 => h9) rfl d_FP_readTimeTypes_30 ?_
      refine lv_aload_n hx hb d_FP_readTimeTypes_33 rfl (lv_at hl 1 rfl) ?_
      refine va_get (D := (dC, dI)) (ci := 3) (v := .int w0_5) (C := RFileParser) (T := TFileParser) (N := 7) hx hb hts in_FileParser hown hK hP 0 rfl rfl 5 (by decide) (hts (.fieldLink "ZoneFiles$FileParser" 44 "ZoneFiles$FileParser" "pos" "I") m_3_163) (fun _ h9 => h9) rfl d_FP_readTimeTypes_34 ?_
      obtain ⟨r_6, hc, hf⟩ := ob hf
      refine cl_S (v := (some (.int r_6))) (st1 := [.int r_6]) (va_runV (As := [.int w0_5]) (rest := []) ⟨hx, hb, hml, hown, hts⟩ (c_By_get l dC dI fTape q2 nA2 nf w0_5 tpS tpN tpA hc) (cwV 1 hts (gdV m_3_190 m_2_71 m_2_72 m_1_2 m_2_73) rfl rfl rfl (by decide +kernel) ⟨Nat.le_trans (Nat.le_of_ble_eq_true rfl) hRf, Nat.le_trans (Nat.le_of_ble_eq_true rfl) hRl⟩) ((RO.pre (hP.sub (ws' := [(fTape, .inr (0, [.ref q2, .int tpS])), (q2, .inl (nA2, tpN, .inl tpA))]) [1, 2] rfl) (hK.sub (tys' := [(nA2, .byte)]) [0] rfl) (hST.ro hS)).vir (va_recv (hK.sub (tys' := [(nA2, .byte)]) [0] rfl) (hP.sub (ws' := [(fTape, .inr (0, [.ref q2, .int tpS])), (q2, .inl (nA2, tpN, .inl tpA))]) [1, 2] rfl) (ci := 0) (q0 := 0) rfl rfl)) rfl rfl hl.1 rfl (lv_room (Nat.le_of_ble_eq_true rfl)) d_FP_readTimeTypes_37 ⟨Nat.zero_le _, Nat.zero_le _⟩) rfl ?_
      refine lv_istore_n (lv' := [(2, .int r_6), (1, .int x1), (0, .ref h0)]) hx hb d_FP_readTimeTypes_40 rfl hl (by decide) rfl (fun ls hl => ?_)
      refine lv_iload_n hx hb d_FP_readTimeTypes_41 rfl (lv_at hl 0 rfl) ?_
      refine lv_aload_n hx hb d_FP_readTimeTypes_42 rfl (lv_at hl 2 rfl) ?_
      refine va_get (D := (dC, dI)) (ci := 3) (v := .ref fZone) (C := RFileParser) (T := TFileParser) (N := 7) hx hb hts in_FileParser hown hK hP 0 rfl rfl 3 (by decide) (hts (.fieldLink "ZoneFiles$FileParser" 15 "ZoneFiles$FileParser" "zone" "LZoneFiles$Zone;") m_3_161) (fun _ h9 => h9) rfl d_FP_readTimeTypes_43 ?_
      refine va_get (D := (dC, dI)) (ci := 8) (v := .int zTyc) (C := RZone) (T := TZone) (N := 17) hx hb hts in_Zone hown hK hP 3 rfl rfl 2 (by decide) (hts (.fieldLink "ZoneFiles$FileParser" 126 "ZoneFiles$Zone" "typeCount" "I") m_1_173) (fun _ h9 => h9) rfl d_FP_readTimeTypes_46 ?_
      refine lv_icmp_lt (tgt := 63) hx hb d_FP_readTimeTypes_49 (by decide) (fun c_7 => ?_) (fun c_7 => ?_)
      · have hf := it_t c_7 hf
        refine lv_aload_n hx hb d_FP_readTimeTypes_63 rfl (lv_at hl 2 rfl) ?_
        refine va_get (D := (dC, dI)) (ci := 3) (v := .ref fZone) (C := RFileParser) (T := TFileParser) (N := 7) hx hb hts in_FileParser hown hK hP 0 rfl rfl 3 (by decide) (hts (.fieldLink "ZoneFiles$FileParser" 15 "ZoneFiles$FileParser" "zone" "LZoneFiles$Zone;") m_3_161) (fun _ h9 => h9) rfl d_FP_readTimeTypes_64 ?_
        refine va_get (D := (dC, dI)) (ci := 8) (v := .ref zTt) (C := RZone) (T := TZone) (N := 17) hx hb hts in_Zone hown hK hP 3 rfl rfl 7 (by decide) (hts (.fieldLink "ZoneFiles$FileParser" 94 "ZoneFiles$Zone" "timeTypes" "[I") m_1_191) (fun _ h9 => h9) rfl d_FP_readTimeTypes_67 ?_
        refine lv_iload_n hx hb d_FP_readTimeTypes_70 rfl (lv_at hl 1 rfl) ?_
        refine lv_iload_n hx hb d_FP_readTimeTypes_71 rfl (lv_at hl 0 rfl) ?_
        obtain ⟨c_8, hf⟩ := it_n hf
        refine va_iast hx hb hK hP hD hS 4 1 rfl rfl c_8 d_FP_readTimeTypes_72 (fun H locs hP hD hS => ?_)
        have hP : va_P (dC, dI) classes [(h0, .inr (3, [.int w0_0, .int w0_1, .ref fTape, .ref fZone, .ref fCounts, .int w0_5, .int fText])), (fTape, .inr (0, [.ref q2, .int tpS])), (q2, .inl (nA2, tpN, .inl tpA)), (fZone, .inr (8, [.int zVer, .int zTic, .int zTyc, .int zLec, .int zStc, .int zUtc, .ref zTi, .ref zTt, .ref zOf, .ref zDs, .ref zIx, .ref zSd, .ref zUt, .ref zCh, .ref zLt, .ref zLo, .ref zRu])), (zTt, .inl (cAzTt, 200, .inl (upd w4_a x1.toNatClampNeg r_6)))] H := hP
        have hD : va_D A [(h0, .inr (3, [.int w0_0, .int w0_1, .ref fTape, .ref fZone, .ref fCounts, .int w0_5, .int fText])), (fTape, .inr (0, [.ref q2, .int tpS])), (q2, .inl (nA2, tpN, .inl tpA)), (fZone, .inr (8, [.int zVer, .int zTic, .int zTyc, .int zLec, .int zStc, .int zUtc, .ref zTi, .ref zTt, .ref zOf, .ref zDs, .ref zIx, .ref zSd, .ref zUt, .ref zCh, .ref zLt, .ref zLo, .ref zRu])), (zTt, .inl (cAzTt, 200, .inl (upd w4_a x1.toNatClampNeg r_6)))] := hD
        refine lv_aload_n hx hb d_FP_readTimeTypes_73 rfl (lv_at hl 2 rfl) ?_
        refine lv_dup hx hb d_FP_readTimeTypes_74 rfl ?_
        refine va_get (D := (dC, dI)) (ci := 3) (v := .int w0_5) (C := RFileParser) (T := TFileParser) (N := 7) hx hb hts in_FileParser hown hK hP 0 rfl rfl 5 (by decide) (hts (.fieldLink "ZoneFiles$FileParser" 44 "ZoneFiles$FileParser" "pos" "I") m_3_163) (fun _ h9 => h9) rfl d_FP_readTimeTypes_75 ?_
        refine lv_iconst (v := 1) hx hb d_FP_readTimeTypes_78 (by decide) ?_
        refine lv_iadd hx hb d_FP_readTimeTypes_79 ?_
        refine va_put (D := (dC, dI)) (ci := 3) (v := .int (w0_5 + 1)) (ty := .int) (C := RFileParser) (T := TFileParser) (N := 7) hx hb hts in_FileParser tyFileParser ty_FileParser nm_FileParser hown hK hP hD hS 0 rfl rfl 5 (by decide) (hts (.fieldLink "ZoneFiles$FileParser" 44 "ZoneFiles$FileParser" "pos" "I") m_3_163) (fun _ h9 => h9) rfl (by decide +kernel) rfl rfl (Nat.le_of_ble_eq_true rfl) d_FP_readTimeTypes_80 (fun H locs hP hD hS => ?_)
        have hP : va_P (dC, dI) classes [(h0, .inr (3, [.int w0_0, .int w0_1, .ref fTape, .ref fZone, .ref fCounts, .int (w0_5 + 1), .int fText])), (fTape, .inr (0, [.ref q2, .int tpS])), (q2, .inl (nA2, tpN, .inl tpA)), (fZone, .inr (8, [.int zVer, .int zTic, .int zTyc, .int zLec, .int zStc, .int zUtc, .ref zTi, .ref zTt, .ref zOf, .ref zDs, .ref zIx, .ref zSd, .ref zUt, .ref zCh, .ref zLt, .ref zLo, .ref zRu])), (zTt, .inl (cAzTt, 200, .inl (upd w4_a x1.toNatClampNeg r_6)))] H := hP
        have hD : va_D A [(h0, .inr (3, [.int w0_0, .int w0_1, .ref fTape, .ref fZone, .ref fCounts, .int (w0_5 + 1), .int fText])), (fTape, .inr (0, [.ref q2, .int tpS])), (q2, .inl (nA2, tpN, .inl tpA)), (fZone, .inr (8, [.int zVer, .int zTic, .int zTyc, .int zLec, .int zStc, .int zUtc, .ref zTi, .ref zTt, .ref zOf, .ref zDs, .ref zIx, .ref zSd, .ref zUt, .ref zCh, .ref zLt, .ref zLo, .ref zRu])), (zTt, .inl (cAzTt, 200, .inl (upd w4_a x1.toNatClampNeg r_6)))] := hD
        refine lv_iinc (v := x1 + 1) (lv' := [(1, .int (x1 + 1)), (2, .int r_6), (0, .ref h0)]) hx hb d_FP_readTimeTypes_83 hl (k := 1) rfl rfl (by decide) rfl (fun ls hl => ?_)
        refine lv_goto (tgt := 18) hx hb d_FP_readTimeTypes_86 (by decide) ?_
        exact ih hf hK hP hD hS (lv_sub hl [0, 2] rfl)
      · have hf := it_f c_7 hf
        refine lv_aload_n hx hb d_FP_readTimeTypes_52 rfl (lv_at hl 2 rfl) ?_
        refine lv_bipush (v := 6) hx hb d_FP_readTimeTypes_53 (by decide) ?_
        refine lv_aload_n hx hb d_FP_readTimeTypes_55 rfl (lv_at hl 2 rfl) ?_
        refine va_get (D := (dC, dI)) (ci := 3) (v := .int w0_5) (C := RFileParser) (T := TFileParser) (N := 7) hx hb hts in_FileParser hown hK hP 0 rfl rfl 5 (by decide) (hts (.fieldLink "ZoneFiles$FileParser" 44 "ZoneFiles$FileParser" "pos" "I") m_3_163) (fun _ h9 => h9) rfl d_FP_readTimeTypes_56 ?_
        obtain ⟨⟨z_9, z_10, z_11⟩, hc, hf⟩ := ob hf
        have hPc := hP.sub (ws' := [(h0, .inr (3, [.int w0_0, .int w0_1, .ref fTape, .ref fZone, .ref fCounts, .int w0_5, .int fText]))]) [0] rfl
        have hDc := hD.sub (ws' := [(h0, .inr (3, [.int w0_0, .int w0_1, .ref fTape, .ref fZone, .ref fCounts, .int w0_5, .int fText]))]) [0] (by decide) rfl
        have hKc := hK.sub (tys' := []) [] rfl
        have hFc := va_free (wc := [(h0, .inr (3, [.int w0_0, .int w0_1, .ref fTape, .ref fZone, .ref fCounts, .int w0_5, .int fText]))]) hD hS hA [0] rfl
        refine cl_M (v := (some (.int z_9))) (st1 := [.int z_9]) (va_runV (As := [.int 6, .int w0_5]) (rest := []) ⟨hx, hb, hml, hown, hts⟩ (c_FP_fail l dC dI h0 fTape fZone fCounts H.size nf 6 w0_5 w0_0 w0_1 w0_5 fText hc) (cwV 2 hts (gdV m_3_191 m_3_193 msel_16 m_1_16 m_3_194) rfl rfl rfl (by decide +kernel) ⟨Nat.le_trans (Nat.le_of_ble_eq_true rfl) hRf, Nat.le_trans (Nat.le_of_ble_eq_true rfl) hRl⟩) ((MU.pre hPc hKc hDc (hST.mu hS hFc)).vir (va_recv hKc hPc (ci := 3) (q0 := 0) rfl rfl)) rfl rfl hl.1 rfl (lv_room (Nat.le_of_ble_eq_true rfl)) d_FP_readTimeTypes_59 ⟨Nat.zero_le _, Nat.zero_le _⟩) rfl hS (fun q _ h => hFc q h) hFc (fun t H1 locs ht hvm hB hz1 hk1 hS => ?_)
        obtain ⟨hP1, hK1, hD1⟩ := hB
        rw [ht] at hP1
        have hK1 := va_K.moved hvm.symm hK1
        obtain ⟨hP, hD⟩ := va_join (wr := [(fTape, .inr (0, [.ref q2, .int tpS])), (q2, .inl (nA2, tpN, .inl tpA)), (fZone, .inr (8, [.int zVer, .int zTic, .int zTyc, .int zLec, .int zStc, .int zUtc, .ref zTi, .ref zTt, .ref zOf, .ref zDs, .ref zIx, .ref zSd, .ref zUt, .ref zCh, .ref zLt, .ref zLo, .ref zRu])), (zTt, .inl (cAzTt, 200, .inl w4_a))]) (w1 := [(h0, .inr (3, [.int z_10, .int z_11, .ref fTape, .ref fZone, .ref fCounts, .int w0_5, .int fText]))]) hP hD [0] [1, 2, 3, 4] rfl rfl (by decide) (by decide) hk1 hFc hP1 hD1
        have hK := (hK.sub (tys' := [(nA2, .byte), (cAzTt, .int)]) [0, 1] rfl).app hK1
        generalize H1 = H at hP hS ⊢
        have hP := hP.sub (ws' := [(h0, .inr (3, [.int z_10, .int z_11, .ref fTape, .ref fZone, .ref fCounts, .int w0_5, .int fText])), (fTape, .inr (0, [.ref q2, .int tpS])), (q2, .inl (nA2, tpN, .inl tpA)), (fZone, .inr (8, [.int zVer, .int zTic, .int zTyc, .int zLec, .int zStc, .int zUtc, .ref zTi, .ref zTt, .ref zOf, .ref zDs, .ref zIx, .ref zSd, .ref zUt, .ref zCh, .ref zLt, .ref zLo, .ref zRu])), (zTt, .inl (cAzTt, 200, .inl w4_a))]) [4, 0, 1, 2, 3] rfl
        have hD := hD.sub (ws' := [(h0, .inr (3, [.int z_10, .int z_11, .ref fTape, .ref fZone, .ref fCounts, .int w0_5, .int fText])), (fTape, .inr (0, [.ref q2, .int tpS])), (q2, .inl (nA2, tpN, .inl tpA)), (fZone, .inr (8, [.int zVer, .int zTic, .int zTyc, .int zLec, .int zStc, .int zUtc, .ref zTi, .ref zTt, .ref zOf, .ref zDs, .ref zIx, .ref zSd, .ref zUt, .ref zCh, .ref zLt, .ref zLo, .ref zRu])), (zTt, .inl (cAzTt, 200, .inl w4_a))]) [4, 0, 1, 2, 3] (by decide) rfl
        have hK := hK.sub (tys' := [(nA2, .byte), (cAzTt, .int)]) [0, 1] rfl
        obtain ⟨c_12, hf⟩ := it_g hf
        cases rs hf
        exact hE _ _ _ _ d_FP_readTimeTypes_62 (nb_of c_12) hP hD hS hK
set_option maxHeartbeats 400000 in
set_option maxRecDepth 100000 in
theorem k_FP_readTimeTypes_0 (C0 : Cx p s m meth c args R b_FP_readTimeTypes "ZoneFiles$FileParser" 3 (some .boolean) 2 43) (hST : ST A s s.heap) (hA : ∀ q, s.heap.size ≤ q → A q) (hE : ∀ (pc : Nat) (ls : Array Slot) {q2 : Nat} {nA2 : ClassId} (H : Heap) (locs : List Loc), decode b_FP_readTimeTypes pc = .ok (.ireturn, 1) → narrow .boolean (.int r0) = .int r0 → va_P (dC, dI) classes [(h0, .inr (3, [.int v0_0, .int v0_1, .ref fTape, .ref fZone, .ref fCounts, .int v0_5, .int fText])), (fTape, .inr (0, [.ref q2, .int tpS])), (q2, .inl (nA2, tpN, .inl tpA)), (fZone, .inr (8, [.int zVer, .int zTic, .int zTyc, .int zLec, .int zStc, .int zUtc, .ref zTi, .ref zTt, .ref zOf, .ref zDs, .ref zIx, .ref zSd, .ref zUt, .ref zCh, .ref zLt, .ref zLo, .ref zRu])), (zTt, .inl (cAzTt, 200, .inl v4_a))] H → va_D A [(h0, .inr (3, [.int v0_0, .int v0_1, .ref fTape, .ref fZone, .ref fCounts, .int v0_5, .int fText])), (fTape, .inr (0, [.ref q2, .int tpS])), (q2, .inl (nA2, tpN, .inl tpA)), (fZone, .inr (8, [.int zVer, .int zTic, .int zTyc, .int zLec, .int zStc, .int zUtc, .ref zTi, .ref zTt, .ref zOf, .ref zDs, .ref zIx, .ref zSd, .ref zUt, .ref zCh, .ref zLt, .ref zLo, .ref zRu])), (zTt, .inl (cAzTt, 200, .inl v4_a))] → va_S A s.heap H locs → va_K (dC, dI) classes [(nA2, .byte), (cAzTt, .int)] s → W p l e R s m args below meth c H locs 0 0 Q (F0 m pc ls [.int r0])) {w0_0 : Int32} {w0_1 : Int32} {w0_5 : Int32} {w4_a : Nat → Int32} (hf : f_FP_readTimeTypes_0 nf tpS tpN tpA zTic zTyc w0_0 w0_1 w0_5 w4_a = some (r0, v0_0, v0_1, v0_5, v4_a)) {q2 : Nat} {nA2 : ClassId} {H : Heap} {locs : List Loc} {ls : Array Slot} (hK : va_K (dC, dI) classes [(nA2, .byte), (cAzTt, .int)] s) (hP : va_P (dC, dI) classes [(h0, .inr (3, [.int w0_0, .int w0_1, .ref fTape, .ref fZone, .ref fCounts, .int w0_5, .int fText])), (fTape, .inr (0, [.ref q2, .int tpS])), (q2, .inl (nA2, tpN, .inl tpA)), (fZone, .inr (8, [.int zVer, .int zTic, .int zTyc, .int zLec, .int zStc, .int zUtc, .ref zTi, .ref zTt, .ref zOf, .ref zDs, .ref zIx, .ref zSd, .ref zUt, .ref zCh, .ref zLt, .ref zLo, .ref zRu])), (zTt, .inl (cAzTt, 200, .inl w4_a))] H) (hD : va_D A [(h0, .inr (3, [.int w0_0, .int w0_1, .ref fTape, .ref fZone, .ref fCounts, .int w0_5, .int fText])), (fTape, .inr (0, [.ref q2, .int tpS])), (q2, .inl (nA2, tpN, .inl tpA)), (fZone, .inr (8, [.int zVer, .int zTic, .int zTyc, .int zLec, .int zStc, .int zUtc, .ref zTi, .ref zTt, .ref zOf, .ref zDs, .ref zIx, .ref zSd, .ref zUt, .ref zCh, .ref zLt, .ref zLo, .ref zRu])), (zTt, .inl (cAzTt, 200, .inl w4_a))]) (hS : va_S A s.heap H locs) (hl : lv_has ls 3 [(0, .ref h0)]) : W p l e R s m args below meth c H locs 0 0 Q (F0 m 0 ls []) := by
  obtain ⟨hx, hb, hr, hml, hown, hts, hlocks, hRf, hRl⟩ := id C0
  obtain ⟨tms, hZms, hTms, tmg, hZmg, hTmg, hNW⟩ := id hST
  unfold f_FP_readTimeTypes_0 at hf
  refine lv_aload_n hx hb d_FP_readTimeTypes_0 rfl (lv_at hl 0 rfl) ?_
  refine lv_aload_n hx hb d_FP_readTimeTypes_1 rfl (lv_at hl 0 rfl) ?_
  refine va_get (D := (dC, dI)) (ci := 3) (v := .ref fZone) (C := RFileParser) (T := TFileParser) (N := 7) hx hb hts in_FileParser hown hK hP 0 rfl rfl 3 (by decide) (hts (.fieldLink "ZoneFiles$FileParser" 15 "ZoneFiles$FileParser" "zone" "LZoneFiles$Zone;") m_3_161) (fun _ h9 => h9) rfl d_FP_readTimeTypes_2 ?_
  refine va_get (D := (dC, dI)) (ci := 8) (v := .int zTic) (C := RZone) (T := TZone) (N := 17) hx hb hts in_Zone hown hK hP 3 rfl rfl 1 (by decide) (hts (.fieldLink "ZoneFiles$FileParser" 81 "ZoneFiles$Zone" "timeCount" "I") m_1_167) (fun _ h9 => h9) rfl d_FP_readTimeTypes_5 ?_
  obtain ⟨⟨z_1, z_2, z_3⟩, hc, hf⟩ := ob hf
  have hPc := hP.sub (ws' := [(h0, .inr (3, [.int w0_0, .int w0_1, .ref fTape, .ref fZone, .ref fCounts, .int w0_5, .int fText])), (fTape, .inr (0, [.ref q2, .int tpS]))]) [0, 1] rfl
  have hDc := hD.sub (ws' := [(h0, .inr (3, [.int w0_0, .int w0_1, .ref fTape, .ref fZone, .ref fCounts, .int w0_5, .int fText])), (fTape, .inr (0, [.ref q2, .int tpS]))]) [0, 1] (by decide) rfl
  have hKc := hK.sub (tys' := []) [] rfl
  have hFc := va_free (wc := [(h0, .inr (3, [.int w0_0, .int w0_1, .ref fTape, .ref fZone, .ref fCounts, .int w0_5, .int fText])), (fTape, .inr (0, [.ref q2, .int tpS]))]) hD hS hA [0, 1] rfl
  refine cl_M (v := (some (.int z_1))) (st1 := [.int z_1]) (va_runV (As := [.int zTic]) (rest := []) ⟨hx, hb, hml, hown, hts⟩ (c_FP_hasMore l dC dI h0 fTape fZone fCounts q2 H.size nf zTic w0_0 w0_1 w0_5 fText tpS hc) (cwV 1 hts (gdV m_3_199 m_3_201 msel_18 m_1_16 m_3_202) rfl rfl rfl (by decide +kernel) ⟨Nat.le_trans (Nat.le_of_ble_eq_true rfl) hRf, Nat.le_trans (Nat.le_of_ble_eq_true rfl) hRl⟩) ((MU.pre hPc hKc hDc (hST.mu hS hFc)).vir (va_recv hKc hPc (ci := 3) (q0 := 0) rfl rfl)) rfl rfl hl.1 rfl (lv_room (Nat.le_of_ble_eq_true rfl)) d_FP_readTimeTypes_8 ⟨Nat.zero_le _, Nat.zero_le _⟩) rfl hS (fun q _ h => hFc q h) hFc (fun t H1 locs ht hvm hB hz1 hk1 hS => ?_)
  obtain ⟨hP1, hK1, hD1⟩ := hB
  rw [ht] at hP1
  have hK1 := va_K.moved hvm.symm hK1
  obtain ⟨hP, hD⟩ := va_join (wr := [(q2, .inl (nA2, tpN, .inl tpA)), (fZone, .inr (8, [.int zVer, .int zTic, .int zTyc, .int zLec, .int zStc, .int zUtc, .ref zTi, .ref zTt, .ref zOf, .ref zDs, .ref zIx, .ref zSd, .ref zUt, .ref zCh, .ref zLt, .ref zLo, .ref zRu])), (zTt, .inl (cAzTt, 200, .inl w4_a))]) (w1 := [(h0, .inr (3, [.int z_2, .int z_3, .ref fTape, .ref fZone, .ref fCounts, .int w0_5, .int fText])), (fTape, .inr (0, [.ref q2, .int tpS]))]) hP hD [0, 1] [2, 3, 4] rfl rfl (by decide) (by decide) hk1 hFc hP1 hD1
  have hK := (hK.sub (tys' := [(nA2, .byte), (cAzTt, .int)]) [0, 1] rfl).app hK1
  generalize H1 = H at hP hS ⊢
  have hP := hP.sub (ws' := [(h0, .inr (3, [.int z_2, .int z_3, .ref fTape, .ref fZone, .ref fCounts, .int w0_5, .int fText])), (fTape, .inr (0, [.ref q2, .int tpS])), (q2, .inl (nA2, tpN, .inl tpA)), (fZone, .inr (8, [.int zVer, .int zTic, .int zTyc, .int zLec, .int zStc, .int zUtc, .ref zTi, .ref zTt, .ref zOf, .ref zDs, .ref zIx, .ref zSd, .ref zUt, .ref zCh, .ref zLt, .ref zLo, .ref zRu])), (zTt, .inl (cAzTt, 200, .inl w4_a))]) [3, 4, 0, 1, 2] rfl
  have hD := hD.sub (ws' := [(h0, .inr (3, [.int z_2, .int z_3, .ref fTape, .ref fZone, .ref fCounts, .int w0_5, .int fText])), (fTape, .inr (0, [.ref q2, .int tpS])), (q2, .inl (nA2, tpN, .inl tpA)), (fZone, .inr (8, [.int zVer, .int zTic, .int zTyc, .int zLec, .int zStc, .int zUtc, .ref zTi, .ref zTt, .ref zOf, .ref zDs, .ref zIx, .ref zSd, .ref zUt, .ref zCh, .ref zLt, .ref zLo, .ref zRu])), (zTt, .inl (cAzTt, 200, .inl w4_a))]) [3, 4, 0, 1, 2] (by decide) rfl
  have hK := hK.sub (tys' := [(nA2, .byte), (cAzTt, .int)]) [0, 1] rfl
  refine lv_if_ne (tgt := 16) hx hb d_FP_readTimeTypes_11 (by decide) (fun c_4 => ?_) (fun c_4 => ?_)
  · have hf := it_f c_4 hf
    refine lv_iconst (v := 0) hx hb d_FP_readTimeTypes_16 (by decide) ?_
    refine lv_istore_n (lv' := [(1, .int 0), (0, .ref h0)]) hx hb d_FP_readTimeTypes_17 rfl hl (by decide) rfl (fun ls hl => ?_)
    exact k_FP_readTimeTypes_18 C0 hST hA hE nf hf hK hP hD hS (lv_sub hl [0, 1] rfl)
  · have hf := it_t c_4 hf
    refine lv_iconst (v := 0) hx hb d_FP_readTimeTypes_14 (by decide) ?_
    cases rs hf
    exact hE _ _ _ _ d_FP_readTimeTypes_15 rfl hP hD hS hK
end
set_option maxHeartbeats 400000 in
set_option maxRecDepth 100000 in
theorem c_FP_readTimeTypes (l : Launch) (dC : Nat → ClassId) (dI : Nat → Nat → Nat) (h0 : Nat) (fTape : Nat) (fZone : Nat) (fCounts : Nat) (tpR : Nat) (zTi : Nat) (zTt : Nat) (zOf : Nat) (zDs : Nat) (zIx : Nat) (zSd : Nat) (zUt : Nat) (zCh : Nat) (zLt : Nat) (zLo : Nat) (zRu : Nat) (cAtpR : ClassId) (cAzTt : ClassId) (sz : Nat) (nf : Nat) (fFault : Int32) (fPlace : Int32) (fPos : Int32) (fText : Int32) (tpS : Int32) (tpN : Nat) (tpA : Nat → Int32) (zVer : Int32) (zTic : Int32) (zTyc : Int32) (zLec : Int32) (zStc : Int32) (zUtc : Int32) (zTtA : Nat → Int32) {r0 : Int32} {v0_0 : Int32} {v0_1 : Int32} {v0_5 : Int32} {v4_a : Nat → Int32} (hf : f_FP_readTimeTypes nf fFault fPlace fPos tpS tpN tpA zTic zTyc zTtA = some (r0, v0_0, v0_1, v0_5, v4_a)) : Met l y_FP_readTimeTypes (wd y_FP_readTimeTypes b_FP_readTimeTypes 3 (some .boolean)) ({ frames := 2, cells := 0, slots := 0, locals := 43 }) (MU dC dI [(h0, .inr (3, [.int fFault, .int fPlace, .ref fTape, .ref fZone, .ref fCounts, .int fPos, .int fText])), (fTape, .inr (0, [.ref tpR, .int tpS])), (tpR, .inl (cAtpR, tpN, .inl tpA)), (fZone, .inr (8, [.int zVer, .int zTic, .int zTyc, .int zLec, .int zStc, .int zUtc, .ref zTi, .ref zTt, .ref zOf, .ref zDs, .ref zIx, .ref zSd, .ref zUt, .ref zCh, .ref zLt, .ref zLo, .ref zRu])), (zTt, .inl (cAzTt, 200, .inl zTtA))] [(cAtpR, .byte), (cAzTt, .int)] sz [.ref h0]) (MV (some (.int r0)) (fun t => ∃ (q2 : Nat) (nA2 : ClassId), va_P (dC, dI) classes [(h0, .inr (3, [.int v0_0, .int v0_1, .ref fTape, .ref fZone, .ref fCounts, .int v0_5, .int fText])), (fTape, .inr (0, [.ref q2, .int tpS])), (q2, .inl (nA2, tpN, .inl tpA)), (fZone, .inr (8, [.int zVer, .int zTic, .int zTyc, .int zLec, .int zStc, .int zUtc, .ref zTi, .ref zTt, .ref zOf, .ref zDs, .ref zIx, .ref zSd, .ref zUt, .ref zCh, .ref zLt, .ref zLo, .ref zRu])), (zTt, .inl (cAzTt, 200, .inl v4_a))] t.heap ∧ va_K (dC, dI) classes [(nA2, .byte), (cAzTt, .int)] t ∧ va_D (va_A [(h0, .inr (3, [.int fFault, .int fPlace, .ref fTape, .ref fZone, .ref fCounts, .int fPos, .int fText])), (fTape, .inr (0, [.ref tpR, .int tpS])), (tpR, .inl (cAtpR, tpN, .inl tpA)), (fZone, .inr (8, [.int zVer, .int zTic, .int zTyc, .int zLec, .int zStc, .int zUtc, .ref zTi, .ref zTt, .ref zOf, .ref zDs, .ref zIx, .ref zSd, .ref zUt, .ref zCh, .ref zLt, .ref zLo, .ref zRu])), (zTt, .inl (cAzTt, 200, .inl zTtA))] sz) [(h0, .inr (3, [.int v0_0, .int v0_1, .ref fTape, .ref fZone, .ref fCounts, .int v0_5, .int fText])), (fTape, .inr (0, [.ref q2, .int tpS])), (q2, .inl (nA2, tpN, .inl tpA)), (fZone, .inr (8, [.int zVer, .int zTic, .int zTyc, .int zLec, .int zStc, .int zUtc, .ref zTi, .ref zTt, .ref zOf, .ref zDs, .ref zIx, .ref zSd, .ref zUt, .ref zCh, .ref zLt, .ref zLo, .ref zRu])), (zTt, .inl (cAzTt, 200, .inl v4_a))]) (va_A [(h0, .inr (3, [.int fFault, .int fPlace, .ref fTape, .ref fZone, .ref fCounts, .int fPos, .int fText])), (fTape, .inr (0, [.ref tpR, .int tpS])), (tpR, .inl (cAtpR, tpN, .inl tpA)), (fZone, .inr (8, [.int zVer, .int zTic, .int zTyc, .int zLec, .int zStc, .int zUtc, .ref zTi, .ref zTt, .ref zOf, .ref zDs, .ref zIx, .ref zSd, .ref zUt, .ref zCh, .ref zLt, .ref zLo, .ref zRu])), (zTt, .inl (cAzTt, 200, .inl zTtA))] sz)) 0 0 (va_A [(h0, .inr (3, [.int fFault, .int fPlace, .ref fTape, .ref fZone, .ref fCounts, .int fPos, .int fText])), (fTape, .inr (0, [.ref tpR, .int tpS])), (tpR, .inl (cAtpR, tpN, .inl tpA)), (fZone, .inr (8, [.int zVer, .int zTic, .int zTyc, .int zLec, .int zStc, .int zUtc, .ref zTi, .ref zTt, .ref zOf, .ref zDs, .ref zIx, .ref zSd, .ref zUt, .ref zCh, .ref zLt, .ref zLo, .ref zRu])), (zTt, .inl (cAzTt, 200, .inl zTtA))] sz) :=
  met_M (plainFor_of_name (by decide)) (Nat.le_of_ble_eq_true rfl) (fun p e R s m args below meth c ls hRc hRs hsz hin C0 hST hK hP hD hl => by
    obtain ⟨hx, hb, hr, hml, hown, hts, hlocks, hRf, hRl⟩ := id C0
    subst hsz
    have hA : ∀ q : Nat, s.heap.size ≤ q → va_A [(h0, .inr (3, [.int fFault, .int fPlace, .ref fTape, .ref fZone, .ref fCounts, .int fPos, .int fText])), (fTape, .inr (0, [.ref tpR, .int tpS])), (tpR, .inl (cAtpR, tpN, .inl tpA)), (fZone, .inr (8, [.int zVer, .int zTic, .int zTyc, .int zLec, .int zStc, .int zUtc, .ref zTi, .ref zTt, .ref zOf, .ref zDs, .ref zIx, .ref zSd, .ref zUt, .ref zCh, .ref zLt, .ref zLo, .ref zRu])), (zTt, .inl (cAzTt, 200, .inl zTtA))] s.heap.size q := fun q h => Or.inr h
    have hS : va_S (va_A [(h0, .inr (3, [.int fFault, .int fPlace, .ref fTape, .ref fZone, .ref fCounts, .int fPos, .int fText])), (fTape, .inr (0, [.ref tpR, .int tpS])), (tpR, .inl (cAtpR, tpN, .inl tpA)), (fZone, .inr (8, [.int zVer, .int zTic, .int zTyc, .int zLec, .int zStc, .int zUtc, .ref zTi, .ref zTt, .ref zOf, .ref zDs, .ref zIx, .ref zSd, .ref zUt, .ref zCh, .ref zLt, .ref zLo, .ref zRu])), (zTt, .inl (cAzTt, 200, .inl zTtA))] s.heap.size) s.heap s.heap [] := va_S.rf
    unfold f_FP_readTimeTypes at hf
    exact k_FP_readTimeTypes_0 C0 hST hA (fun pc ls {q2} {nA2} H locs hd hn hP hD hS hK => W.zret hx hb hr hn (fun t ht hW => ⟨⟨rfl, ⟨q2, nA2, by rw [ht]; exact hP, va_K.moved hW.alike hK, hD⟩⟩, hS.F ht⟩) hS.2.2 hd) hf hK hP hD hS (lv_sub hl [0] rfl))
-- ZoneFiles$FileParser.readTypes()Z
def f_FP_readTypes_58 (nf : Nat) (w0_0 : Int32) (w0_1 : Int32) (w0_5 : Int32) (w4_a : Nat → Int32) (w5_a : Nat → Int32) (w6_a : Nat → Int32) : Option (Int32 × Int32 × Int32 × Int32 × (Nat → Int32) × (Nat → Int32) × (Nat → Int32)) :=
  (f_FP_fail nf 7 w0_5 w0_0 w0_1).bind fun (z_8, z_9, z_10) =>
  if z_8 = 0 ∨ z_8 = 1 then some (z_8, z_9, z_10, w0_5, w4_a, w5_a, w6_a) else none
def f_FP_readTypes_21 (nf : Nat) (tpS : Int32) (tpN : Nat) (tpA : Nat → Int32) (zTyc : Int32) (fCountsA : Nat → Int64) : Nat → Int32 → Int32 → Int32 → Int32 → (Nat → Int32) → (Nat → Int32) → (Nat → Int32) → Option (Int32 × Int32 × Int32 × Int32 × (Nat → Int32) × (Nat → Int32) × (Nat → Int32))
  | 0, _, _, _, _, _, _, _ => none
  | n + 1, x1, w0_0, w0_1, w0_5, w4_a, w5_a, w6_a =>
    if zTyc ≤ x1 then
    some (1, w0_0, w0_1, w0_5, w4_a, w5_a, w6_a)
    else
    (f_By_signedAt nf w0_5 4 tpS tpN tpA).bind fun r_6 =>
      if r_6.toInt32 < (-89999 : Int32) then
      f_FP_readTypes_58 nf w0_0 w0_1 w0_5 w4_a w5_a w6_a
      else
      if r_6.toInt32 ≤ (93599 : Int32) then
        (f_By_get nf (w0_5 + 4) tpS tpN tpA).bind fun r_13 =>
          if r_13 ≤ (1 : Int32) then
          (f_By_get nf (w0_5 + 5) tpS tpN tpA).bind fun r_15 =>
            (f_FP_count nf 5 fCountsA).bind fun r_16 =>
            if r_15 < r_16 then
            if x1 < 0 ∨ 40 ≤ x1.toNatClampNeg then none else
              if x1 < 0 ∨ 40 ≤ x1.toNatClampNeg then none else
              if x1 < 0 ∨ 40 ≤ x1.toNatClampNeg then none else
              f_FP_readTypes_21 nf tpS tpN tpA zTyc fCountsA n (x1 + 1) w0_0 w0_1 (w0_5 + 6) (upd w4_a x1.toNatClampNeg r_6.toInt32) (upd w5_a x1.toNatClampNeg r_13) (upd w6_a x1.toNatClampNeg r_15)
            else
            (f_FP_fail nf 9 (w0_5 + 5) w0_0 w0_1).bind fun (z_21, z_22, z_23) =>
              if z_21 = 0 ∨ z_21 = 1 then some (z_21, z_22, z_23, w0_5, w4_a, w5_a, w6_a) else none
          else
          (f_FP_fail nf 8 (w0_5 + 4) w0_0 w0_1).bind fun (z_25, z_26, z_27) =>
            if z_25 = 0 ∨ z_25 = 1 then some (z_25, z_26, z_27, w0_5, w4_a, w5_a, w6_a) else none
        else
        f_FP_readTypes_58 nf w0_0 w0_1 w0_5 w4_a w5_a w6_a
def f_FP_readTypes_0 (nf : Nat) (tpS : Int32) (tpN : Nat) (tpA : Nat → Int32) (zTyc : Int32) (fCountsA : Nat → Int64) (w0_0 : Int32) (w0_1 : Int32) (w0_5 : Int32) (w4_a : Nat → Int32) (w5_a : Nat → Int32) (w6_a : Nat → Int32) : Option (Int32 × Int32 × Int32 × Int32 × (Nat → Int32) × (Nat → Int32) × (Nat → Int32)) :=
  (f_FP_hasMore nf (6 * zTyc) w0_0 w0_1 w0_5 tpS).bind fun (z_1, z_2, z_3) =>
  if z_1 = 0 then
  some (0, z_2, z_3, w0_5, w4_a, w5_a, w6_a)
  else
  f_FP_readTypes_21 nf tpS tpN tpA zTyc fCountsA nf 0 z_2 z_3 w0_5 w4_a w5_a w6_a
def f_FP_readTypes (nf : Nat) (fFault : Int32) (fPlace : Int32) (fPos : Int32) (tpS : Int32) (tpN : Nat) (tpA : Nat → Int32) (zTyc : Int32) (zOfA : Nat → Int32) (zDsA : Nat → Int32) (zIxA : Nat → Int32) (fCountsA : Nat → Int64) : Option (Int32 × Int32 × Int32 × Int32 × (Nat → Int32) × (Nat → Int32) × (Nat → Int32)) :=
  f_FP_readTypes_0 nf tpS tpN tpA zTyc fCountsA fFault fPlace fPos zOfA zDsA zIxA
section
variable {p : Program} {l : Launch} {e : Env} {R : Room} {s : State} {m : MethodId} {args : Array Value} {below : List Frame} {meth : Method} {c : Code} {Q : State → Prop} {dC : Nat → ClassId} {dI : Nat → Nat → Nat} {nf : Nat} {A : Nat → Prop}
variable {h0 : Nat} {fTape : Nat} {fZone : Nat} {fCounts : Nat} {tpR : Nat} {zTi : Nat} {zTt : Nat} {zOf : Nat} {zDs : Nat} {zIx : Nat} {zSd : Nat} {zUt : Nat} {zCh : Nat} {zLt : Nat} {zLo : Nat} {zRu : Nat} {cAtpR : ClassId} {cAzOf : ClassId} {cAzDs : ClassId} {cAzIx : ClassId} {cAfCounts : ClassId} {fFault : Int32} {fPlace : Int32} {fPos : Int32} {fText : Int32} {tpS : Int32} {tpN : Nat} {tpA : Nat → Int32} {zVer : Int32} {zTic : Int32} {zTyc : Int32} {zLec : Int32} {zStc : Int32} {zUtc : Int32} {zOfA : Nat → Int32} {zDsA : Nat → Int32} {zIxA : Nat → Int32} {fCountsA : Nat → Int64} {r0 : Int32} {v0_0 : Int32} {v0_1 : Int32} {v0_5 : Int32} {v4_a : Nat → Int32} {v5_a : Nat → Int32} {v6_a : Nat → Int32}
set_option maxHeartbeats 400000 in
set_option maxRecDepth 100000 in
theorem k_FP_readTypes_58 (C0 : Cx p s m meth c args R b_FP_readTypes "ZoneFiles$FileParser" 5 (some .boolean) 2 46) (hST : ST A s s.heap) (hA : ∀ q, s.heap.size ≤ q → A q) (hE : ∀ (pc : Nat) (ls : Array Slot) {q2 : Nat} {nA2 : ClassId} (H : Heap) (locs : List Loc), decode b_FP_readTypes pc = .ok (.ireturn, 1) → narrow .boolean (.int r0) = .int r0 → va_P (dC, dI) classes [(h0, .inr (3, [.int v0_0, .int v0_1, .ref fTape, .ref fZone, .ref fCounts, .int v0_5, .int fText])), (fTape, .inr (0, [.ref q2, .int tpS])), (q2, .inl (nA2, tpN, .inl tpA)), (fZone, .inr (8, [.int zVer, .int zTic, .int zTyc, .int zLec, .int zStc, .int zUtc, .ref zTi, .ref zTt, .ref zOf, .ref zDs, .ref zIx, .ref zSd, .ref zUt, .ref zCh, .ref zLt, .ref zLo, .ref zRu])), (zOf, .inl (cAzOf, 40, .inl v4_a)), (zDs, .inl (cAzDs, 40, .inl v5_a)), (zIx, .inl (cAzIx, 40, .inl v6_a)), (fCounts, .inl (cAfCounts, 6, .inr (.inl fCountsA)))] H → va_D A [(h0, .inr (3, [.int v0_0, .int v0_1, .ref fTape, .ref fZone, .ref fCounts, .int v0_5, .int fText])), (fTape, .inr (0, [.ref q2, .int tpS])), (q2, .inl (nA2, tpN, .inl tpA)), (fZone, .inr (8, [.int zVer, .int zTic, .int zTyc, .int zLec, .int zStc, .int zUtc, .ref zTi, .ref zTt, .ref zOf, .ref zDs, .ref zIx, .ref zSd, .ref zUt, .ref zCh, .ref zLt, .ref zLo, .ref zRu])), (zOf, .inl (cAzOf, 40, .inl v4_a)), (zDs, .inl (cAzDs, 40, .inl v5_a)), (zIx, .inl (cAzIx, 40, .inl v6_a)), (fCounts, .inl (cAfCounts, 6, .inr (.inl fCountsA)))] → va_S A s.heap H locs → va_K (dC, dI) classes [(nA2, .byte), (cAzOf, .int), (cAzDs, .int), (cAzIx, .int), (cAfCounts, .long)] s → W p l e R s m args below meth c H locs 0 0 Q (F0 m pc ls [.int r0])) {w0_0 : Int32} {w0_1 : Int32} {w0_5 : Int32} {w4_a : Nat → Int32} {w5_a : Nat → Int32} {w6_a : Nat → Int32} (hf : f_FP_readTypes_58 nf w0_0 w0_1 w0_5 w4_a w5_a w6_a = some (r0, v0_0, v0_1, v0_5, v4_a, v5_a, v6_a)) {q2 : Nat} {nA2 : ClassId} {H : Heap} {locs : List Loc} {ls : Array Slot} (hK : va_K (dC, dI) classes [(nA2, .byte), (cAzOf, .int), (cAzDs, .int), (cAzIx, .int), (cAfCounts, .long)] s) (hP : va_P (dC, dI) classes [(h0, .inr (3, [.int w0_0, .int w0_1, .ref fTape, .ref fZone, .ref fCounts, .int w0_5, .int fText])), (fTape, .inr (0, [.ref q2, .int tpS])), (q2, .inl (nA2, tpN, .inl tpA)), (fZone, .inr (8, [.int zVer, .int zTic, .int zTyc, .int zLec, .int zStc, .int zUtc, .ref zTi, .ref zTt, .ref zOf, .ref zDs, .ref zIx, .ref zSd, .ref zUt, .ref zCh, .ref zLt, .ref zLo, .ref zRu])), (zOf, .inl (cAzOf, 40, .inl w4_a)), (zDs, .inl (cAzDs, 40, .inl w5_a)), (zIx, .inl (cAzIx, 40, .inl w6_a)), (fCounts, .inl (cAfCounts, 6, .inr (.inl fCountsA)))] H) (hD : va_D A [(h0, .inr (3, [.int w0_0, .int w0_1, .ref fTape, .ref fZone, .ref fCounts, .int w0_5, .int fText])), (fTape, .inr (0, [.ref q2, .int tpS])), (q2, .inl (nA2, tpN, .inl tpA)), (fZone, .inr (8, [.int zVer, .int zTic, .int zTyc, .int zLec, .int zStc, .int zUtc, .ref zTi, .ref zTt, .ref zOf, .ref zDs, .ref zIx, .ref zSd, .ref zUt, .ref zCh, .ref zLt, .ref zLo, .ref zRu])), (zOf, .inl (cAzOf, 40, .inl w4_a)), (zDs, .inl (cAzDs, 40, .inl w5_a)), (zIx, .inl (cAzIx, 40, .inl w6_a)), (fCounts, .inl (cAfCounts, 6, .inr (.inl fCountsA)))]) (hS : va_S A s.heap H locs) (hl : lv_has ls 5 [(0, .ref h0)]) : W p l e R s m args below meth c H locs 0 0 Q (F0 m 58 ls []) := by
  obtain ⟨hx, hb, hr, hml, hown, hts, hlocks, hRf, hRl⟩ := id C0
  obtain ⟨tms, hZms, hTms, tmg, hZmg, hTmg, hNW⟩ := id hST
  unfold f_FP_readTypes_58 at hf
  refine lv_aload_n hx hb d_FP_readTypes_58 rfl (lv_at hl 0 rfl) ?_
  refine lv_bipush (v := 7) hx hb d_FP_readTypes_59 (by decide) ?_
  refine lv_aload_n hx hb d_FP_readTypes_61 rfl (lv_at hl 0 rfl) ?_
  refine va_get (D := (dC, dI)) (ci := 3) (v := .int w0_5) (C := RFileParser) (T := TFileParser) (N := 7) hx hb hts in_FileParser hown hK hP 0 rfl rfl 5 (by decide) (hts (.fieldLink "ZoneFiles$FileParser" 44 "ZoneFiles$FileParser" "pos" "I") m_3_163) (fun _ h9 => h9) rfl d_FP_readTypes_62 ?_
  obtain ⟨⟨z_8, z_9, z_10⟩, hc, hf⟩ := ob hf
  have hPc := hP.sub (ws' := [(h0, .inr (3, [.int w0_0, .int w0_1, .ref fTape, .ref fZone, .ref fCounts, .int w0_5, .int fText]))]) [0] rfl
  have hDc := hD.sub (ws' := [(h0, .inr (3, [.int w0_0, .int w0_1, .ref fTape, .ref fZone, .ref fCounts, .int w0_5, .int fText]))]) [0] (by decide) rfl
  have hKc := hK.sub (tys' := []) [] rfl
  have hFc := va_free (wc := [(h0, .inr (3, [.int w0_0, .int w0_1, .ref fTape, .ref fZone, .ref fCounts, .int w0_5, .int fText]))]) hD hS hA [0] rfl
  refine cl_M (v := (some (.int z_8))) (st1 := [.int z_8]) (va_runV (As := [.int 7, .int w0_5]) (rest := []) ⟨hx, hb, hml, hown, hts⟩ (c_FP_fail l dC dI h0 fTape fZone fCounts H.size nf 7 w0_5 w0_0 w0_1 w0_5 fText hc) (cwV 2 hts (gdV m_3_191 m_3_193 msel_16 m_1_16 m_3_194) rfl rfl rfl (by decide +kernel) ⟨Nat.le_trans (Nat.le_of_ble_eq_true rfl) hRf, Nat.le_trans (Nat.le_of_ble_eq_true rfl) hRl⟩) ((MU.pre hPc hKc hDc (hST.mu hS hFc)).vir (va_recv hKc hPc (ci := 3) (q0 := 0) rfl rfl)) rfl rfl hl.1 rfl (lv_room (Nat.le_of_ble_eq_true rfl)) d_FP_readTypes_65 ⟨Nat.zero_le _, Nat.zero_le _⟩) rfl hS (fun q _ h => hFc q h) hFc (fun t H1 locs ht hvm hB hz1 hk1 hS => ?_)
  obtain ⟨hP1, hK1, hD1⟩ := hB
  rw [ht] at hP1
  have hK1 := va_K.moved hvm.symm hK1
  obtain ⟨hP, hD⟩ := va_join (wr := [(fTape, .inr (0, [.ref q2, .int tpS])), (q2, .inl (nA2, tpN, .inl tpA)), (fZone, .inr (8, [.int zVer, .int zTic, .int zTyc, .int zLec, .int zStc, .int zUtc, .ref zTi, .ref zTt, .ref zOf, .ref zDs, .ref zIx, .ref zSd, .ref zUt, .ref zCh, .ref zLt, .ref zLo, .ref zRu])), (zOf, .inl (cAzOf, 40, .inl w4_a)), (zDs, .inl (cAzDs, 40, .inl w5_a)), (zIx, .inl (cAzIx, 40, .inl w6_a)), (fCounts, .inl (cAfCounts, 6, .inr (.inl fCountsA)))]) (w1 := [(h0, .inr (3, [.int z_9, .int z_10, .ref fTape, .ref fZone, .ref fCounts, .int w0_5, .int fText]))]) hP hD [0] [1, 2, 3, 4, 5, 6, 7] rfl rfl (by decide) (by decide) hk1 hFc hP1 hD1
  have hK := (hK.sub (tys' := [(nA2, .byte), (cAzOf, .int), (cAzDs, .int), (cAzIx, .int), (cAfCounts, .long)]) [0, 1, 2, 3, 4] rfl).app hK1
  generalize H1 = H at hP hS ⊢
  have hP := hP.sub (ws' := [(h0, .inr (3, [.int z_9, .int z_10, .ref fTape, .ref fZone, .ref fCounts, .int w0_5, .int fText])), (fTape, .inr (0, [.ref q2, .int tpS])), (q2, .inl (nA2, tpN, .inl tpA)), (fZone, .inr (8, [.int zVer, .int zTic, .int zTyc, .int zLec, .int zStc, .int zUtc, .ref zTi, .ref zTt, .ref zOf, .ref zDs, .ref zIx, .ref zSd, .ref zUt, .ref zCh, .ref zLt, .ref zLo, .ref zRu])), (zOf, .inl (cAzOf, 40, .inl w4_a)), (zDs, .inl (cAzDs, 40, .inl w5_a)), (zIx, .inl (cAzIx, 40, .inl w6_a)), (fCounts, .inl (cAfCounts, 6, .inr (.inl fCountsA)))]) [7, 0, 1, 2, 3, 4, 5, 6] rfl
  have hD := hD.sub (ws' := [(h0, .inr (3, [.int z_9, .int z_10, .ref fTape, .ref fZone, .ref fCounts, .int w0_5, .int fText])), (fTape, .inr (0, [.ref q2, .int tpS])), (q2, .inl (nA2, tpN, .inl tpA)), (fZone, .inr (8, [.int zVer, .int zTic, .int zTyc, .int zLec, .int zStc, .int zUtc, .ref zTi, .ref zTt, .ref zOf, .ref zDs, .ref zIx, .ref zSd, .ref zUt, .ref zCh, .ref zLt, .ref zLo, .ref zRu])), (zOf, .inl (cAzOf, 40, .inl w4_a)), (zDs, .inl (cAzDs, 40, .inl w5_a)), (zIx, .inl (cAzIx, 40, .inl w6_a)), (fCounts, .inl (cAfCounts, 6, .inr (.inl fCountsA)))]) [7, 0, 1, 2, 3, 4, 5, 6] (by decide) rfl
  have hK := hK.sub (tys' := [(nA2, .byte), (cAzOf, .int), (cAzDs, .int), (cAzIx, .int), (cAfCounts, .long)]) [0, 1, 2, 3, 4] rfl
  obtain ⟨c_11, hf⟩ := it_g hf
  cases rs hf
  exact hE _ _ _ _ d_FP_readTypes_68 (nb_of c_11) hP hD hS hK
set_option maxHeartbeats 400000 in
set_option maxRecDepth 100000 in
theorem k_FP_readTypes_21 (C0 : Cx p s m meth c args R b_FP_readTypes "ZoneFiles$FileParser" 5 (some .boolean) 2 46) (hST : ST A s s.heap) (hA : ∀ q, s.heap.size ≤ q → A q) (hE : ∀ (pc : Nat) (ls : Array Slot) {q2 : Nat} {nA2 : ClassId} (H : Heap) (locs : List Loc), decode b_FP_readTypes pc = .ok (.ireturn, 1) → narrow .boolean (.int r0) = .int r0 → va_P (dC, dI) classes [(h0, .inr (3, [.int v0_0, .int v0_1, .ref fTape, .ref fZone, .ref fCounts, .int v0_5, .int fText])), (fTape, .inr (0, [.ref q2, .int tpS])), (q2, .inl (nA2, tpN, .inl tpA)), (fZone, .inr (8, [.int zVer, .int zTic, .int zTyc, .int zLec, .int zStc, .int zUtc, .ref zTi, .ref zTt, .ref zOf, .ref zDs, .ref zIx, .ref zSd, .ref zUt, .ref zCh, .ref zLt, .ref zLo, .ref zRu])), (zOf, .inl (cAzOf, 40, .inl v4_a)), (zDs, .inl (cAzDs, 40, .inl v5_a)), (zIx, .inl (cAzIx, 40, .inl v6_a)), (fCounts, .inl (cAfCounts, 6, .inr (.inl fCountsA)))] H → va_D A [(h0, .inr (3, [.int v0_0, .int v0_1, .ref fTape, .ref fZone, .ref fCounts, .int v0_5, .int fText])), (fTape, .inr (0, [.ref q2, .int tpS])), (q2, .inl (nA2, tpN, .inl tpA)), (fZone, .inr (8, [.int zVer, .int zTic, .int zTyc, .int zLec, .int zStc, .int zUtc, .ref zTi, .ref zTt, .ref zOf, .ref zDs, .ref zIx, .ref zSd, .ref zUt, .ref zCh, .ref zLt, .ref zLo, .ref zRu])), (zOf, .inl (cAzOf, 40, .inl v4_a)), (zDs, .inl (cAzDs, 40, .inl v5_a)), (zIx, .inl (cAzIx, 40, .inl v6_a)), (fCounts, .inl (cAfCounts, 6, .inr (.inl fCountsA)))] → va_S A s.heap H locs → va_K (dC, dI) classes [(nA2, .byte), (cAzOf, .int), (cAzDs, .int), (cAzIx, .int), (cAfCounts, .long)] s → W p l e R s m args below meth c H locs 0 0 Q (F0 m pc ls [.int r0])) : ∀ (n : Nat) {x1 : Int32} {w0_0 : Int32} {w0_1 : Int32} {w0_5 : Int32} {w4_a : Nat → Int32} {w5_a : Nat → Int32} {w6_a : Nat → Int32}, f_FP_readTypes_21 nf tpS tpN tpA zTyc fCountsA n x1 w0_0 w0_1 w0_5 w4_a w5_a w6_a = some (r0, v0_0, v0_1, v0_5, v4_a, v5_a, v6_a) → ∀ {q2 : Nat} {nA2 : ClassId} {H : Heap} {locs : List Loc} {ls : Array Slot}, va_K (dC, dI) classes [(nA2, .byte), (cAzOf, .int), (cAzDs, .int), (cAzIx, .int), (cAfCounts, .long)] s → va_P (dC, dI) classes [(h0, .inr (3, [.int w0_0, .int w0_1, .ref fTape, .ref fZone, .ref fCounts, .int w0_5, .int fText])), (fTape, .inr (0, [.ref q2, .int tpS])), (q2, .inl (nA2, tpN, .inl tpA)), (fZone, .inr (8, [.int zVer, .int zTic, .int zTyc, .int zLec, .int zStc, .int zUtc, .ref zTi, .ref zTt, .ref zOf, .ref zDs, .ref zIx, .ref zSd, .ref zUt, .ref zCh, .ref zLt, .ref zLo, .ref zRu])), (zOf, .inl (cAzOf, 40, .inl w4_a)), (zDs, .inl (cAzDs, 40, .inl w5_a)), (zIx, .inl (cAzIx, 40, .inl w6_a)), (fCounts, .inl (cAfCounts, 6, .inr (.inl fCountsA)))] H → va_D A [(h0, .inr (3, [.int w0_0, .int w0_1, .ref fTape, .ref fZone, .ref fCounts, .int w0_5, .int fText])), (fTape, .inr (0, [.ref q2, .int tpS])), (q2, .inl (nA2, tpN, .inl tpA)), (fZone, .inr (8, [.int zVer, .int zTic, .int zTyc, .int zLec, .int zStc, .int zUtc, .ref zTi, .ref zTt, .ref zOf, .ref zDs, .ref zIx, .ref zSd, .ref zUt, .ref zCh, .ref zLt, .ref zLo, .ref zRu])), (zOf, .inl (cAzOf, 40, .inl w4_a)), (zDs, .inl (cAzDs, 40, .inl w5_a)), (zIx, .inl (cAzIx, 40, .inl w6_a)), (fCounts, .inl (cAfCounts, 6, .inr (.inl fCountsA)))] → va_S A s.heap H locs → lv_has ls 5 [(1, .int x1), (0, .ref h0)] → W p l e R s m args below meth c H locs 0 0 Q (F0 m 21 ls []) := by
  obtain ⟨hx, hb, hr, hml, hown, hts, hlocks, hRf, hRl⟩ := id C0
  obtain ⟨tms, hZms, hTms, tmg, hZmg, hTmg, hNW⟩ := id hST
  intro n
  induction n with
  | zero =>
    intro x1 w0_0 w0_1 w0_5 w4_a w5_a w6_a hf
    exact absurd hf (by simp [f_FP_readTypes_21])
  | succ n ih =>
    intro x1 w0_0 w0_1 w0_5 w4_a w5_a w6_a hf q2 nA2 H locs ls hK hP hD hS hl
    unfold f_FP_readTypes_21 at hf
    refine lv_iload_n hx hb d_FP_readTypes_21 rfl (lv_at hl 0 rfl) ?_
    refine lv_aload_n hx hb d_FP_readTypes_22 rfl (lv_at hl 1 rfl) ?_
    refine va_get (D := (dC, dI)) (ci := 3) (v := .ref fZone) (C := RFileParser) (T := TFileParser) (N := 7) hx hb hts in_FileParser hown hK hP 0 rfl rfl 3 (by decide) (hts (.fieldLink "ZoneFiles$FileParser" 15 "ZoneFiles$FileParser" "zone" "LZoneFiles$Zone;") m_3_161) (fun _ h9 => h9) rfl d_FP_readTypes_23 ?_
    refine va_get (D := (dC, dI)) (ci := 8) (v := .int zTyc) (C := RZone) (T := TZone) (N := 17) hx hb hts in_Zone hown hK hP 3 rfl rfl 2 (by decide) (hts (.fieldLink "ZoneFiles$FileParser" 126 "ZoneFiles$Zone" "typeCount" "I") m_1_173) (fun _ h9 => h9) rfl d_FP_readTypes_26 ?_
    refine lv_icmp_ge (tgt := 187) hx hb d_FP_readTypes_29 (by decide) (fun c_5 => ?_) (fun c_5 => ?_)
    · have hf := it_t c_5 hf
      refine lv_iconst (v := 1) hx hb d_FP_readTypes_187 (by decide) ?_
      cases rs hf
      exact hE _ _ _ _ d_FP_readTypes_188 rfl hP hD hS hK
    · have hf := it_f c_5 hf
      refine lv_aload_n hx hb d_FP_readTypes_32 rfl (lv_at hl 1 rfl) ?_
      refine va_get (D := (dC, dI)) (ci := 3) (v := .ref fTape) (C := RFileParser) (T := TFileParser) (N := 7) hx hb hts in_FileParser hown hK hP 0 rfl rfl 2 (by decide) (hts (.fieldLink "ZoneFiles$FileParser" 9 "ZoneFiles$FileParser" "tape" "LZoneFiles$Bytes;") m_3_160) (fun _ h9 => h9) rfl d_FP_readTypes_33 ?_
      refine lv_aload_n hx hb d_FP_readTypes_36 rfl (lv_at hl 1 rfl) ?_
      refine va_get (D := (dC, dI)) (ci := 3) (v := .int w0_5) (C := RFileParser) (T := TFileParser) (N := 7) hx hb hts in_FileParser hown hK hP 0 rfl rfl 5 (by decide) (hts (.fieldLink "ZoneFiles$FileParser" 44 "ZoneFiles$FileParser" "pos" "I") m_3_163) (fun _ h9 => h9) rfl d_FP_readTypes_37 ?_
      refine lv_iconst (v := 4) hx hb d_FP_readTypes_40 (by decide) ?_
      obtain ⟨r_6, hc, hf⟩ := ob hf
      refine cl_S (v := (some (.long r_6))) (st1 := [.long r_6]) (va_runV (As := [.int w0_5, .int 4]) (rest := []) ⟨hx, hb, hml, hown, hts⟩ (c_By_signedAt l dC dI fTape q2 nA2 nf w0_5 4 tpS tpN tpA hc) (cwV 2 hts (gdV m_3_231 m_3_208 m_3_209 m_1_2 m_3_210) rfl rfl rfl (by decide +kernel) ⟨Nat.le_trans (Nat.le_of_ble_eq_true rfl) hRf, Nat.le_trans (Nat.le_of_ble_eq_true rfl) hRl⟩) ((RO.pre (hP.sub (ws' := [(fTape, .inr (0, [.ref q2, .int tpS])), (q2, .inl (nA2, tpN, .inl tpA))]) [1, 2] rfl) (hK.sub (tys' := [(nA2, .byte)]) [0] rfl) (hST.ro hS)).vir (va_recv (hK.sub (tys' := [(nA2, .byte)]) [0] rfl) (hP.sub (ws' := [(fTape, .inr (0, [.ref q2, .int tpS])), (q2, .inl (nA2, tpN, .inl tpA))]) [1, 2] rfl) (ci := 0) (q0 := 0) rfl rfl)) rfl rfl hl.1 rfl (lv_room (Nat.le_of_ble_eq_true rfl)) d_FP_readTypes_41 ⟨Nat.zero_le _, Nat.zero_le _⟩) rfl ?_
      refine lv_l2i hx hb d_FP_readTypes_44 rfl ?_
      refine lv_istore_n (lv' := [(2, .int r_6.toInt32), (1, .int x1), (0, .ref h0)]) hx hb d_FP_readTypes_45 rfl hl (by decide) rfl (fun ls hl => ?_)
      refine lv_iload_n hx hb d_FP_readTypes_46 rfl (lv_at hl 0 rfl) ?_
      refine lv_ldc (v := (-89999)) hx hb hown (hts (.constant "ZoneFiles$FileParser" 167 (-89999)) m_4_5) d_FP_readTypes_47 ?_
      refine lv_icmp_lt (tgt := 58) hx hb d_FP_readTypes_49 (by decide) (fun c_7 => ?_) (fun c_7 => ?_)
      · have hf := it_t c_7 hf
        exact k_FP_readTypes_58 C0 hST hA hE hf hK hP hD hS (lv_sub hl [2] rfl)
      · have hf := it_f c_7 hf
        refine lv_iload_n hx hb d_FP_readTypes_52 rfl (lv_at hl 0 rfl) ?_
        refine lv_ldc (v := 93599) hx hb hown (hts (.constant "ZoneFiles$FileParser" 168 93599) m_4_6) d_FP_readTypes_53 ?_
        refine lv_icmp_le (tgt := 69) hx hb d_FP_readTypes_55 (by decide) (fun c_12 => ?_) (fun c_12 => ?_)
        · have hf := it_t c_12 hf
          refine lv_aload_n hx hb d_FP_readTypes_69 rfl (lv_at hl 2 rfl) ?_
          refine va_get (D := (dC, dI)) (ci := 3) (v := .ref fTape) (C := RFileParser) (T := TFileParser) (N := 7) hx hb hts in_FileParser hown hK hP 0 rfl rfl 2 (by decide) (hts (.fieldLink "ZoneFiles$FileParser" 9 "ZoneFiles$FileParser" "tape" "LZoneFiles$Bytes;") m_3_160) (fun _ h9 => h9) rfl d_FP_readTypes_70 ?_
          refine lv_aload_n hx hb d_FP_readTypes_73 rfl (lv_at hl 2 rfl) ?_
          refine va_get (D := (dC, dI)) (ci := 3) (v := .int w0_5) (C := RFileParser) (T := TFileParser) (N := 7) hx hb hts in_FileParser hown hK hP 0 rfl rfl 5 (by decide) (hts (.fieldLink "ZoneFiles$FileParser" 44 "ZoneFiles$FileParser" "pos" "I") m_3_163) (fun _ h9 => h9) rfl d_FP_readTypes_74 ?_
          refine lv_iconst (v := 4) hx hb d_FP_readTypes_77 (by decide) ?_
          refine lv_iadd hx hb d_FP_readTypes_78 ?_
          obtain ⟨r_13, hc, hf⟩ := ob hf
          refine cl_S (v := (some (.int r_13))) (st1 := [.int r_13]) (va_runV (As := [.int (w0_5 + 4)]) (rest := []) ⟨hx, hb, hml, hown, hts⟩ (c_By_get l dC dI fTape q2 nA2 nf (w0_5 + 4) tpS tpN tpA hc) (cwV 1 hts (gdV m_3_190 m_2_71 m_2_72 m_1_2 m_2_73) rfl rfl rfl (by decide +kernel) ⟨Nat.le_trans (Nat.le_of_ble_eq_true rfl) hRf, Nat.le_trans (Nat.le_of_ble_eq_true rfl) hRl⟩) ((RO.pre (hP.sub (ws' := [(fTape, .inr (0, [.ref q2, .int tpS])), (q2, .inl (nA2, tpN, .inl tpA))]) [1, 2] rfl) (hK.sub (tys' := [(nA2, .byte)]) [0] rfl) (hST.ro hS)).vir (va_recv (hK.sub (tys' := [(nA2, .byte)]) [0] rfl) (hP.sub (ws' := [(fTape, .inr (0, [.ref q2, .int tpS])), (q2, .inl (nA2, tpN, .inl tpA))]) [1, 2] rfl) (ci := 0) (q0 := 0) rfl rfl)) rfl rfl hl.1 rfl (lv_room (Nat.le_of_ble_eq_true rfl)) d_FP_readTypes_79 ⟨Nat.zero_le _, Nat.zero_le _⟩) rfl ?_
          refine lv_istore_n (lv' := [(3, .int r_13), (2, .int r_6.toInt32), (1, .int x1), (0, .ref h0)]) hx hb d_FP_readTypes_82 rfl hl (by decide) rfl (fun ls hl => ?_)
          refine lv_iload_n hx hb d_FP_readTypes_83 rfl (lv_at hl 0 rfl) ?_
          refine lv_iconst (v := 1) hx hb d_FP_readTypes_84 (by decide) ?_
          refine lv_icmp_le (tgt := 101) hx hb d_FP_readTypes_85 (by decide) (fun c_14 => ?_) (fun c_14 => ?_)
          · have hf := it_t c_14 hf
            refine lv_aload_n hx hb d_FP_readTypes_101 rfl (lv_at hl 3 rfl) ?_
            refine va_get (D := (dC, dI)) (ci := 3) (v := .ref fTape) (C := RFileParser) (T := TFileParser) (N := 7) hx hb hts in_FileParser hown hK hP 0 rfl rfl 2 (by decide) (hts (.fieldLink "ZoneFiles$FileParser" 9 "ZoneFiles$FileParser" "tape" "LZoneFiles$Bytes;") m_3_160) (fun _ h9 => h9) rfl d_FP_readTypes_102 ?_
            refine lv_aload_n hx hb d_FP_readTypes_105 rfl (lv_at hl 3 rfl) ?_
            refine va_get (D := (dC, dI)) (ci := 3) (v := .int w0_5) (C := RFileParser) (T := TFileParser) (N := 7) hx hb hts in_FileParser hown hK hP 0 rfl rfl 5 (by decide) (hts (.fieldLink "ZoneFiles$FileParser" 44 "ZoneFiles$FileParser" "pos" "I") m_3_163) (fun _ h9 => h9) rfl d_FP_readTypes_106 ?_
            refine lv_iconst (v := 5) hx hb d_FP_readTypes_109 (by decide) ?_
            refine lv_iadd hx hb d_FP_readTypes_110 ?_
            obtain ⟨r_15, hc, hf⟩ := ob hf
            refine cl_S (v := (some (.int r_15))) (st1 := [.int r_15]) (va_runV (As := [.int (w0_5 + 5)]) (rest := []) ⟨hx, hb, hml, hown, hts⟩ (c_By_get l dC dI fTape q2 nA2 nf (w0_5 + 5) tpS tpN tpA hc) (cwV 1 hts (gdV m_3_190 m_2_71 m_2_72 m_1_2 m_2_73) rfl rfl rfl (by decide +kernel) ⟨Nat.le_trans (Nat.le_of_ble_eq_true rfl) hRf, Nat.le_trans (Nat.le_of_ble_eq_true rfl) hRl⟩) ((RO.pre (hP.sub (ws' := [(fTape, .inr (0, [.ref q2, .int tpS])), (q2, .inl (nA2, tpN, .inl tpA))]) [1, 2] rfl) (hK.sub (tys' := [(nA2, .byte)]) [0] rfl) (hST.ro hS)).vir (va_recv (hK.sub (tys' := [(nA2, .byte)]) [0] rfl) (hP.sub (ws' := [(fTape, .inr (0, [.ref q2, .int tpS])), (q2, .inl (nA2, tpN, .inl tpA))]) [1, 2] rfl) (ci := 0) (q0 := 0) rfl rfl)) rfl rfl hl.1 rfl (lv_room (Nat.le_of_ble_eq_true rfl)) d_FP_readTypes_111 ⟨Nat.zero_le _, Nat.zero_le _⟩) rfl ?_
            refine lv_istore (lv' := [(4, .int r_15), (3, .int r_13), (2, .int r_6.toInt32), (1, .int x1), (0, .ref h0)]) hx hb d_FP_readTypes_114 hl (by decide) rfl (fun ls hl => ?_)
            refine lv_iload hx hb d_FP_readTypes_116 (lv_at hl 0 rfl) ?_
            refine lv_aload_n hx hb d_FP_readTypes_118 rfl (lv_at hl 4 rfl) ?_
            refine lv_iconst (v := 5) hx hb d_FP_readTypes_119 (by decide) ?_
            obtain ⟨r_16, hc, hf⟩ := ob hf
            refine cl_S (v := (some (.int r_16))) (st1 := [.int r_16, .int r_15]) (va_runV (As := [.int 5]) (rest := [.int r_15]) ⟨hx, hb, hml, hown, hts⟩ (c_FP_count l dC dI h0 fTape fZone fCounts cAfCounts nf 5 w0_0 w0_1 w0_5 fText fCountsA hc) (cwV 1 hts (gdV m_3_223 m_3_225 msel_21 m_1_16 m_3_226) rfl rfl rfl (by decide +kernel) ⟨Nat.le_trans (Nat.le_of_ble_eq_true rfl) hRf, Nat.le_trans (Nat.le_of_ble_eq_true rfl) hRl⟩) ((RO.pre (hP.sub (ws' := [(h0, .inr (3, [.int w0_0, .int w0_1, .ref fTape, .ref fZone, .ref fCounts, .int w0_5, .int fText])), (fCounts, .inl (cAfCounts, 6, .inr (.inl fCountsA)))]) [0, 7] rfl) (hK.sub (tys' := [(cAfCounts, .long)]) [4] rfl) (hST.ro hS)).vir (va_recv (hK.sub (tys' := [(cAfCounts, .long)]) [4] rfl) (hP.sub (ws' := [(h0, .inr (3, [.int w0_0, .int w0_1, .ref fTape, .ref fZone, .ref fCounts, .int w0_5, .int fText])), (fCounts, .inl (cAfCounts, 6, .inr (.inl fCountsA)))]) [0, 7] rfl) (ci := 3) (q0 := 0) rfl rfl)) rfl rfl hl.1 rfl (lv_room (Nat.le_of_ble_eq_true rfl)) d_FP_readTypes_120 ⟨Nat.zero_le _, Nat.zero_le _⟩) rfl ?_
            refine lv_icmp_lt (tgt := 139) hx hb d_FP_readTypes_123 (by decide) (fun c_17 => ?_) (fun c_17 => ?_)
            · have hf := it_t c_17 hf
              refine lv_aload_n hx hb d_FP_readTypes_139 rfl (lv_at hl 4 rfl) ?_
              refine va_get (D := (dC, dI)) (ci := 3) (v := .ref fZone) (C := RFileParser) (T := TFileParser) (N := 7) hx hb hts in_FileParser hown hK hP 0 rfl rfl 3 (by decide) (hts (.fieldLink "ZoneFiles$FileParser" 15 "ZoneFiles$FileParser" "zone" "LZoneFiles$Zone;") m_3_161) (fun _ h9 => h9) rfl d_FP_readTypes_140 ?_
              refine va_get (D := (dC, dI)) (ci := 8) (v := .ref zOf) (C := RZone) (T := TZone) (N := 17) hx hb hts in_Zone hown hK hP 3 rfl rfl 8 (by decide) (hts (.fieldLink "ZoneFiles$FileParser" 169 "ZoneFiles$Zone" "offsets" "[I") m_1_197) (fun _ h9 => h9) rfl d_FP_readTypes_143 ?_
              refine lv_iload_n hx hb d_FP_readTypes_146 rfl (lv_at hl 3 rfl) ?_
              refine lv_iload_n hx hb d_FP_readTypes_147 rfl (lv_at hl 2 rfl) ?_
              obtain ⟨c_18, hf⟩ := it_n hf
              refine va_iast hx hb hK hP hD hS 4 1 rfl rfl c_18 d_FP_readTypes_148 (fun H locs hP hD hS => ?_)
              have hP : va_P (dC, dI) classes [(h0, .inr (3, [.int w0_0, .int w0_1, .ref fTape, .ref fZone, .ref fCounts, .int w0_5, .int fText])), (fTape, .inr (0, [.ref q2, .int tpS])), (q2, .inl (nA2, tpN, .inl tpA)), (fZone, .inr (8, [.int zVer, .int zTic, .int zTyc, .int zLec, .int zStc, .int zUtc, .ref zTi, .ref zTt, .ref zOf, .ref zDs, .ref zIx, .ref zSd, .ref zUt, .ref zCh, .ref zLt, .ref zLo, .ref zRu])), (zOf, .inl (cAzOf, 40, .inl (upd w4_a x1.toNatClampNeg r_6.toInt32))), (zDs, .inl (cAzDs, 40, .inl w5_a)), (zIx, .inl (cAzIx, 40, .inl w6_a)), (fCounts, .inl (cAfCounts, 6, .inr (.inl fCountsA)))] H := hP
              have hD : va_D A [(h0, .inr (3, [.int w0_0, .int w0_1, .ref fTape, .ref fZone, .ref fCounts, .int w0_5, .int fText])), (fTape, .inr (0, [.ref q2, .int tpS])), (q2, .inl (nA2, tpN, .inl tpA)), (fZone, .inr (8, [.int zVer, .int zTic, .int zTyc, .int zLec, .int zStc, .int zUtc, .ref zTi, .ref zTt, .ref zOf, .ref zDs, .ref zIx, .ref zSd, .ref zUt, .ref zCh, .ref zLt, .ref zLo, .ref zRu])), (zOf, .inl (cAzOf, 40, .inl (upd w4_a x1.toNatClampNeg r_6.toInt32))), (zDs, .inl (cAzDs, 40, .inl w5_a)), (zIx, .inl (cAzIx, 40, .inl w6_a)), (fCounts, .inl (cAfCounts, 6, .inr (.inl fCountsA)))] := hD
              refine lv_aload_n hx hb d_FP_readTypes_149 rfl (lv_at hl 4 rfl) ?_
              refine va_get (D := (dC, dI)) (ci := 3) (v := .ref fZone) (C := RFileParser) (T := TFileParser) (N := 7) hx hb hts in_FileParser hown hK hP 0 rfl rfl 3 (by decide) (hts (.fieldLink "ZoneFiles$FileParser" 15 "ZoneFiles$FileParser" "zone" "LZoneFiles$Zone;") m_3_161) (fun _ h9 => h9) rfl d_FP_readTypes_150 ?_
              refine va_get (D := (dC, dI)) (ci := 8) (v := .ref zDs) (C := RZone) (T := TZone) (N := 17) hx hb hts in_Zone hown hK hP 3 rfl rfl 9 (by decide) (hts (.fieldLink "ZoneFiles$FileParser" 172 "ZoneFiles$Zone" "dsts" "[I") m_1_201) (fun _ h9 => h9) rfl d_FP_readTypes_153 ?_
              refine lv_iload_n hx hb d_FP_readTypes_156 rfl (lv_at hl 3 rfl) ?_
              refine lv_iload_n hx hb d_FP_readTypes_157 rfl (lv_at hl 1 rfl) ?_
              obtain ⟨c_19, hf⟩ := it_n hf
              refine va_iast hx hb hK hP hD hS 5 2 rfl rfl c_19 d_FP_readTypes_158 (fun H locs hP hD hS => ?_)
              have hP : va_P (dC, dI) classes [(h0, .inr (3, [.int w0_0, .int w0_1, .ref fTape, .ref fZone, .ref fCounts, .int w0_5, .int fText])), (fTape, .inr (0, [.ref q2, .int tpS])), (q2, .inl (nA2, tpN, .inl tpA)), (fZone, .inr (8, [.int zVer, .int zTic, .int zTyc, .int zLec, .int zStc, .int zUtc, .ref zTi, .ref zTt, .ref zOf, .ref zDs, .ref zIx, .ref zSd, .ref zUt, .ref zCh, .ref zLt, .ref zLo, .ref zRu])), (zOf, .inl (cAzOf, 40, .inl (upd w4_a x1.toNatClampNeg r_6.toInt32))), (zDs, .inl (cAzDs, 40, .inl (upd w5_a x1.toNatClampNeg r_13))), (zIx, .inl (cAzIx, 40, .inl w6_a)), (fCounts, .inl (cAfCounts, 6, .inr (.inl fCountsA)))] H := hP
              have hD : va_D A [(h0, .inr (3, [.int w0_0, .int w0_1, .ref fTape, .ref fZone, .ref fCounts, .int w0_5, .int fText])), (fTape, .inr (0, [.ref q2, .int tpS])), (q2, .inl (nA2, tpN, .inl tpA)), (fZone, .inr (8, [.int zVer, .int zTic, .int zTyc, .int zLec, .int zStc, .int zUtc, .ref zTi, .ref zTt, .ref zOf, .ref zDs, .ref zIx, .ref zSd, .ref zUt, .ref zCh, .ref zLt, .ref zLo, .ref zRu])), (zOf, .inl (cAzOf, 40, .inl (upd w4_a x1.toNatClampNeg r_6.toInt32))), (zDs, .inl (cAzDs, 40, .inl (upd w5_a x1.toNatClampNeg r_13))), (zIx, .inl (cAzIx, 40, .inl w6_a)), (fCounts, .inl (cAfCounts, 6, .inr (.inl fCountsA)))] := hD
              refine lv_aload_n hx hb d_FP_readTypes_159 rfl (lv_at hl 4 rfl) ?_
              refine va_get (D := (dC, dI)) (ci := 3) (v := .ref fZone) (C := RFileParser) (T := TFileParser) (N := 7) hx hb hts in_FileParser hown hK hP 0 rfl rfl 3 (by decide) (hts (.fieldLink "ZoneFiles$FileParser" 15 "ZoneFiles$FileParser" "zone" "LZoneFiles$Zone;") m_3_161) (fun _ h9 => h9) rfl d_FP_readTypes_160 ?_
              refine va_get (D := (dC, dI)) (ci := 8) (v := .ref zIx) (C := RZone) (T := TZone) (N := 17) hx hb hts in_Zone hown hK hP 3 rfl rfl 10 (by decide) (hts (.fieldLink "ZoneFiles$FileParser" 175 "ZoneFiles$Zone" "indexes" "[I") m_1_205) (fun _ h9 => h9) rfl d_FP_readTypes_163 ?_
              refine lv_iload_n hx hb d_FP_readTypes_166 rfl (lv_at hl 3 rfl) ?_
              refine lv_iload hx hb d_FP_readTypes_167 (lv_at hl 0 rfl) ?_
              obtain ⟨c_20, hf⟩ := it_n hf
              refine va_iast hx hb hK hP hD hS 6 3 rfl rfl c_20 d_FP_readTypes_169 (fun H locs hP hD hS => ?_)
              have hP : va_P (dC, dI) classes [(h0, .inr (3, [.int w0_0, .int w0_1, .ref fTape, .ref fZone, .ref fCounts, .int w0_5, .int fText])), (fTape, .inr (0, [.ref q2, .int tpS])), (q2, .inl (nA2, tpN, .inl tpA)), (fZone, .inr (8, [.int zVer, .int zTic, .int zTyc, .int zLec, .int zStc, .int zUtc, .ref zTi, .ref zTt, .ref zOf, .ref zDs, .ref zIx, .ref zSd, .ref zUt, .ref zCh, .ref zLt, .ref zLo, .ref zRu])), (zOf, .inl (cAzOf, 40, .inl (upd w4_a x1.toNatClampNeg r_6.toInt32))), (zDs, .inl (cAzDs, 40, .inl (upd w5_a x1.toNatClampNeg r_13))), (zIx, .inl (cAzIx, 40, .inl (upd w6_a x1.toNatClampNeg r_15))), (fCounts, .inl (cAfCounts, 6, .inr (.inl fCountsA)))] H := hP
              have hD : va_D A [(h0, .inr (3, [.int w0_0, .int w0_1, .ref fTape, .ref fZone, .ref fCounts, .int w0_5, .int fText])), (fTape, .inr (0, [.ref q2, .int tpS])), (q2, .inl (nA2, tpN, .inl tpA)), (fZone, .inr (8, [.int zVer, .int zTic, .int zTyc, .int zLec, .int zStc, .int zUtc, .ref zTi, .ref zTt, .ref zOf, .ref zDs, .ref zIx, .ref zSd, .ref zUt, .ref zCh, .ref zLt, .ref zLo, .ref zRu])), (zOf, .inl (cAzOf, 40, .inl (upd w4_a x1.toNatClampNeg r_6.toInt32))), (zDs, .inl (cAzDs, 40, .inl (upd w5_a x1.toNatClampNeg r_13))), (zIx, .inl (cAzIx, 40, .inl (upd w6_a x1.toNatClampNeg r_15))), (fCounts, .inl (cAfCounts, 6, .inr (.inl fCountsA)))] := hD
              refine lv_aload_n hx hb d_FP_readTypes_170 rfl (lv_at hl 4 rfl) ?_
              refine lv_dup hx hb d_FP_readTypes_171 rfl ?_
              refine va_get (D := (dC, dI)) (ci := 3) (v := .int w0_5) (C := RFileParser) (T := TFileParser) (N := 7) hx hb hts in_FileParser hown hK hP 0 rfl rfl 5 (by decide) (hts (.fieldLink "ZoneFiles$FileParser" 44 "ZoneFiles$FileParser" "pos" "I") m_3_163) (fun _ h9 => h9) rfl d_FP_readTypes_172 ?_
              refine lv_bipush (v := 6) hx hb d_FP_readTypes_175 (by decide) ?_
              refine lv_iadd hx hb d_FP_readTypes_177 ?_
              refine va_put (D := (dC, dI)) (ci := 3) (v := .int (w0_5 + 6)) (ty := .int) (C := RFileParser) (T := TFileParser) (N := 7) hx hb hts in_FileParser tyFileParser ty_FileParser nm_FileParser hown hK hP hD hS 0 rfl rfl 5 (by decide) (hts (.fieldLink "ZoneFiles$FileParser" 44 "ZoneFiles$FileParser" "pos" "I") m_3_163) (fun _ h9 => h9) rfl (by decide +kernel) rfl rfl (Nat.le_of_ble_eq_true rfl) d_FP_readTypes_178 (fun H locs hP hD hS => ?_)
              have hP : va_P (dC, dI) classes [(h0, .inr (3, [.int w0_0, .int w0_1, .ref fTape, .ref fZone, .ref fCounts, .int (w0_5 + 6), .int fText])), (fTape, .inr (0, [.ref q2, .int tpS])), (q2, .inl (nA2, tpN, .inl tpA)), (fZone, .inr (8, [.int zVer, .int zTic, .int zTyc, .int zLec, .int zStc, .int zUtc, .ref zTi, .ref zTt, .ref zOf, .ref zDs, .ref zIx, .ref zSd, .ref zUt, .ref zCh, .ref zLt, .ref zLo, .ref zRu])), (zOf, .inl (cAzOf, 40, .inl (upd w4_a x1.toNatClampNeg r_6.toInt32))), (zDs, .inl (cAzDs, 40, .inl (upd w5_a x1.toNatClampNeg r_13))), (zIx, .inl (cAzIx, 40, .inl (upd w6_a x1.toNatClampNeg r_15))), (fCounts, .inl (cAfCounts, 6, .inr (.inl fCountsA)))] H := hP
              have hD : va_D A [(h0, .inr (3, [.int w0_0, .int w0_1, .ref fTape, .ref fZone, .ref fCounts, .int (w0_5 + 6), .int fText])), (fTape, .inr (0, [.ref q2, .int tpS])), (q2, .inl (nA2, tpN, .inl tpA)), (fZone, .inr (8, [.int zVer, .int zTic, .int zTyc, .int zLec, .int zStc, .int zUtc, .ref zTi, .ref zTt, .ref zOf, .ref zDs, .ref zIx, .ref zSd, .ref zUt, .ref zCh, .ref zLt, .ref zLo, .ref zRu])), (zOf, .inl (cAzOf, 40, .inl (upd w4_a x1.toNatClampNeg r_6.toInt32))), (zDs, .inl (cAzDs, 40, .inl (upd w5_a x1.toNatClampNeg r_13))), (zIx, .inl (cAzIx, 40, .inl (upd w6_a x1.toNatClampNeg r_15))), (fCounts, .inl (cAfCounts, 6, .inr (.inl fCountsA)))] := hD
              refine lv_iinc (v := x1 + 1) (lv' := [(1, .int (x1 + 1)), (4, .int r_15), (3, .int r_13), (2, .int r_6.toInt32), (0, .ref h0)]) hx hb d_FP_readTypes_181 hl (k := 3) rfl rfl (by decide) rfl (fun ls hl => ?_)
              refine lv_goto (tgt := 21) hx hb d_FP_readTypes_184 (by decide) ?_
              exact ih hf hK hP hD hS (lv_sub hl [0, 4] rfl)
            · have hf := it_f c_17 hf
              refine lv_aload_n hx hb d_FP_readTypes_126 rfl (lv_at hl 4 rfl) ?_
              refine lv_bipush (v := 9) hx hb d_FP_readTypes_127 (by decide) ?_
              refine lv_aload_n hx hb d_FP_readTypes_129 rfl (lv_at hl 4 rfl) ?_
              refine va_get (D := (dC, dI)) (ci := 3) (v := .int w0_5) (C := RFileParser) (T := TFileParser) (N := 7) hx hb hts in_FileParser hown hK hP 0 rfl rfl 5 (by decide) (hts (.fieldLink "ZoneFiles$FileParser" 44 "ZoneFiles$FileParser" "pos" "I") m_3_163) (fun _ h9 => h9) rfl d_FP_readTypes_130 ?_
              refine lv_iconst (v := 5) hx hb d_FP_readTypes_133 (by decide) ?_
              refine lv_iadd hx hb d_FP_readTypes_134 ?_
              obtain ⟨⟨z_21, z_22, z_23⟩, hc, hf⟩ := ob hf
              have hPc := hP.sub (ws' := [(h0, .inr (3, [.int w0_0, .int w0_1, .ref fTape, .ref fZone, .ref fCounts, .int w0_5, .int fText]))]) [0] rfl
              have hDc := hD.sub (ws' := [(h0, .inr (3, [.int w0_0, .int w0_1, .ref fTape, .ref fZone, .ref fCounts, .int w0_5, .int fText]))]) [0] (by decide) rfl
              have hKc := hK.sub (tys' := []) [] rfl
              have hFc := va_free (wc := [(h0, .inr (3, [.int w0_0, .int w0_1, .ref fTape, .ref fZone, .ref fCounts, .int w0_5, .int fText]))]) hD hS hA [0] rfl
              refine cl_M (v := (some (.int z_21))) (st1 := [.int z_21]) (va_runV (As := [.int 9, .int (w0_5 + 5)]) (rest := []) ⟨hx, hb, hml, hown, hts⟩ (c_FP_fail l dC dI h0 fTape fZone fCounts H.size nf 9 (w0_5 + 5) w0_0 w0_1 w0_5 fText hc) (cwV 2 hts (gdV m_3_191 m_3_193 msel_16 m_1_16 m_3_194) rfl rfl rfl (by decide +kernel) ⟨Nat.le_trans (Nat.le_of_ble_eq_true rfl) hRf, Nat.le_trans (Nat.le_of_ble_eq_true rfl) hRl⟩) ((MU.pre hPc hKc hDc (hST.mu hS hFc)).vir (va_recv hKc hPc (ci := 3) (q0 := 0) rfl rfl)) rfl rfl hl.1 rfl (lv_room (Nat.le_of_ble_eq_true rfl)) d_FP_readTypes_135 ⟨Nat.zero_le _, Nat.zero_le _⟩) rfl hS (fun q _ h => hFc q h) hFc (fun t H1 locs ht hvm hB hz1 hk1 hS => ?_)
              obtain ⟨hP1, hK1, hD1⟩ := hB
              rw [ht] at hP1
              have hK1 := va_K.moved hvm.symm hK1
              obtain ⟨hP, hD⟩ := va_join (wr := [(fTape, .inr (0, [.ref q2, .int tpS])), (q2, .inl (nA2, tpN, .inl tpA)), (fZone, .inr (8, [.int zVer, .int zTic, .int zTyc, .int zLec, .int zStc, .int zUtc, .ref zTi, .ref zTt, .ref zOf, .ref zDs, .ref zIx, .ref zSd, .ref zUt, .ref zCh, .ref zLt, .ref zLo, .ref zRu])), (zOf, .inl (cAzOf, 40, .inl w4_a)), (zDs, .inl (cAzDs, 40, .inl w5_a)), (zIx, .inl (cAzIx, 40, .inl w6_a)), (fCounts, .inl (cAfCounts, 6, .inr (.inl fCountsA)))]) (w1 := [(h0, .inr (3, [.int z_22, .int z_23, .ref fTape, .ref fZone, .ref fCounts, .int w0_5, .int fText]))]) hP hD [0] [1, 2, 3, 4, 5, 6, 7] rfl rfl (by decide) (by decide) hk1 hFc hP1 hD1
              have hK := (hK.sub (tys' := [(nA2, .byte), (cAzOf, .int), (cAzDs, .int), (cAzIx, .int), (cAfCounts, .long)]) [0, 1, 2, 3, 4] rfl).app hK1
              generalize H1 = H at hP hS ⊢
              have hP := hP.sub (ws' := [(h0, .inr (3, [.int z_22, .int z_23, .ref fTape, .ref fZone, .ref fCounts, .int w0_5, .int fText])), (fTape, .inr (0, [.ref q2, .int tpS])), (q2, .inl (nA2, tpN, .inl tpA)), (fZone, .inr (8, [.int zVer, .int zTic, .int zTyc, .int zLec, .int zStc, .int zUtc, .ref zTi, .ref zTt, .ref zOf, .ref zDs, .ref zIx, .ref zSd, .ref zUt, .ref zCh, .ref zLt, .ref zLo, .ref zRu])), (zOf, .inl (cAzOf, 40, .inl w4_a)), (zDs, .inl (cAzDs, 40, .inl w5_a)), (zIx, .inl (cAzIx, 40, .inl w6_a)), (fCounts, .inl (cAfCounts, 6, .inr (.inl fCountsA)))]) [7, 0, 1, 2, 3, 4, 5, 6] rfl
              have hD := hD.sub (ws' := [(h0, .inr (3, [.int z_22, .int z_23, .ref fTape, .ref fZone, .ref fCounts, .int w0_5, .int fText])), (fTape, .inr (0, [.ref q2, .int tpS])), (q2, .inl (nA2, tpN, .inl tpA)), (fZone, .inr (8, [.int zVer, .int zTic, .int zTyc, .int zLec, .int zStc, .int zUtc, .ref zTi, .ref zTt, .ref zOf, .ref zDs, .ref zIx, .ref zSd, .ref zUt, .ref zCh, .ref zLt, .ref zLo, .ref zRu])), (zOf, .inl (cAzOf, 40, .inl w4_a)), (zDs, .inl (cAzDs, 40, .inl w5_a)), (zIx, .inl (cAzIx, 40, .inl w6_a)), (fCounts, .inl (cAfCounts, 6, .inr (.inl fCountsA)))]) [7, 0, 1, 2, 3, 4, 5, 6] (by decide) rfl
              have hK := hK.sub (tys' := [(nA2, .byte), (cAzOf, .int), (cAzDs, .int), (cAzIx, .int), (cAfCounts, .long)]) [0, 1, 2, 3, 4] rfl
              obtain ⟨c_24, hf⟩ := it_g hf
              cases rs hf
              exact hE _ _ _ _ d_FP_readTypes_138 (nb_of c_24) hP hD hS hK
          · have hf := it_f c_14 hf
            refine lv_aload_n hx hb d_FP_readTypes_88 rfl (lv_at hl 3 rfl) ?_
            refine lv_bipush (v := 8) hx hb d_FP_readTypes_89 (by decide) ?_
            refine lv_aload_n hx hb d_FP_readTypes_91 rfl (lv_at hl 3 rfl) ?_
            refine va_get (D := (dC, dI)) (ci := 3) (v := .int w0_5) (C := RFileParser) (T := TFileParser) (N := 7) hx hb hts in_FileParser hown hK hP 0 rfl rfl 5 (by decide) (hts (.fieldLink "ZoneFiles$FileParser" 44 "ZoneFiles$FileParser" "pos" "I") m_3_163) (fun _ h9 => h9) rfl d_FP_readTypes_92 ?_
            refine lv_iconst (v := 4) hx hb d_FP_readTypes_95 (by decide) ?_
            refine lv_iadd hx hb d_FP_readTypes_96 ?_
            obtain ⟨⟨z_25, z_26, z_27⟩, hc, hf⟩ := ob hf
            have hPc := hP.sub (ws' := [(h0, .inr (3, [.int w0_0, .int w0_1, .ref fTape, .ref fZone, .ref fCounts, .int w0_5, .int fText]))]) [0] rfl
            have hDc := hD.sub (ws' := [(h0, .inr (3, [.int w0_0, .int w0_1, .ref fTape, .ref fZone, .ref fCounts, .int w0_5, .int fText]))]) [0] (by decide) rfl
            have hKc := hK.sub (tys' := []) [] rfl
            have hFc := va_free (wc := [(h0, .inr (3, [.int w0_0, .int w0_1, .ref fTape, .ref fZone, .ref fCounts, .int w0_5, .int fText]))]) hD hS hA [0] rfl
            refine cl_M (v := (some (.int z_25))) (st1 := [.int z_25]) (va_runV (As := [.int 8, .int (w0_5 + 4)]) (rest := []) ⟨hx, hb, hml, hown, hts⟩ (c_FP_fail l dC dI h0 fTape fZone fCounts H.size nf 8 (w0_5 + 4) w0_0 w0_1 w0_5 fText hc) (cwV 2 hts (gdV m_3_191 m_3_193 msel_16 m_1_16 m_3_194) rfl rfl rfl (by decide +kernel) ⟨Nat.le_trans (Nat.le_of_ble_eq_true rfl) hRf, Nat.le_trans (Nat.le_of_ble_eq_true rfl) hRl⟩) ((MU.pre hPc hKc hDc (hST.mu hS hFc)).vir (va_recv hKc hPc (ci := 3) (q0 := 0) rfl rfl)) rfl rfl hl.1 rfl (lv_room (Nat.le_of_ble_eq_true rfl)) d_FP_readTypes_97 ⟨Nat.zero_le _, Nat.zero_le _⟩) rfl hS (fun q _ h => hFc q h) hFc (fun t H1 locs ht hvm hB hz1 hk1 hS => ?_)
            obtain ⟨hP1, hK1, hD1⟩ := hB
            rw [ht] at hP1
            have hK1 := va_K.moved hvm.symm hK1
            obtain ⟨hP, hD⟩ := va_join (wr := [(fTape, .inr (0, [.ref q2, .int tpS])), (q2, .inl (nA2, tpN, .inl tpA)), (fZone, .inr (8, [.int zVer, .int zTic, .int zTyc, .int zLec, .int zStc, .int zUtc, .ref zTi, .ref zTt, .ref zOf, .ref zDs, .ref zIx, .ref zSd, .ref zUt, .ref zCh, .ref zLt, .ref zLo, .ref zRu])), (zOf, .inl (cAzOf, 40, .inl w4_a)), (zDs, .inl (cAzDs, 40, .inl w5_a)), (zIx, .inl (cAzIx, 40, .inl w6_a)), (fCounts, .inl (cAfCounts, 6, .inr (.inl fCountsA)))]) (w1 := [(h0, .inr (3, [.int z_26, .int z_27, .ref fTape, .ref fZone, .ref fCounts, .int w0_5, .int fText]))]) hP hD [0] [1, 2, 3, 4, 5, 6, 7] rfl rfl (by decide) (by decide) hk1 hFc hP1 hD1
            have hK := (hK.sub (tys' := [(nA2, .byte), (cAzOf, .int), (cAzDs, .int), (cAzIx, .int), (cAfCounts, .long)]) [0, 1, 2, 3, 4] rfl).app hK1
            generalize H1 = H at hP hS ⊢
            have hP := hP.sub (ws' := [(h0, .inr (3, [.int z_26, .int z_27, .ref fTape, .ref fZone, .ref fCounts, .int w0_5, .int fText])), (fTape, .inr (0, [.ref q2, .int tpS])), (q2, .inl (nA2, tpN, .inl tpA)), (fZone, .inr (8, [.int zVer, .int zTic, .int zTyc, .int zLec, .int zStc, .int zUtc, .ref zTi, .ref zTt, .ref zOf, .ref zDs, .ref zIx, .ref zSd, .ref zUt, .ref zCh, .ref zLt, .ref zLo, .ref zRu])), (zOf, .inl (cAzOf, 40, .inl w4_a)), (zDs, .inl (cAzDs, 40, .inl w5_a)), (zIx, .inl (cAzIx, 40, .inl w6_a)), (fCounts, .inl (cAfCounts, 6, .inr (.inl fCountsA)))]) [7, 0, 1, 2, 3, 4, 5, 6] rfl
            have hD := hD.sub (ws' := [(h0, .inr (3, [.int z_26, .int z_27, .ref fTape, .ref fZone, .ref fCounts, .int w0_5, .int fText])), (fTape, .inr (0, [.ref q2, .int tpS])), (q2, .inl (nA2, tpN, .inl tpA)), (fZone, .inr (8, [.int zVer, .int zTic, .int zTyc, .int zLec, .int zStc, .int zUtc, .ref zTi, .ref zTt, .ref zOf, .ref zDs, .ref zIx, .ref zSd, .ref zUt, .ref zCh, .ref zLt, .ref zLo, .ref zRu])), (zOf, .inl (cAzOf, 40, .inl w4_a)), (zDs, .inl (cAzDs, 40, .inl w5_a)), (zIx, .inl (cAzIx, 40, .inl w6_a)), (fCounts, .inl (cAfCounts, 6, .inr (.inl fCountsA)))]) [7, 0, 1, 2, 3, 4, 5, 6] (by decide) rfl
            have hK := hK.sub (tys' := [(nA2, .byte), (cAzOf, .int), (cAzDs, .int), (cAzIx, .int), (cAfCounts, .long)]) [0, 1, 2, 3, 4] rfl
            obtain ⟨c_28, hf⟩ := it_g hf
            cases rs hf
            exact hE _ _ _ _ d_FP_readTypes_100 (nb_of c_28) hP hD hS hK
        · have hf := it_f c_12 hf
          exact k_FP_readTypes_58 C0 hST hA hE hf hK hP hD hS (lv_sub hl [2] rfl)
set_option maxHeartbeats 400000 in
set_option maxRecDepth 100000 in
theorem k_FP_readTypes_0 (C0 : Cx p s m meth c args R b_FP_readTypes "ZoneFiles$FileParser" 5 (some .boolean) 2 46) (hST : ST A s s.heap) (hA : ∀ q, s.heap.size ≤ q → A q) (hE : ∀ (pc : Nat) (ls : Array Slot) {q2 : Nat} {nA2 : ClassId} (H : Heap) (locs : List Loc), decode b_FP_readTypes pc = .ok (.ireturn, 1) → narrow .boolean (.int r0) = .int r0 → va_P (dC, dI) classes [(h0, .inr (3, [.int v0_0, .int v0_1, .ref fTape, .ref fZone, .ref fCounts, .int v0_5, .int fText])), (fTape, .inr (0, [.ref q2, .int tpS])), (q2, .inl (nA2, tpN, .inl tpA)), (fZone, .inr (8, [.int zVer, .int zTic, .int zTyc, .int zLec, .int zStc, .int zUtc, .ref zTi, .ref zTt, .ref zOf, .ref zDs, .ref zIx, .ref zSd, .ref zUt, .ref zCh, .ref zLt, .ref zLo, .ref zRu])), (zOf, .inl (cAzOf, 40, .inl v4_a)), (zDs, .inl (cAzDs, 40, .inl v5_a)), (zIx, .inl (cAzIx, 40, .inl v6_a)), (fCounts, .inl (cAfCounts, 6, .inr (.inl fCountsA)))] H → va_D A [(h0, .inr (3, [.int v0_0, .int v0_1, .ref fTape, .ref fZone, .ref fCounts, .int v0_5, .int fText])), (fTape, .inr (0, [.ref q2, .int tpS])), (q2, .inl (nA2, tpN, .inl tpA)), (fZone, .inr (8, [.int zVer, .int zTic, .int zTyc, .int zLec, .int zStc, .int zUtc, .ref zTi, .ref zTt, .ref zOf, .ref zDs, .ref zIx, .ref zSd, .ref zUt, .ref zCh, .ref zLt, .ref zLo, .ref zRu])), (zOf, .inl (cAzOf, 40, .inl v4_a)), (zDs, .inl (cAzDs, 40, .inl v5_a)), (zIx, .inl (cAzIx, 40, .inl v6_a)), (fCounts, .inl (cAfCounts, 6, .inr (.inl fCountsA)))] → va_S A s.heap H locs → va_K (dC, dI) classes [(nA2, .byte), (cAzOf, .int), (cAzDs, .int), (cAzIx, .int), (cAfCounts, .long)] s → W p l e R s m args below meth c H locs 0 0 Q (F0 m pc ls [.int r0])) {w0_0 : Int32} {w0_1 : Int32} {w0_5 : Int32} {w4_a : Nat → Int32} {w5_a : Nat → Int32} {w6_a : Nat → Int32} (hf : f_FP_readTypes_0 nf tpS tpN tpA zTyc fCountsA w0_0 w0_1 w0_5 w4_a w5_a w6_a = some (r0, v0_0, v0_1, v0_5, v4_a, v5_a, v6_a)) {q2 : Nat} {nA2 : ClassId} {H : Heap} {locs : List Loc} {ls : Array Slot} (hK : va_K (dC, dI) classes [(nA2, .byte), (cAzOf, .int), (cAzDs, .int), (cAzIx, .int), (cAfCounts, .long)] s) (hP : va_P (dC, dI) classes [(h0, .inr (3, [.int w0_0, .int w0_1, .ref fTape, .ref fZone, .ref fCounts, .int w0_5, .int fText])), (fTape, .inr (0, [.ref q2, .int tpS])), (q2, .inl (nA2, tpN, .inl tpA)), (fZone, .inr (8, [.int zVer, .int zTic, .int zTyc, .int zLec, .int zStc, .int zUtc, .ref zTi, .ref zTt, .ref zOf, .ref zDs, .ref zIx, .ref zSd, .ref zUt, .ref zCh, .ref zLt, .ref zLo, .ref zRu])), (zOf, .inl (cAzOf, 40, .inl w4_a)), (zDs, .inl (cAzDs, 40, .inl w5_a)), (zIx, .inl (cAzIx, 40, .inl w6_a)), (fCounts, .inl (cAfCounts, 6, .inr (.inl fCountsA)))] H) (hD : va_D A [(h0, .inr (3, [.int w0_0, .int w0_1, .ref fTape, .ref fZone, .ref fCounts, .int w0_5, .int fText])), (fTape, .inr (0, [.ref q2, .int tpS])), (q2, .inl (nA2, tpN, .inl tpA)), (fZone, .inr (8, [.int zVer, .int zTic, .int zTyc, .int zLec, .int zStc, .int zUtc, .ref zTi, .ref zTt, .ref zOf, .ref zDs, .ref zIx, .ref zSd, .ref zUt, .ref zCh, .ref zLt, .ref zLo, .ref zRu])), (zOf, .inl (cAzOf, 40, .inl w4_a)), (zDs, .inl (cAzDs, 40, .inl w5_a)), (zIx, .inl (cAzIx, 40, .inl w6_a)), (fCounts, .inl (cAfCounts, 6, .inr (.inl fCountsA)))]) (hS : va_S A s.heap H locs) (hl : lv_has ls 5 [(0, .ref h0)]) : W p l e R s m args below meth c H locs 0 0 Q (F0 m 0 ls []) := by
  obtain ⟨hx, hb, hr, hml, hown, hts, hlocks, hRf, hRl⟩ := id C0
  obtain ⟨tms, hZms, hTms, tmg, hZmg, hTmg, hNW⟩ := id hST
  unfold f_FP_readTypes_0 at hf
  refine lv_aload_n hx hb d_FP_readTypes_0 rfl (lv_at hl 0 rfl) ?_
  refine lv_bipush (v := 6) hx hb d_FP_readTypes_1 (by decide) ?_
  refine lv_aload_n hx hb d_FP_readTypes_3 rfl (lv_at hl 0 rfl) ?_
  refine va_get (D := (dC, dI)) (ci := 3) (v := .ref fZone) (C := RFileParser) (T := TFileParser) (N := 7) hx hb hts in_FileParser hown hK hP 0 rfl rfl 3 (by decide) (hts (.fieldLink "ZoneFiles$FileParser" 15 "ZoneFiles$FileParser" "zone" "LZoneFiles$Zone;") m_3_161) (fun _ h9 => h9) rfl d_FP_readTypes_4 ?_
  refine va_get (D := (dC, dI)) (ci := 8) (v := .int zTyc) (C := RZone) (T := TZone) (N := 17) hx hb hts in_Zone hown hK hP 3 rfl rfl 2 (by decide) (hts (.fieldLink "ZoneFiles$FileParser" 126 "ZoneFiles$Zone" "typeCount" "I") m_1_173) (fun _ h9 => h9) rfl d_FP_readTypes_7 ?_
  refine lv_imul hx hb d_FP_readTypes_10 ?_
  obtain ⟨⟨z_1, z_2, z_3⟩, hc, hf⟩ := ob hf
  have hPc := hP.sub (ws' := [(h0, .inr (3, [.int w0_0, .int w0_1, .ref fTape, .ref fZone, .ref fCounts, .int w0_5, .int fText])), (fTape, .inr (0, [.ref q2, .int tpS]))]) [0, 1] rfl
  have hDc := hD.sub (ws' := [(h0, .inr (3, [.int w0_0, .int w0_1, .ref fTape, .ref fZone, .ref fCounts, .int w0_5, .int fText])), (fTape, .inr (0, [.ref q2, .int tpS]))]) [0, 1] (by decide) rfl
  have hKc := hK.sub (tys' := []) [] rfl
  have hFc := va_free (wc := [(h0, .inr (3, [.int w0_0, .int w0_1, .ref fTape, .ref fZone, .ref fCounts, .int w0_5, .int fText])), (fTape, .inr (0, [.ref q2, .int tpS]))]) hD hS hA [0, 1] rfl
  refine cl_M (v := (some (.int z_1))) (st1 := [.int z_1]) (va_runV (As := [.int (6 * zTyc)]) (rest := []) ⟨hx, hb, hml, hown, hts⟩ (c_FP_hasMore l dC dI h0 fTape fZone fCounts q2 H.size nf (6 * zTyc) w0_0 w0_1 w0_5 fText tpS hc) (cwV 1 hts (gdV m_3_199 m_3_201 msel_18 m_1_16 m_3_202) rfl rfl rfl (by decide +kernel) ⟨Nat.le_trans (Nat.le_of_ble_eq_true rfl) hRf, Nat.le_trans (Nat.le_of_ble_eq_true rfl) hRl⟩) ((MU.pre hPc hKc hDc (hST.mu hS hFc)).vir (va_recv hKc hPc (ci := 3) (q0 := 0) rfl rfl)) rfl rfl hl.1 rfl (lv_room (Nat.le_of_ble_eq_true rfl)) d_FP_readTypes_11 ⟨Nat.zero_le _, Nat.zero_le _⟩) rfl hS (fun q _ h => hFc q h) hFc (fun t H1 locs ht hvm hB hz1 hk1 hS => ?_)
  obtain ⟨hP1, hK1, hD1⟩ := hB
  rw [ht] at hP1
  have hK1 := va_K.moved hvm.symm hK1
  obtain ⟨hP, hD⟩ := va_join (wr := [(q2, .inl (nA2, tpN, .inl tpA)), (fZone, .inr (8, [.int zVer, .int zTic, .int zTyc, .int zLec, .int zStc, .int zUtc, .ref zTi, .ref zTt, .ref zOf, .ref zDs, .ref zIx, .ref zSd, .ref zUt, .ref zCh, .ref zLt, .ref zLo, .ref zRu])), (zOf, .inl (cAzOf, 40, .inl w4_a)), (zDs, .inl (cAzDs, 40, .inl w5_a)), (zIx, .inl (cAzIx, 40, .inl w6_a)), (fCounts, .inl (cAfCounts, 6, .inr (.inl fCountsA)))]) (w1 := [(h0, .inr (3, [.int z_2, .int z_3, .ref fTape, .ref fZone, .ref fCounts, .int w0_5, .int fText])), (fTape, .inr (0, [.ref q2, .int tpS]))]) hP hD [0, 1] [2, 3, 4, 5, 6, 7] rfl rfl (by decide) (by decide) hk1 hFc hP1 hD1
  have hK := (hK.sub (tys' := [(nA2, .byte), (cAzOf, .int), (cAzDs, .int), (cAzIx, .int), (cAfCounts, .long)]) [0, 1, 2, 3, 4] rfl).app hK1
  generalize H1 = H at hP hS ⊢
  have hP := hP.sub (ws' := [(h0, .inr (3, [.int z_2, .int z_3, .ref fTape, .ref fZone, .ref fCounts, .int w0_5, .int fText])), (fTape, .inr (0, [.ref q2, .int tpS])), (q2, .inl (nA2, tpN, .inl tpA)), (fZone, .inr (8, [.int zVer, .int zTic, .int zTyc, .int zLec, .int zStc, .int zUtc, .ref zTi, .ref zTt, .ref zOf, .ref zDs, .ref zIx, .ref zSd, .ref zUt, .ref zCh, .ref zLt, .ref zLo, .ref zRu])), (zOf, .inl (cAzOf, 40, .inl w4_a)), (zDs, .inl (cAzDs, 40, .inl w5_a)), (zIx, .inl (cAzIx, 40, .inl w6_a)), (fCounts, .inl (cAfCounts, 6, .inr (.inl fCountsA)))]) [6, 7, 0, 1, 2, 3, 4, 5] rfl
  have hD := hD.sub (ws' := [(h0, .inr (3, [.int z_2, .int z_3, .ref fTape, .ref fZone, .ref fCounts, .int w0_5, .int fText])), (fTape, .inr (0, [.ref q2, .int tpS])), (q2, .inl (nA2, tpN, .inl tpA)), (fZone, .inr (8, [.int zVer, .int zTic, .int zTyc, .int zLec, .int zStc, .int zUtc, .ref zTi, .ref zTt, .ref zOf, .ref zDs, .ref zIx, .ref zSd, .ref zUt, .ref zCh, .ref zLt, .ref zLo, .ref zRu])), (zOf, .inl (cAzOf, 40, .inl w4_a)), (zDs, .inl (cAzDs, 40, .inl w5_a)), (zIx, .inl (cAzIx, 40, .inl w6_a)), (fCounts, .inl (cAfCounts, 6, .inr (.inl fCountsA)))]) [6, 7, 0, 1, 2, 3, 4, 5] (by decide) rfl
  have hK := hK.sub (tys' := [(nA2, .byte), (cAzOf, .int), (cAzDs, .int), (cAzIx, .int), (cAfCounts, .long)]) [0, 1, 2, 3, 4] rfl
  refine lv_if_ne (tgt := 19) hx hb d_FP_readTypes_14 (by decide) (fun c_4 => ?_) (fun c_4 => ?_)
  · have hf := it_f c_4 hf
    refine lv_iconst (v := 0) hx hb d_FP_readTypes_19 (by decide) ?_
    refine lv_istore_n (lv' := [(1, .int 0), (0, .ref h0)]) hx hb d_FP_readTypes_20 rfl hl (by decide) rfl (fun ls hl => ?_)
    exact k_FP_readTypes_21 C0 hST hA hE nf hf hK hP hD hS (lv_sub hl [0, 1] rfl)
  · have hf := it_t c_4 hf
    refine lv_iconst (v := 0) hx hb d_FP_readTypes_17 (by decide) ?_
    cases rs hf
    exact hE _ _ _ _ d_FP_readTypes_18 rfl hP hD hS hK
end
set_option maxHeartbeats 400000 in
set_option maxRecDepth 100000 in
theorem c_FP_readTypes (l : Launch) (dC : Nat → ClassId) (dI : Nat → Nat → Nat) (h0 : Nat) (fTape : Nat) (fZone : Nat) (fCounts : Nat) (tpR : Nat) (zTi : Nat) (zTt : Nat) (zOf : Nat) (zDs : Nat) (zIx : Nat) (zSd : Nat) (zUt : Nat) (zCh : Nat) (zLt : Nat) (zLo : Nat) (zRu : Nat) (cAtpR : ClassId) (cAzOf : ClassId) (cAzDs : ClassId) (cAzIx : ClassId) (cAfCounts : ClassId) (sz : Nat) (nf : Nat) (fFault : Int32) (fPlace : Int32) (fPos : Int32) (fText : Int32) (tpS : Int32) (tpN : Nat) (tpA : Nat → Int32) (zVer : Int32) (zTic : Int32) (zTyc : Int32) (zLec : Int32) (zStc : Int32) (zUtc : Int32) (zOfA : Nat → Int32) (zDsA : Nat → Int32) (zIxA : Nat → Int32) (fCountsA : Nat → Int64) {r0 : Int32} {v0_0 : Int32} {v0_1 : Int32} {v0_5 : Int32} {v4_a : Nat → Int32} {v5_a : Nat → Int32} {v6_a : Nat → Int32} (hf : f_FP_readTypes nf fFault fPlace fPos tpS tpN tpA zTyc zOfA zDsA zIxA fCountsA = some (r0, v0_0, v0_1, v0_5, v4_a, v5_a, v6_a)) : Met l y_FP_readTypes (wd y_FP_readTypes b_FP_readTypes 5 (some .boolean)) ({ frames := 2, cells := 0, slots := 0, locals := 46 }) (MU dC dI [(h0, .inr (3, [.int fFault, .int fPlace, .ref fTape, .ref fZone, .ref fCounts, .int fPos, .int fText])), (fTape, .inr (0, [.ref tpR, .int tpS])), (tpR, .inl (cAtpR, tpN, .inl tpA)), (fZone, .inr (8, [.int zVer, .int zTic, .int zTyc, .int zLec, .int zStc, .int zUtc, .ref zTi, .ref zTt, .ref zOf, .ref zDs, .ref zIx, .ref zSd, .ref zUt, .ref zCh, .ref zLt, .ref zLo, .ref zRu])), (zOf, .inl (cAzOf, 40, .inl zOfA)), (zDs, .inl (cAzDs, 40, .inl zDsA)), (zIx, .inl (cAzIx, 40, .inl zIxA)), (fCounts, .inl (cAfCounts, 6, .inr (.inl fCountsA)))] [(cAtpR, .byte), (cAzOf, .int), (cAzDs, .int), (cAzIx, .int), (cAfCounts, .long)] sz [.ref h0]) (MV (some (.int r0)) (fun t => ∃ (q2 : Nat) (nA2 : ClassId), va_P (dC, dI) classes [(h0, .inr (3, [.int v0_0, .int v0_1, .ref fTape, .ref fZone, .ref fCounts, .int v0_5, .int fText])), (fTape, .inr (0, [.ref q2, .int tpS])), (q2, .inl (nA2, tpN, .inl tpA)), (fZone, .inr (8, [.int zVer, .int zTic, .int zTyc, .int zLec, .int zStc, .int zUtc, .ref zTi, .ref zTt, .ref zOf, .ref zDs, .ref zIx, .ref zSd, .ref zUt, .ref zCh, .ref zLt, .ref zLo, .ref zRu])), (zOf, .inl (cAzOf, 40, .inl v4_a)), (zDs, .inl (cAzDs, 40, .inl v5_a)), (zIx, .inl (cAzIx, 40, .inl v6_a)), (fCounts, .inl (cAfCounts, 6, .inr (.inl fCountsA)))] t.heap ∧ va_K (dC, dI) classes [(nA2, .byte), (cAzOf, .int), (cAzDs, .int), (cAzIx, .int), (cAfCounts, .long)] t ∧ va_D (va_A [(h0, .inr (3, [.int fFault, .int fPlace, .ref fTape, .ref fZone, .ref fCounts, .int fPos, .int fText])), (fTape, .inr (0, [.ref tpR, .int tpS])), (tpR, .inl (cAtpR, tpN, .inl tpA)), (fZone, .inr (8, [.int zVer, .int zTic, .int zTyc, .int zLec, .int zStc, .int zUtc, .ref zTi, .ref zTt, .ref zOf, .ref zDs, .ref zIx, .ref zSd, .ref zUt, .ref zCh, .ref zLt, .ref zLo, .ref zRu])), (zOf, .inl (cAzOf, 40, .inl zOfA)), (zDs, .inl (cAzDs, 40, .inl zDsA)), (zIx, .inl (cAzIx, 40, .inl zIxA)), (fCounts, .inl (cAfCounts, 6, .inr (.inl fCountsA)))] sz) [(h0, .inr (3, [.int v0_0, .int v0_1, .ref fTape, .ref fZone, .ref fCounts, .int v0_5, .int fText])), (fTape, .inr (0, [.ref q2, .int tpS])), (q2, .inl (nA2, tpN, .inl tpA)), (fZone, .inr (8, [.int zVer, .int zTic, .int zTyc, .int zLec, .int zStc, .int zUtc, .ref zTi, .ref zTt, .ref zOf, .ref zDs, .ref zIx, .ref zSd, .ref zUt, .ref zCh, .ref zLt, .ref zLo, .ref zRu])), (zOf, .inl (cAzOf, 40, .inl v4_a)), (zDs, .inl (cAzDs, 40, .inl v5_a)), (zIx, .inl (cAzIx, 40, .inl v6_a)), (fCounts, .inl (cAfCounts, 6, .inr (.inl fCountsA)))]) (va_A [(h0, .inr (3, [.int fFault, .int fPlace, .ref fTape, .ref fZone, .ref fCounts, .int fPos, .int fText])), (fTape, .inr (0, [.ref tpR, .int tpS])), (tpR, .inl (cAtpR, tpN, .inl tpA)), (fZone, .inr (8, [.int zVer, .int zTic, .int zTyc, .int zLec, .int zStc, .int zUtc, .ref zTi, .ref zTt, .ref zOf, .ref zDs, .ref zIx, .ref zSd, .ref zUt, .ref zCh, .ref zLt, .ref zLo, .ref zRu])), (zOf, .inl (cAzOf, 40, .inl zOfA)), (zDs, .inl (cAzDs, 40, .inl zDsA)), (zIx, .inl (cAzIx, 40, .inl zIxA)), (fCounts, .inl (cAfCounts, 6, .inr (.inl fCountsA)))] sz)) 0 0 (va_A [(h0, .inr (3, [.int fFault, .int fPlace, .ref fTape, .ref fZone, .ref fCounts, .int fPos, .int fText])), (fTape, .inr (0, [.ref tpR, .int tpS])), (tpR, .inl (cAtpR, tpN, .inl tpA)), (fZone, .inr (8, [.int zVer, .int zTic, .int zTyc, .int zLec, .int zStc, .int zUtc, .ref zTi, .ref zTt, .ref zOf, .ref zDs, .ref zIx, .ref zSd, .ref zUt, .ref zCh, .ref zLt, .ref zLo, .ref zRu])), (zOf, .inl (cAzOf, 40, .inl zOfA)), (zDs, .inl (cAzDs, 40, .inl zDsA)), (zIx, .inl (cAzIx, 40, .inl zIxA)), (fCounts, .inl (cAfCounts, 6, .inr (.inl fCountsA)))] sz) :=
  met_M (plainFor_of_name (by decide)) (Nat.le_of_ble_eq_true rfl) (fun p e R s m args below meth c ls hRc hRs hsz hin C0 hST hK hP hD hl => by
    obtain ⟨hx, hb, hr, hml, hown, hts, hlocks, hRf, hRl⟩ := id C0
    subst hsz
    have hA : ∀ q : Nat, s.heap.size ≤ q → va_A [(h0, .inr (3, [.int fFault, .int fPlace, .ref fTape, .ref fZone, .ref fCounts, .int fPos, .int fText])), (fTape, .inr (0, [.ref tpR, .int tpS])), (tpR, .inl (cAtpR, tpN, .inl tpA)), (fZone, .inr (8, [.int zVer, .int zTic, .int zTyc, .int zLec, .int zStc, .int zUtc, .ref zTi, .ref zTt, .ref zOf, .ref zDs, .ref zIx, .ref zSd, .ref zUt, .ref zCh, .ref zLt, .ref zLo, .ref zRu])), (zOf, .inl (cAzOf, 40, .inl zOfA)), (zDs, .inl (cAzDs, 40, .inl zDsA)), (zIx, .inl (cAzIx, 40, .inl zIxA)), (fCounts, .inl (cAfCounts, 6, .inr (.inl fCountsA)))] s.heap.size q := fun q h => Or.inr h
    have hS : va_S (va_A [(h0, .inr (3, [.int fFault, .int fPlace, .ref fTape, .ref fZone, .ref fCounts, .int fPos, .int fText])), (fTape, .inr (0, [.ref tpR, .int tpS])), (tpR, .inl (cAtpR, tpN, .inl tpA)), (fZone, .inr (8, [.int zVer, .int zTic, .int zTyc, .int zLec, .int zStc, .int zUtc, .ref zTi, .ref zTt, .ref zOf, .ref zDs, .ref zIx, .ref zSd, .ref zUt, .ref zCh, .ref zLt, .ref zLo, .ref zRu])), (zOf, .inl (cAzOf, 40, .inl zOfA)), (zDs, .inl (cAzDs, 40, .inl zDsA)), (zIx, .inl (cAzIx, 40, .inl zIxA)), (fCounts, .inl (cAfCounts, 6, .inr (.inl fCountsA)))] s.heap.size) s.heap s.heap [] := va_S.rf
    unfold f_FP_readTypes at hf
    exact k_FP_readTypes_0 C0 hST hA (fun pc ls {q2} {nA2} H locs hd hn hP hD hS hK => W.zret hx hb hr hn (fun t ht hW => ⟨⟨rfl, ⟨q2, nA2, by rw [ht]; exact hP, va_K.moved hW.alike hK, hD⟩⟩, hS.F ht⟩) hS.2.2 hd) hf hK hP hD hS (lv_sub hl [0] rfl))
-- ZoneFiles$FileParser.readChars(I)Z
def f_FP_readChars_62 (nf : Nat) (zTyc : Int32) (zIxA : Nat → Int32) (ruSp : Int32) (ruSs : Int32) (ruUp : Int32) (ruUs : Int32) (txS : Int32) (txN : Nat) (txA : Nat → Int32) : Nat → Int32 → Int32 → Int32 → Int32 → Int32 → Int32 → Nat → (Nat → Int32) → Option ((Int32 × Int32 × Int32 × Int32 × Int32 × Nat × (Nat → Int32)) × Nat × Nat)
  | 0, _, _, _, _, _, _, _, _ => none
  | n + 1, x3, x1, w0_0, w0_1, w0_5, w5_1, w6_n, w6_a =>
    if zTyc ≤ x3 then
    some ((1, w0_0, w0_1, w0_5, w5_1, w6_n, w6_a), 0, 0)
    else
    (f_FP_nameFits nf x3 zTyc zIxA w5_1 w6_n w6_a ruSp ruSs ruUp ruUs txS txN txA).bind fun r_17 =>
      if r_17 = 0 then
      (f_FP_fail nf 10 ((x1 + (6 * x3)) + 5) w0_0 w0_1).bind fun (z_19, z_20, z_21) =>
        if z_19 = 0 ∨ z_19 = 1 then some ((z_19, z_20, z_21, w0_5, w5_1, w6_n, w6_a), 0, 0) else none
      else
      f_FP_readChars_62 nf zTyc zIxA ruSp ruSs ruUp ruUs txS txN txA n (x3 + 1) x1 w0_0 w0_1 w0_5 w5_1 w6_n w6_a
def f_FP_readChars_0 (nf : Nat) (tpS : Int32) (tpN : Nat) (tpA : Nat → Int32) (zTyc : Int32) (zIxA : Nat → Int32) (ruSp : Int32) (ruSs : Int32) (ruUp : Int32) (ruUs : Int32) (txS : Int32) (txN : Nat) (txA : Nat → Int32) (fCountsA : Nat → Int64) (x1 : Int32) (w0_0 : Int32) (w0_1 : Int32) (w0_5 : Int32) (w5_1 : Int32) (w6_n : Nat) (w6_a : Nat → Int32) : Option ((Int32 × Int32 × Int32 × Int32 × Int32 × Nat × (Nat → Int32)) × Nat × Nat) :=
  (f_FP_count nf 5 fCountsA).bind fun r_1 =>
  (f_FP_hasMore nf r_1 w0_0 w0_1 w0_5 tpS).bind fun (z_2, z_3, z_4) =>
  if z_2 = 0 then
  some ((0, z_3, z_4, w0_5, w5_1, w6_n, w6_a), 0, 0)
  else
  (f_By_clear nf w5_1).bind fun z_6 =>
    (f_By_putAll nf w0_5 (w0_5 + r_1) z_6 w6_n w6_a tpS tpN tpA).bind fun ((z_7, z_8, z_9), kc_14, ks_15) =>
    ad kc_14 ks_15 (f_FP_readChars_62 nf zTyc zIxA ruSp ruSs ruUp ruUs txS txN txA nf 0 x1 z_3 z_4 (w0_5 + r_1) z_7 z_8 z_9)
def f_FP_readChars (nf : Nat) (p0 : Int32) (fFault : Int32) (fPlace : Int32) (fPos : Int32) (tpS : Int32) (tpN : Nat) (tpA : Nat → Int32) (zTyc : Int32) (zIxA : Nat → Int32) (chS : Int32) (chN : Nat) (chA : Nat → Int32) (ruSp : Int32) (ruSs : Int32) (ruUp : Int32) (ruUs : Int32) (txS : Int32) (txN : Nat) (txA : Nat → Int32) (fCountsA : Nat → Int64) : Option ((Int32 × Int32 × Int32 × Int32 × Int32 × Nat × (Nat → Int32)) × Nat × Nat) :=
  f_FP_readChars_0 nf tpS tpN tpA zTyc zIxA ruSp ruSs ruUp ruUs txS txN txA fCountsA p0 fFault fPlace fPos chS chN chA
section
variable {p : Program} {l : Launch} {e : Env} {R : Room} {s : State} {m : MethodId} {args : Array Value} {below : List Frame} {meth : Method} {c : Code} {Q : State → Prop} {dC : Nat → ClassId} {dI : Nat → Nat → Nat} {nf : Nat} {A : Nat → Prop}
variable {h0 : Nat} {fTape : Nat} {fZone : Nat} {fCounts : Nat} {tpR : Nat} {zTi : Nat} {zTt : Nat} {zOf : Nat} {zDs : Nat} {zIx : Nat} {zSd : Nat} {zUt : Nat} {zCh : Nat} {zLt : Nat} {zLo : Nat} {zRu : Nat} {chR : Nat} {ruT : Nat} {ruB : Nat} {ruE : Nat} {txR : Nat} {cAtpR : ClassId} {cAzIx : ClassId} {cAchR : ClassId} {cAtxR : ClassId} {cAfCounts : ClassId} {fFault : Int32} {fPlace : Int32} {fPos : Int32} {fText : Int32} {tpS : Int32} {tpN : Nat} {tpA : Nat → Int32} {zVer : Int32} {zTic : Int32} {zTyc : Int32} {zLec : Int32} {zStc : Int32} {zUtc : Int32} {zIxA : Nat → Int32} {chS : Int32} {chN : Nat} {chA : Nat → Int32} {ruHas : Int32} {ruWide : Int32} {ruSo : Int32} {ruUo : Int32} {ruSp : Int32} {ruSs : Int32} {ruUp : Int32} {ruUs : Int32} {ruNev : Int32} {txS : Int32} {txN : Nat} {txA : Nat → Int32} {fCountsA : Nat → Int64} {r0 : Int32} {v0_0 : Int32} {v0_1 : Int32} {v0_5 : Int32} {v5_1 : Int32} {v6_n : Nat} {v6_a : Nat → Int32}
set_option maxHeartbeats 400000 in
set_option maxRecDepth 100000 in
theorem k_FP_readChars_62 (C0 : Cx p s m meth c args R b_FP_readChars "ZoneFiles$FileParser" 4 (some .boolean) 4 86) (hST : ST A s s.heap) (hA : ∀ q, s.heap.size ≤ q → A q) (hE : ∀ (pc : Nat) (ls : Array Slot) {q2 : Nat} {q6 : Nat} {q9 : Nat} {nA2 : ClassId} {nA6 : ClassId} {nA9 : ClassId} (H : Heap) (locs : List Loc), decode b_FP_readChars pc = .ok (.ireturn, 1) → narrow .boolean (.int r0) = .int r0 → va_P (dC, dI) classes [(h0, .inr (3, [.int v0_0, .int v0_1, .ref fTape, .ref fZone, .ref fCounts, .int v0_5, .int fText])), (fTape, .inr (0, [.ref q2, .int tpS])), (q2, .inl (nA2, tpN, .inl tpA)), (fZone, .inr (8, [.int zVer, .int zTic, .int zTyc, .int zLec, .int zStc, .int zUtc, .ref zTi, .ref zTt, .ref zOf, .ref zDs, .ref zIx, .ref zSd, .ref zUt, .ref zCh, .ref zLt, .ref zLo, .ref zRu])), (zIx, .inl (cAzIx, 40, .inl zIxA)), (zCh, .inr (0, [.ref q6, .int v5_1])), (q6, .inl (nA6, v6_n, .inl v6_a)), (zRu, .inr (5, [.ref ruT, .ref ruB, .ref ruE, .int ruHas, .int ruWide, .int ruSo, .int ruUo, .int ruSp, .int ruSs, .int ruUp, .int ruUs, .int ruNev])), (ruT, .inr (0, [.ref q9, .int txS])), (q9, .inl (nA9, txN, .inl txA)), (fCounts, .inl (cAfCounts, 6, .inr (.inl fCountsA)))] H → va_D A [(h0, .inr (3, [.int v0_0, .int v0_1, .ref fTape, .ref fZone, .ref fCounts, .int v0_5, .int fText])), (fTape, .inr (0, [.ref q2, .int tpS])), (q2, .inl (nA2, tpN, .inl tpA)), (fZone, .inr (8, [.int zVer, .int zTic, .int zTyc, .int zLec, .int zStc, .int zUtc, .ref zTi, .ref zTt, .ref zOf, .ref zDs, .ref zIx, .ref zSd, .ref zUt, .ref zCh, .ref zLt, .ref zLo, .ref zRu])), (zIx, .inl (cAzIx, 40, .inl zIxA)), (zCh, .inr (0, [.ref q6, .int v5_1])), (q6, .inl (nA6, v6_n, .inl v6_a)), (zRu, .inr (5, [.ref ruT, .ref ruB, .ref ruE, .int ruHas, .int ruWide, .int ruSo, .int ruUo, .int ruSp, .int ruSs, .int ruUp, .int ruUs, .int ruNev])), (ruT, .inr (0, [.ref q9, .int txS])), (q9, .inl (nA9, txN, .inl txA)), (fCounts, .inl (cAfCounts, 6, .inr (.inl fCountsA)))] → va_S A s.heap H locs → va_K (dC, dI) classes [(nA2, .byte), (cAzIx, .int), (nA6, .byte), (nA9, .byte), (cAfCounts, .long)] s → W p l e R s m args below meth c H locs R.cells R.slots Q (F0 m pc ls [.int r0])) : ∀ (n : Nat) {x3 : Int32} {x1 : Int32} {w0_0 : Int32} {w0_1 : Int32} {w0_5 : Int32} {w5_1 : Int32} {w6_n : Nat} {w6_a : Nat → Int32} {kc ks : Nat}, f_FP_readChars_62 nf zTyc zIxA ruSp ruSs ruUp ruUs txS txN txA n x3 x1 w0_0 w0_1 w0_5 w5_1 w6_n w6_a = some ((r0, v0_0, v0_1, v0_5, v5_1, v6_n, v6_a), kc, ks) → ∀ {q2 : Nat} {nA2 : ClassId} {q6 : Nat} {nA6 : ClassId} {q9 : Nat} {nA9 : ClassId} {cells slots : Nat} {H : Heap} {locs : List Loc} {ls : Array Slot}, va_K (dC, dI) classes [(nA2, .byte), (cAzIx, .int), (nA6, .byte), (nA9, .byte), (cAfCounts, .long)] s → va_P (dC, dI) classes [(h0, .inr (3, [.int w0_0, .int w0_1, .ref fTape, .ref fZone, .ref fCounts, .int w0_5, .int fText])), (fTape, .inr (0, [.ref q2, .int tpS])), (q2, .inl (nA2, tpN, .inl tpA)), (fZone, .inr (8, [.int zVer, .int zTic, .int zTyc, .int zLec, .int zStc, .int zUtc, .ref zTi, .ref zTt, .ref zOf, .ref zDs, .ref zIx, .ref zSd, .ref zUt, .ref zCh, .ref zLt, .ref zLo, .ref zRu])), (zIx, .inl (cAzIx, 40, .inl zIxA)), (zCh, .inr (0, [.ref q6, .int w5_1])), (q6, .inl (nA6, w6_n, .inl w6_a)), (zRu, .inr (5, [.ref ruT, .ref ruB, .ref ruE, .int ruHas, .int ruWide, .int ruSo, .int ruUo, .int ruSp, .int ruSs, .int ruUp, .int ruUs, .int ruNev])), (ruT, .inr (0, [.ref q9, .int txS])), (q9, .inl (nA9, txN, .inl txA)), (fCounts, .inl (cAfCounts, 6, .inr (.inl fCountsA)))] H → va_D A [(h0, .inr (3, [.int w0_0, .int w0_1, .ref fTape, .ref fZone, .ref fCounts, .int w0_5, .int fText])), (fTape, .inr (0, [.ref q2, .int tpS])), (q2, .inl (nA2, tpN, .inl tpA)), (fZone, .inr (8, [.int zVer, .int zTic, .int zTyc, .int zLec, .int zStc, .int zUtc, .ref zTi, .ref zTt, .ref zOf, .ref zDs, .ref zIx, .ref zSd, .ref zUt, .ref zCh, .ref zLt, .ref zLo, .ref zRu])), (zIx, .inl (cAzIx, 40, .inl zIxA)), (zCh, .inr (0, [.ref q6, .int w5_1])), (q6, .inl (nA6, w6_n, .inl w6_a)), (zRu, .inr (5, [.ref ruT, .ref ruB, .ref ruE, .int ruHas, .int ruWide, .int ruSo, .int ruUo, .int ruSp, .int ruSs, .int ruUp, .int ruUs, .int ruNev])), (ruT, .inr (0, [.ref q9, .int txS])), (q9, .inl (nA9, txN, .inl txA)), (fCounts, .inl (cAfCounts, 6, .inr (.inl fCountsA)))] → va_S A s.heap H locs → cells + kc = R.cells → slots + ks = R.slots → lv_has ls 4 [(3, .int x3), (0, .ref h0), (1, .int x1)] → W p l e R s m args below meth c H locs cells slots Q (F0 m 62 ls []) := by
  obtain ⟨hx, hb, hr, hml, hown, hts, hlocks, hRf, hRl⟩ := id C0
  obtain ⟨tms, hZms, hTms, tmg, hZmg, hTmg, hNW⟩ := id hST
  intro n
  induction n with
  | zero =>
    intro x3 x1 w0_0 w0_1 w0_5 w5_1 w6_n w6_a kc ks hf
    exact absurd hf (by simp [f_FP_readChars_62])
  | succ n ih =>
    intro x3 x1 w0_0 w0_1 w0_5 w5_1 w6_n w6_a kc ks hf q2 nA2 q6 nA6 q9 nA9 cells slots H locs ls hK hP hD hS hkc hks hl
    unfold f_FP_readChars_62 at hf
    refine lv_iload_n hx hb d_FP_readChars_62 rfl (lv_at hl 0 rfl) ?_
    refine lv_aload_n hx hb d_FP_readChars_63 rfl (lv_at hl 1 rfl) ?_
    refine va_get (D := (dC, dI)) (ci := 3) (v := .ref fZone) (C := RFileParser) (T := TFileParser) (N := 7) hx hb hts in_FileParser hown hK hP 0 rfl rfl 3 (by decide) (hts (.fieldLink "ZoneFiles$FileParser" 15 "ZoneFiles$FileParser" "zone" "LZoneFiles$Zone;") m_3_161) (fun _ h9 => h9) rfl d_FP_readChars_64 ?_
    refine va_get (D := (dC, dI)) (ci := 8) (v := .int zTyc) (C := RZone) (T := TZone) (N := 17) hx hb hts in_Zone hown hK hP 3 rfl rfl 2 (by decide) (hts (.fieldLink "ZoneFiles$FileParser" 126 "ZoneFiles$Zone" "typeCount" "I") m_1_173) (fun _ h9 => h9) rfl d_FP_readChars_67 ?_
    refine lv_icmp_ge (tgt := 102) hx hb d_FP_readChars_70 (by decide) (fun c_16 => ?_) (fun c_16 => ?_)
    · have hf := it_t c_16 hf
      refine lv_iconst (v := 1) hx hb d_FP_readChars_102 (by decide) ?_
      cases rs hf
      have hkc : cells = R.cells := hkc
      have hks : slots = R.slots := hks
      subst hkc; subst hks
      exact hE _ _ _ _ d_FP_readChars_103 rfl hP hD hS hK
    · have hf := it_f c_16 hf
      refine lv_aload_n hx hb d_FP_readChars_73 rfl (lv_at hl 1 rfl) ?_
      refine lv_iload_n hx hb d_FP_readChars_74 rfl (lv_at hl 0 rfl) ?_
      obtain ⟨r_17, hc, hf⟩ := ob hf
      refine cl_S (v := (some (.int r_17))) (st1 := [.int r_17]) (va_runV (As := [.int x3]) (rest := []) ⟨hx, hb, hml, hown, hts⟩ (c_FP_nameFits l dC dI h0 fTape fZone fCounts zTi zTt zOf zDs zIx zSd zUt zCh zLt zLo zRu q6 ruT ruB ruE q9 cAzIx nA6 nA9 nf x3 w0_0 w0_1 w0_5 fText zVer zTic zTyc zLec zStc zUtc zIxA w5_1 w6_n w6_a ruHas ruWide ruSo ruUo ruSp ruSs ruUp ruUs ruNev txS txN txA hc) (cwV 1 hts (gdV m_4_13 m_4_15 msel_26 m_1_16 m_4_16) rfl rfl rfl (by decide +kernel) ⟨Nat.le_trans (Nat.le_of_ble_eq_true rfl) hRf, Nat.le_trans (Nat.le_of_ble_eq_true rfl) hRl⟩) ((RO.pre (hP.sub (ws' := [(h0, .inr (3, [.int w0_0, .int w0_1, .ref fTape, .ref fZone, .ref fCounts, .int w0_5, .int fText])), (fZone, .inr (8, [.int zVer, .int zTic, .int zTyc, .int zLec, .int zStc, .int zUtc, .ref zTi, .ref zTt, .ref zOf, .ref zDs, .ref zIx, .ref zSd, .ref zUt, .ref zCh, .ref zLt, .ref zLo, .ref zRu])), (zIx, .inl (cAzIx, 40, .inl zIxA)), (zCh, .inr (0, [.ref q6, .int w5_1])), (q6, .inl (nA6, w6_n, .inl w6_a)), (zRu, .inr (5, [.ref ruT, .ref ruB, .ref ruE, .int ruHas, .int ruWide, .int ruSo, .int ruUo, .int ruSp, .int ruSs, .int ruUp, .int ruUs, .int ruNev])), (ruT, .inr (0, [.ref q9, .int txS])), (q9, .inl (nA9, txN, .inl txA))]) [0, 3, 4, 5, 6, 7, 8, 9] rfl) (hK.sub (tys' := [(cAzIx, .int), (nA6, .byte), (nA9, .byte)]) [1, 2, 3] rfl) (hST.ro hS)).vir (va_recv (hK.sub (tys' := [(cAzIx, .int), (nA6, .byte), (nA9, .byte)]) [1, 2, 3] rfl) (hP.sub (ws' := [(h0, .inr (3, [.int w0_0, .int w0_1, .ref fTape, .ref fZone, .ref fCounts, .int w0_5, .int fText])), (fZone, .inr (8, [.int zVer, .int zTic, .int zTyc, .int zLec, .int zStc, .int zUtc, .ref zTi, .ref zTt, .ref zOf, .ref zDs, .ref zIx, .ref zSd, .ref zUt, .ref zCh, .ref zLt, .ref zLo, .ref zRu])), (zIx, .inl (cAzIx, 40, .inl zIxA)), (zCh, .inr (0, [.ref q6, .int w5_1])), (q6, .inl (nA6, w6_n, .inl w6_a)), (zRu, .inr (5, [.ref ruT, .ref ruB, .ref ruE, .int ruHas, .int ruWide, .int ruSo, .int ruUo, .int ruSp, .int ruSs, .int ruUp, .int ruUs, .int ruNev])), (ruT, .inr (0, [.ref q9, .int txS])), (q9, .inl (nA9, txN, .inl txA))]) [0, 3, 4, 5, 6, 7, 8, 9] rfl) (ci := 3) (q0 := 0) rfl rfl)) rfl rfl hl.1 rfl (lv_room (Nat.le_of_ble_eq_true rfl)) d_FP_readChars_75 ⟨c0 hkc, c0 hks⟩) rfl ?_
      refine lv_if_ne (tgt := 96) hx hb d_FP_readChars_78 (by decide) (fun c_18 => ?_) (fun c_18 => ?_)
      · have hf := it_f c_18 hf
        refine lv_iinc (v := x3 + 1) (lv' := [(3, .int (x3 + 1)), (0, .ref h0), (1, .int x1)]) hx hb d_FP_readChars_96 hl (k := 0) rfl rfl (by decide) rfl (fun ls hl => ?_)
        refine lv_goto (tgt := 62) hx hb d_FP_readChars_99 (by decide) ?_
        exact ih hf hK hP hD hS hkc hks (lv_sub hl [0, 1, 2] rfl)
      · have hf := it_t c_18 hf
        refine lv_aload_n hx hb d_FP_readChars_81 rfl (lv_at hl 1 rfl) ?_
        refine lv_bipush (v := 10) hx hb d_FP_readChars_82 (by decide) ?_
        refine lv_iload_n hx hb d_FP_readChars_84 rfl (lv_at hl 2 rfl) ?_
        refine lv_bipush (v := 6) hx hb d_FP_readChars_85 (by decide) ?_
        refine lv_iload_n hx hb d_FP_readChars_87 rfl (lv_at hl 0 rfl) ?_
        refine lv_imul hx hb d_FP_readChars_88 ?_
        refine lv_iadd hx hb d_FP_readChars_89 ?_
        refine lv_iconst (v := 5) hx hb d_FP_readChars_90 (by decide) ?_
        refine lv_iadd hx hb d_FP_readChars_91 ?_
        obtain ⟨⟨z_19, z_20, z_21⟩, hc, hf⟩ := ob hf
        have hPc := hP.sub (ws' := [(h0, .inr (3, [.int w0_0, .int w0_1, .ref fTape, .ref fZone, .ref fCounts, .int w0_5, .int fText]))]) [0] rfl
        have hDc := hD.sub (ws' := [(h0, .inr (3, [.int w0_0, .int w0_1, .ref fTape, .ref fZone, .ref fCounts, .int w0_5, .int fText]))]) [0] (by decide) rfl
        have hKc := hK.sub (tys' := []) [] rfl
        have hFc := va_free (wc := [(h0, .inr (3, [.int w0_0, .int w0_1, .ref fTape, .ref fZone, .ref fCounts, .int w0_5, .int fText]))]) hD hS hA [0] rfl
        refine cl_M (v := (some (.int z_19))) (st1 := [.int z_19]) (va_runV (As := [.int 10, .int ((x1 + (6 * x3)) + 5)]) (rest := []) ⟨hx, hb, hml, hown, hts⟩ (c_FP_fail l dC dI h0 fTape fZone fCounts H.size nf 10 ((x1 + (6 * x3)) + 5) w0_0 w0_1 w0_5 fText hc) (cwV 2 hts (gdV m_3_191 m_3_193 msel_16 m_1_16 m_3_194) rfl rfl rfl (by decide +kernel) ⟨Nat.le_trans (Nat.le_of_ble_eq_true rfl) hRf, Nat.le_trans (Nat.le_of_ble_eq_true rfl) hRl⟩) ((MU.pre hPc hKc hDc (hST.mu hS hFc)).vir (va_recv hKc hPc (ci := 3) (q0 := 0) rfl rfl)) rfl rfl hl.1 rfl (lv_room (Nat.le_of_ble_eq_true rfl)) d_FP_readChars_92 ⟨c0 hkc, c0 hks⟩) rfl hS (fun q _ h => hFc q h) hFc (fun t H1 locs ht hvm hB hz1 hk1 hS => ?_)
        obtain ⟨hP1, hK1, hD1⟩ := hB
        rw [ht] at hP1
        have hK1 := va_K.moved hvm.symm hK1
        obtain ⟨hP, hD⟩ := va_join (wr := [(fTape, .inr (0, [.ref q2, .int tpS])), (q2, .inl (nA2, tpN, .inl tpA)), (fZone, .inr (8, [.int zVer, .int zTic, .int zTyc, .int zLec, .int zStc, .int zUtc, .ref zTi, .ref zTt, .ref zOf, .ref zDs, .ref zIx, .ref zSd, .ref zUt, .ref zCh, .ref zLt, .ref zLo, .ref zRu])), (zIx, .inl (cAzIx, 40, .inl zIxA)), (zCh, .inr (0, [.ref q6, .int w5_1])), (q6, .inl (nA6, w6_n, .inl w6_a)), (zRu, .inr (5, [.ref ruT, .ref ruB, .ref ruE, .int ruHas, .int ruWide, .int ruSo, .int ruUo, .int ruSp, .int ruSs, .int ruUp, .int ruUs, .int ruNev])), (ruT, .inr (0, [.ref q9, .int txS])), (q9, .inl (nA9, txN, .inl txA)), (fCounts, .inl (cAfCounts, 6, .inr (.inl fCountsA)))]) (w1 := [(h0, .inr (3, [.int z_20, .int z_21, .ref fTape, .ref fZone, .ref fCounts, .int w0_5, .int fText]))]) hP hD [0] [1, 2, 3, 4, 5, 6, 7, 8, 9, 10] rfl rfl (by decide) (by decide) hk1 hFc hP1 hD1
        have hK := (hK.sub (tys' := [(nA2, .byte), (cAzIx, .int), (nA6, .byte), (nA9, .byte), (cAfCounts, .long)]) [0, 1, 2, 3, 4] rfl).app hK1
        generalize H1 = H at hP hS ⊢
        have hP := hP.sub (ws' := [(h0, .inr (3, [.int z_20, .int z_21, .ref fTape, .ref fZone, .ref fCounts, .int w0_5, .int fText])), (fTape, .inr (0, [.ref q2, .int tpS])), (q2, .inl (nA2, tpN, .inl tpA)), (fZone, .inr (8, [.int zVer, .int zTic, .int zTyc, .int zLec, .int zStc, .int zUtc, .ref zTi, .ref zTt, .ref zOf, .ref zDs, .ref zIx, .ref zSd, .ref zUt, .ref zCh, .ref zLt, .ref zLo, .ref zRu])), (zIx, .inl (cAzIx, 40, .inl zIxA)), (zCh, .inr (0, [.ref q6, .int w5_1])), (q6, .inl (nA6, w6_n, .inl w6_a)), (zRu, .inr (5, [.ref ruT, .ref ruB, .ref ruE, .int ruHas, .int ruWide, .int ruSo, .int ruUo, .int ruSp, .int ruSs, .int ruUp, .int ruUs, .int ruNev])), (ruT, .inr (0, [.ref q9, .int txS])), (q9, .inl (nA9, txN, .inl txA)), (fCounts, .inl (cAfCounts, 6, .inr (.inl fCountsA)))]) [10, 0, 1, 2, 3, 4, 5, 6, 7, 8, 9] rfl
        have hD := hD.sub (ws' := [(h0, .inr (3, [.int z_20, .int z_21, .ref fTape, .ref fZone, .ref fCounts, .int w0_5, .int fText])), (fTape, .inr (0, [.ref q2, .int tpS])), (q2, .inl (nA2, tpN, .inl tpA)), (fZone, .inr (8, [.int zVer, .int zTic, .int zTyc, .int zLec, .int zStc, .int zUtc, .ref zTi, .ref zTt, .ref zOf, .ref zDs, .ref zIx, .ref zSd, .ref zUt, .ref zCh, .ref zLt, .ref zLo, .ref zRu])), (zIx, .inl (cAzIx, 40, .inl zIxA)), (zCh, .inr (0, [.ref q6, .int w5_1])), (q6, .inl (nA6, w6_n, .inl w6_a)), (zRu, .inr (5, [.ref ruT, .ref ruB, .ref ruE, .int ruHas, .int ruWide, .int ruSo, .int ruUo, .int ruSp, .int ruSs, .int ruUp, .int ruUs, .int ruNev])), (ruT, .inr (0, [.ref q9, .int txS])), (q9, .inl (nA9, txN, .inl txA)), (fCounts, .inl (cAfCounts, 6, .inr (.inl fCountsA)))]) [10, 0, 1, 2, 3, 4, 5, 6, 7, 8, 9] (by decide) rfl
        have hK := hK.sub (tys' := [(nA2, .byte), (cAzIx, .int), (nA6, .byte), (nA9, .byte), (cAfCounts, .long)]) [0, 1, 2, 3, 4] rfl
        obtain ⟨c_22, hf⟩ := it_g hf
        cases rs hf
        have hkc : cells = R.cells := hkc
        have hks : slots = R.slots := hks
        subst hkc; subst hks
        exact hE _ _ _ _ d_FP_readChars_95 (nb_of c_22) hP hD hS hK
set_option maxHeartbeats 400000 in
set_option maxRecDepth 100000 in
theorem k_FP_readChars_0 (C0 : Cx p s m meth c args R b_FP_readChars "ZoneFiles$FileParser" 4 (some .boolean) 4 86) (hST : ST A s s.heap) (hA : ∀ q, s.heap.size ≤ q → A q) (hE : ∀ (pc : Nat) (ls : Array Slot) {q2 : Nat} {q6 : Nat} {q9 : Nat} {nA2 : ClassId} {nA6 : ClassId} {nA9 : ClassId} (H : Heap) (locs : List Loc), decode b_FP_readChars pc = .ok (.ireturn, 1) → narrow .boolean (.int r0) = .int r0 → va_P (dC, dI) classes [(h0, .inr (3, [.int v0_0, .int v0_1, .ref fTape, .ref fZone, .ref fCounts, .int v0_5, .int fText])), (fTape, .inr (0, [.ref q2, .int tpS])), (q2, .inl (nA2, tpN, .inl tpA)), (fZone, .inr (8, [.int zVer, .int zTic, .int zTyc, .int zLec, .int zStc, .int zUtc, .ref zTi, .ref zTt, .ref zOf, .ref zDs, .ref zIx, .ref zSd, .ref zUt, .ref zCh, .ref zLt, .ref zLo, .ref zRu])), (zIx, .inl (cAzIx, 40, .inl zIxA)), (zCh, .inr (0, [.ref q6, .int v5_1])), (q6, .inl (nA6, v6_n, .inl v6_a)), (zRu, .inr (5, [.ref ruT, .ref ruB, .ref ruE, .int ruHas, .int ruWide, .int ruSo, .int ruUo, .int ruSp, .int ruSs, .int ruUp, .int ruUs, .int ruNev])), (ruT, .inr (0, [.ref q9, .int txS])), (q9, .inl (nA9, txN, .inl txA)), (fCounts, .inl (cAfCounts, 6, .inr (.inl fCountsA)))] H → va_D A [(h0, .inr (3, [.int v0_0, .int v0_1, .ref fTape, .ref fZone, .ref fCounts, .int v0_5, .int fText])), (fTape, .inr (0, [.ref q2, .int tpS])), (q2, .inl (nA2, tpN, .inl tpA)), (fZone, .inr (8, [.int zVer, .int zTic, .int zTyc, .int zLec, .int zStc, .int zUtc, .ref zTi, .ref zTt, .ref zOf, .ref zDs, .ref zIx, .ref zSd, .ref zUt, .ref zCh, .ref zLt, .ref zLo, .ref zRu])), (zIx, .inl (cAzIx, 40, .inl zIxA)), (zCh, .inr (0, [.ref q6, .int v5_1])), (q6, .inl (nA6, v6_n, .inl v6_a)), (zRu, .inr (5, [.ref ruT, .ref ruB, .ref ruE, .int ruHas, .int ruWide, .int ruSo, .int ruUo, .int ruSp, .int ruSs, .int ruUp, .int ruUs, .int ruNev])), (ruT, .inr (0, [.ref q9, .int txS])), (q9, .inl (nA9, txN, .inl txA)), (fCounts, .inl (cAfCounts, 6, .inr (.inl fCountsA)))] → va_S A s.heap H locs → va_K (dC, dI) classes [(nA2, .byte), (cAzIx, .int), (nA6, .byte), (nA9, .byte), (cAfCounts, .long)] s → W p l e R s m args below meth c H locs R.cells R.slots Q (F0 m pc ls [.int r0])) {x1 : Int32} {w0_0 : Int32} {w0_1 : Int32} {w0_5 : Int32} {w5_1 : Int32} {w6_n : Nat} {w6_a : Nat → Int32} {kc ks : Nat} (hf : f_FP_readChars_0 nf tpS tpN tpA zTyc zIxA ruSp ruSs ruUp ruUs txS txN txA fCountsA x1 w0_0 w0_1 w0_5 w5_1 w6_n w6_a = some ((r0, v0_0, v0_1, v0_5, v5_1, v6_n, v6_a), kc, ks)) {q2 : Nat} {nA2 : ClassId} {q6 : Nat} {nA6 : ClassId} {q9 : Nat} {nA9 : ClassId} {cells slots : Nat} {H : Heap} {locs : List Loc} {ls : Array Slot} (hK : va_K (dC, dI) classes [(nA2, .byte), (cAzIx, .int), (nA6, .byte), (nA9, .byte), (cAfCounts, .long)] s) (hP : va_P (dC, dI) classes [(h0, .inr (3, [.int w0_0, .int w0_1, .ref fTape, .ref fZone, .ref fCounts, .int w0_5, .int fText])), (fTape, .inr (0, [.ref q2, .int tpS])), (q2, .inl (nA2, tpN, .inl tpA)), (fZone, .inr (8, [.int zVer, .int zTic, .int zTyc, .int zLec, .int zStc, .int zUtc, .ref zTi, .ref zTt, .ref zOf, .ref zDs, .ref zIx, .ref zSd, .ref zUt, .ref zCh, .ref zLt, .ref zLo, .ref zRu])), (zIx, .inl (cAzIx, 40, .inl zIxA)), (zCh, .inr (0, [.ref q6, .int w5_1])), (q6, .inl (nA6, w6_n, .inl w6_a)), (zRu, .inr (5, [.ref ruT, .ref ruB, .ref ruE, .int ruHas, .int ruWide, .int ruSo, .int ruUo, .int ruSp, .int ruSs, .int ruUp, .int ruUs, .int ruNev])), (ruT, .inr (0, [.ref q9, .int txS])), (q9, .inl (nA9, txN, .inl txA)), (fCounts, .inl (cAfCounts, 6, .inr (.inl fCountsA)))] H) (hD : va_D A [(h0, .inr (3, [.int w0_0, .int w0_1, .ref fTape, .ref fZone, .ref fCounts, .int w0_5, .int fText])), (fTape, .inr (0, [.ref q2, .int tpS])), (q2, .inl (nA2, tpN, .inl tpA)), (fZone, .inr (8, [.int zVer, .int zTic, .int zTyc, .int zLec, .int zStc, .int zUtc, .ref zTi, .ref zTt, .ref zOf, .ref zDs, .ref zIx, .ref zSd, .ref zUt, .ref zCh, .ref zLt, .ref zLo, .ref zRu])), (zIx, .inl (cAzIx, 40, .inl zIxA)), (zCh, .inr (0, [.ref q6, .int w5_1])), (q6, .inl (nA6, w6_n, .inl w6_a)), (zRu, .inr (5, [.ref ruT, .ref ruB, .ref ruE, .int ruHas, .int ruWide, .int ruSo, .int ruUo, .int ruSp, .int ruSs, .int ruUp, .int ruUs, .int ruNev])), (ruT, .inr (0, [.ref q9, .int txS])), (q9, .inl (nA9, txN, .inl txA)), (fCounts, .inl (cAfCounts, 6, .inr (.inl fCountsA)))]) (hS : va_S A s.heap H locs) (hkc : cells + kc = R.cells) (hks : slots + ks = R.slots) (hl : lv_has ls 4 [(0, .ref h0), (1, .int x1)]) : W p l e R s m args below meth c H locs cells slots Q (F0 m 0 ls []) := by
  obtain ⟨hx, hb, hr, hml, hown, hts, hlocks, hRf, hRl⟩ := id C0
  obtain ⟨tms, hZms, hTms, tmg, hZmg, hTmg, hNW⟩ := id hST
  unfold f_FP_readChars_0 at hf
  refine lv_aload_n hx hb d_FP_readChars_0 rfl (lv_at hl 0 rfl) ?_
  refine lv_iconst (v := 5) hx hb d_FP_readChars_1 (by decide) ?_
  obtain ⟨r_1, hc, hf⟩ := ob hf
  refine cl_S (v := (some (.int r_1))) (st1 := [.int r_1]) (va_runV (As := [.int 5]) (rest := []) ⟨hx, hb, hml, hown, hts⟩ (c_FP_count l dC dI h0 fTape fZone fCounts cAfCounts nf 5 w0_0 w0_1 w0_5 fText fCountsA hc) (cwV 1 hts (gdV m_3_223 m_3_225 msel_21 m_1_16 m_3_226) rfl rfl rfl (by decide +kernel) ⟨Nat.le_trans (Nat.le_of_ble_eq_true rfl) hRf, Nat.le_trans (Nat.le_of_ble_eq_true rfl) hRl⟩) ((RO.pre (hP.sub (ws' := [(h0, .inr (3, [.int w0_0, .int w0_1, .ref fTape, .ref fZone, .ref fCounts, .int w0_5, .int fText])), (fCounts, .inl (cAfCounts, 6, .inr (.inl fCountsA)))]) [0, 10] rfl) (hK.sub (tys' := [(cAfCounts, .long)]) [4] rfl) (hST.ro hS)).vir (va_recv (hK.sub (tys' := [(cAfCounts, .long)]) [4] rfl) (hP.sub (ws' := [(h0, .inr (3, [.int w0_0, .int w0_1, .ref fTape, .ref fZone, .ref fCounts, .int w0_5, .int fText])), (fCounts, .inl (cAfCounts, 6, .inr (.inl fCountsA)))]) [0, 10] rfl) (ci := 3) (q0 := 0) rfl rfl)) rfl rfl hl.1 rfl (lv_room (Nat.le_of_ble_eq_true rfl)) d_FP_readChars_2 ⟨c0 hkc, c0 hks⟩) rfl ?_
  refine lv_istore_n (lv' := [(2, .int r_1), (0, .ref h0), (1, .int x1)]) hx hb d_FP_readChars_5 rfl hl (by decide) rfl (fun ls hl => ?_)
  refine lv_aload_n hx hb d_FP_readChars_6 rfl (lv_at hl 1 rfl) ?_
  refine lv_iload_n hx hb d_FP_readChars_7 rfl (lv_at hl 0 rfl) ?_
  obtain ⟨⟨z_2, z_3, z_4⟩, hc, hf⟩ := ob hf
  have hPc := hP.sub (ws' := [(h0, .inr (3, [.int w0_0, .int w0_1, .ref fTape, .ref fZone, .ref fCounts, .int w0_5, .int fText])), (fTape, .inr (0, [.ref q2, .int tpS]))]) [0, 1] rfl
  have hDc := hD.sub (ws' := [(h0, .inr (3, [.int w0_0, .int w0_1, .ref fTape, .ref fZone, .ref fCounts, .int w0_5, .int fText])), (fTape, .inr (0, [.ref q2, .int tpS]))]) [0, 1] (by decide) rfl
  have hKc := hK.sub (tys' := []) [] rfl
  have hFc := va_free (wc := [(h0, .inr (3, [.int w0_0, .int w0_1, .ref fTape, .ref fZone, .ref fCounts, .int w0_5, .int fText])), (fTape, .inr (0, [.ref q2, .int tpS]))]) hD hS hA [0, 1] rfl
  refine cl_M (v := (some (.int z_2))) (st1 := [.int z_2]) (va_runV (As := [.int r_1]) (rest := []) ⟨hx, hb, hml, hown, hts⟩ (c_FP_hasMore l dC dI h0 fTape fZone fCounts q2 H.size nf r_1 w0_0 w0_1 w0_5 fText tpS hc) (cwV 1 hts (gdV m_3_199 m_3_201 msel_18 m_1_16 m_3_202) rfl rfl rfl (by decide +kernel) ⟨Nat.le_trans (Nat.le_of_ble_eq_true rfl) hRf, Nat.le_trans (Nat.le_of_ble_eq_true rfl) hRl⟩) ((MU.pre hPc hKc hDc (hST.mu hS hFc)).vir (va_recv hKc hPc (ci := 3) (q0 := 0) rfl rfl)) rfl rfl hl.1 rfl (lv_room (Nat.le_of_ble_eq_true rfl)) d_FP_readChars_8 ⟨c0 hkc, c0 hks⟩) rfl hS (fun q _ h => hFc q h) hFc (fun t H1 locs ht hvm hB hz1 hk1 hS => ?_)
  obtain ⟨hP1, hK1, hD1⟩ := hB
  rw [ht] at hP1
  have hK1 := va_K.moved hvm.symm hK1
  obtain ⟨hP, hD⟩ := va_join (wr := [(q2, .inl (nA2, tpN, .inl tpA)), (fZone, .inr (8, [.int zVer, .int zTic, .int zTyc, .int zLec, .int zStc, .int zUtc, .ref zTi, .ref zTt, .ref zOf, .ref zDs, .ref zIx, .ref zSd, .ref zUt, .ref zCh, .ref zLt, .ref zLo, .ref zRu])), (zIx, .inl (cAzIx, 40, .inl zIxA)), (zCh, .inr (0, [.ref q6, .int w5_1])), (q6, .inl (nA6, w6_n, .inl w6_a)), (zRu, .inr (5, [.ref ruT, .ref ruB, .ref ruE, .int ruHas, .int ruWide, .int ruSo, .int ruUo, .int ruSp, .int ruSs, .int ruUp, .int ruUs, .int ruNev])), (ruT, .inr (0, [.ref q9, .int txS])), (q9, .inl (nA9, txN, .inl txA)), (fCounts, .inl (cAfCounts, 6, .inr (.inl fCountsA)))]) (w1 := [(h0, .inr (3, [.int z_3, .int z_4, .ref fTape, .ref fZone, .ref fCounts, .int w0_5, .int fText])), (fTape, .inr (0, [.ref q2, .int tpS]))]) hP hD [0, 1] [2, 3, 4, 5, 6, 7, 8, 9, 10] rfl rfl (by decide) (by decide) hk1 hFc hP1 hD1
  have hK := (hK.sub (tys' := [(nA2, .byte), (cAzIx, .int), (nA6, .byte), (nA9, .byte), (cAfCounts, .long)]) [0, 1, 2, 3, 4] rfl).app hK1
  generalize H1 = H at hP hS ⊢
  have hP := hP.sub (ws' := [(h0, .inr (3, [.int z_3, .int z_4, .ref fTape, .ref fZone, .ref fCounts, .int w0_5, .int fText])), (fTape, .inr (0, [.ref q2, .int tpS])), (q2, .inl (nA2, tpN, .inl tpA)), (fZone, .inr (8, [.int zVer, .int zTic, .int zTyc, .int zLec, .int zStc, .int zUtc, .ref zTi, .ref zTt, .ref zOf, .ref zDs, .ref zIx, .ref zSd, .ref zUt, .ref zCh, .ref zLt, .ref zLo, .ref zRu])), (zIx, .inl (cAzIx, 40, .inl zIxA)), (zCh, .inr (0, [.ref q6, .int w5_1])), (q6, .inl (nA6, w6_n, .inl w6_a)), (zRu, .inr (5, [.ref ruT, .ref ruB, .ref ruE, .int ruHas, .int ruWide, .int ruSo, .int ruUo, .int ruSp, .int ruSs, .int ruUp, .int ruUs, .int ruNev])), (ruT, .inr (0, [.ref q9, .int txS])), (q9, .inl (nA9, txN, .inl txA)), (fCounts, .inl (cAfCounts, 6, .inr (.inl fCountsA)))]) [9, 10, 0, 1, 2, 3, 4, 5, 6, 7, 8] rfl
  have hD := hD.sub (ws' := [(h0, .inr (3, [.int z_3, .int z_4, .ref fTape, .ref fZone, .ref fCounts, .int w0_5, .int fText])), (fTape, .inr (0, [.ref q2, .int tpS])), (q2, .inl (nA2, tpN, .inl tpA)), (fZone, .inr (8, [.int zVer, .int zTic, .int zTyc, .int zLec, .int zStc, .int zUtc, .ref zTi, .ref zTt, .ref zOf, .ref zDs, .ref zIx, .ref zSd, .ref zUt, .ref zCh, .ref zLt, .ref zLo, .ref zRu])), (zIx, .inl (cAzIx, 40, .inl zIxA)), (zCh, .inr (0, [.ref q6, .int w5_1])), (q6, .inl (nA6, w6_n, .inl w6_a)), (zRu, .inr (5, [.ref ruT, .ref ruB, .ref ruE, .int ruHas, .int ruWide, .int ruSo, .int ruUo, .int ruSp, .int ruSs, .int ruUp, .int ruUs, .int ruNev])), (ruT, .inr (0, [.ref q9, .int txS])), (q9, .inl (nA9, txN, .inl txA)), (fCounts, .inl (cAfCounts, 6, .inr (.inl fCountsA)))]) [9, 10, 0, 1, 2, 3, 4, 5, 6, 7, 8] (by decide) rfl
  have hK := hK.sub (tys' := [(nA2, .byte), (cAzIx, .int), (nA6, .byte), (nA9, .byte), (cAfCounts, .long)]) [0, 1, 2, 3, 4] rfl
  refine lv_if_ne (tgt := 16) hx hb d_FP_readChars_11 (by decide) (fun c_5 => ?_) (fun c_5 => ?_)
  · have hf := it_f c_5 hf
    refine lv_aload_n hx hb d_FP_readChars_16 rfl (lv_at hl 1 rfl) ?_
    refine va_get (D := (dC, dI)) (ci := 3) (v := .ref fZone) (C := RFileParser) (T := TFileParser) (N := 7) hx hb hts in_FileParser hown hK hP 0 rfl rfl 3 (by decide) (hts (.fieldLink "ZoneFiles$FileParser" 15 "ZoneFiles$FileParser" "zone" "LZoneFiles$Zone;") m_3_161) (fun _ h9 => h9) rfl d_FP_readChars_17 ?_
    refine va_get (D := (dC, dI)) (ci := 8) (v := .ref zCh) (C := RZone) (T := TZone) (N := 17) hx hb hts in_Zone hown hK hP 3 rfl rfl 13 (by decide) (hts (.fieldLink "ZoneFiles$FileParser" 178 "ZoneFiles$Zone" "chars" "LZoneFiles$Bytes;") m_1_217) (fun _ h9 => h9) rfl d_FP_readChars_20 ?_
    obtain ⟨z_6, hc, hf⟩ := ob hf
    have hPc := hP.sub (ws' := [(zCh, .inr (0, [.ref q6, .int w5_1]))]) [5] rfl
    have hDc := hD.sub (ws' := [(zCh, .inr (0, [.ref q6, .int w5_1]))]) [5] (by decide) rfl
    have hKc := hK.sub (tys' := []) [] rfl
    have hFc := va_free (wc := [(zCh, .inr (0, [.ref q6, .int w5_1]))]) hD hS hA [5] rfl
    refine cl_M (v := none) (st1 := []) (va_runV (As := []) (rest := []) ⟨hx, hb, hml, hown, hts⟩ (c_By_clear l dC dI zCh q6 H.size nf w5_1 hc) (cwV 0 hts (gdV m_4_11 m_2_34 m_2_35 m_1_2 m_2_36) rfl rfl rfl (by decide +kernel) ⟨Nat.le_trans (Nat.le_of_ble_eq_true rfl) hRf, Nat.le_trans (Nat.le_of_ble_eq_true rfl) hRl⟩) ((MU.pre hPc hKc hDc (hST.mu hS hFc)).vir (va_recv hKc hPc (ci := 0) (q0 := 0) rfl rfl)) rfl rfl hl.1 rfl (lv_room (Nat.le_of_ble_eq_true rfl)) d_FP_readChars_23 ⟨c0 hkc, c0 hks⟩) rfl hS (fun q _ h => hFc q h) hFc (fun t H1 locs ht hvm hB hz1 hk1 hS => ?_)
    obtain ⟨hP1, hK1, hD1⟩ := hB
    rw [ht] at hP1
    have hK1 := va_K.moved hvm.symm hK1
    obtain ⟨hP, hD⟩ := va_join (wr := [(h0, .inr (3, [.int z_3, .int z_4, .ref fTape, .ref fZone, .ref fCounts, .int w0_5, .int fText])), (fTape, .inr (0, [.ref q2, .int tpS])), (q2, .inl (nA2, tpN, .inl tpA)), (fZone, .inr (8, [.int zVer, .int zTic, .int zTyc, .int zLec, .int zStc, .int zUtc, .ref zTi, .ref zTt, .ref zOf, .ref zDs, .ref zIx, .ref zSd, .ref zUt, .ref zCh, .ref zLt, .ref zLo, .ref zRu])), (zIx, .inl (cAzIx, 40, .inl zIxA)), (q6, .inl (nA6, w6_n, .inl w6_a)), (zRu, .inr (5, [.ref ruT, .ref ruB, .ref ruE, .int ruHas, .int ruWide, .int ruSo, .int ruUo, .int ruSp, .int ruSs, .int ruUp, .int ruUs, .int ruNev])), (ruT, .inr (0, [.ref q9, .int txS])), (q9, .inl (nA9, txN, .inl txA)), (fCounts, .inl (cAfCounts, 6, .inr (.inl fCountsA)))]) (w1 := [(zCh, .inr (0, [.ref q6, .int z_6]))]) hP hD [5] [0, 1, 2, 3, 4, 6, 7, 8, 9, 10] rfl rfl (by decide) (by decide) hk1 hFc hP1 hD1
    have hK := (hK.sub (tys' := [(nA2, .byte), (cAzIx, .int), (nA6, .byte), (nA9, .byte), (cAfCounts, .long)]) [0, 1, 2, 3, 4] rfl).app hK1
    generalize H1 = H at hP hS ⊢
    have hP := hP.sub (ws' := [(h0, .inr (3, [.int z_3, .int z_4, .ref fTape, .ref fZone, .ref fCounts, .int w0_5, .int fText])), (fTape, .inr (0, [.ref q2, .int tpS])), (q2, .inl (nA2, tpN, .inl tpA)), (fZone, .inr (8, [.int zVer, .int zTic, .int zTyc, .int zLec, .int zStc, .int zUtc, .ref zTi, .ref zTt, .ref zOf, .ref zDs, .ref zIx, .ref zSd, .ref zUt, .ref zCh, .ref zLt, .ref zLo, .ref zRu])), (zIx, .inl (cAzIx, 40, .inl zIxA)), (zCh, .inr (0, [.ref q6, .int z_6])), (q6, .inl (nA6, w6_n, .inl w6_a)), (zRu, .inr (5, [.ref ruT, .ref ruB, .ref ruE, .int ruHas, .int ruWide, .int ruSo, .int ruUo, .int ruSp, .int ruSs, .int ruUp, .int ruUs, .int ruNev])), (ruT, .inr (0, [.ref q9, .int txS])), (q9, .inl (nA9, txN, .inl txA)), (fCounts, .inl (cAfCounts, 6, .inr (.inl fCountsA)))]) [0, 1, 2, 3, 4, 10, 5, 6, 7, 8, 9] rfl
    have hD := hD.sub (ws' := [(h0, .inr (3, [.int z_3, .int z_4, .ref fTape, .ref fZone, .ref fCounts, .int w0_5, .int fText])), (fTape, .inr (0, [.ref q2, .int tpS])), (q2, .inl (nA2, tpN, .inl tpA)), (fZone, .inr (8, [.int zVer, .int zTic, .int zTyc, .int zLec, .int zStc, .int zUtc, .ref zTi, .ref zTt, .ref zOf, .ref zDs, .ref zIx, .ref zSd, .ref zUt, .ref zCh, .ref zLt, .ref zLo, .ref zRu])), (zIx, .inl (cAzIx, 40, .inl zIxA)), (zCh, .inr (0, [.ref q6, .int z_6])), (q6, .inl (nA6, w6_n, .inl w6_a)), (zRu, .inr (5, [.ref ruT, .ref ruB, .ref ruE, .int ruHas, .int ruWide, .int ruSo, .int ruUo, .int ruSp, .int ruSs, .int ruUp, .int ruUs, .int ruNev])), (ruT, .inr (0, [.ref q9, .int txS])), (q9, .inl (nA9, txN, .inl txA)), (fCounts, .inl (cAfCounts, 6, .inr (.inl fCountsA)))]) [0, 1, 2, 3, 4, 10, 5, 6, 7, 8, 9] (by decide) rfl
    have hK := hK.sub (tys' := [(nA2, .byte), (cAzIx, .int), (nA6, .byte), (nA9, .byte), (cAfCounts, .long)]) [0, 1, 2, 3, 4] rfl
    refine lv_aload_n hx hb d_FP_readChars_26 rfl (lv_at hl 1 rfl) ?_
    refine va_get (D := (dC, dI)) (ci := 3) (v := .ref fZone) (C := RFileParser) (T := TFileParser) (N := 7) hx hb hts in_FileParser hown hK hP 0 rfl rfl 3 (by decide) (hts (.fieldLink "ZoneFiles$FileParser" 15 "ZoneFiles$FileParser" "zone" "LZoneFiles$Zone;") m_3_161) (fun _ h9 => h9) rfl d_FP_readChars_27 ?_
    refine va_get (D := (dC, dI)) (ci := 8) (v := .ref zCh) (C := RZone) (T := TZone) (N := 17) hx hb hts in_Zone hown hK hP 3 rfl rfl 13 (by decide) (hts (.fieldLink "ZoneFiles$FileParser" 178 "ZoneFiles$Zone" "chars" "LZoneFiles$Bytes;") m_1_217) (fun _ h9 => h9) rfl d_FP_readChars_30 ?_
    refine lv_aload_n hx hb d_FP_readChars_33 rfl (lv_at hl 1 rfl) ?_
    refine va_get (D := (dC, dI)) (ci := 3) (v := .ref fTape) (C := RFileParser) (T := TFileParser) (N := 7) hx hb hts in_FileParser hown hK hP 0 rfl rfl 2 (by decide) (hts (.fieldLink "ZoneFiles$FileParser" 9 "ZoneFiles$FileParser" "tape" "LZoneFiles$Bytes;") m_3_160) (fun _ h9 => h9) rfl d_FP_readChars_34 ?_
    refine lv_aload_n hx hb d_FP_readChars_37 rfl (lv_at hl 1 rfl) ?_
    refine va_get (D := (dC, dI)) (ci := 3) (v := .int w0_5) (C := RFileParser) (T := TFileParser) (N := 7) hx hb hts in_FileParser hown hK hP 0 rfl rfl 5 (by decide) (hts (.fieldLink "ZoneFiles$FileParser" 44 "ZoneFiles$FileParser" "pos" "I") m_3_163) (fun _ h9 => h9) rfl d_FP_readChars_38 ?_
    refine lv_aload_n hx hb d_FP_readChars_41 rfl (lv_at hl 1 rfl) ?_
    refine va_get (D := (dC, dI)) (ci := 3) (v := .int w0_5) (C := RFileParser) (T := TFileParser) (N := 7) hx hb hts in_FileParser hown hK hP 0 rfl rfl 5 (by decide) (hts (.fieldLink "ZoneFiles$FileParser" 44 "ZoneFiles$FileParser" "pos" "I") m_3_163) (fun _ h9 => h9) rfl d_FP_readChars_42 ?_
    refine lv_iload_n hx hb d_FP_readChars_45 rfl (lv_at hl 0 rfl) ?_
    refine lv_iadd hx hb d_FP_readChars_46 ?_
    obtain ⟨⟨⟨z_7, z_8, z_9⟩, kc_14, ks_15⟩, hc, hf⟩ := ob hf
    obtain ⟨kc, ks, hf, ekc, eks⟩ := oa hf
    have hPc := hP.sub (ws' := [(zCh, .inr (0, [.ref q6, .int z_6])), (q6, .inl (nA6, w6_n, .inl w6_a)), (fTape, .inr (0, [.ref q2, .int tpS])), (q2, .inl (nA2, tpN, .inl tpA))]) [5, 6, 1, 2] rfl
    have hDc := hD.sub (ws' := [(zCh, .inr (0, [.ref q6, .int z_6])), (q6, .inl (nA6, w6_n, .inl w6_a)), (fTape, .inr (0, [.ref q2, .int tpS])), (q2, .inl (nA2, tpN, .inl tpA))]) [5, 6, 1, 2] (by decide) rfl
    have hKc := hK.sub (tys' := [(nA6, .byte), (nA2, .byte)]) [2, 0] rfl
    have hFc := va_free (wc := [(zCh, .inr (0, [.ref q6, .int z_6])), (q6, .inl (nA6, w6_n, .inl w6_a)), (fTape, .inr (0, [.ref q2, .int tpS])), (q2, .inl (nA2, tpN, .inl tpA))]) hD hS hA [5, 6, 1, 2] rfl
    refine cl_M (v := none) (st1 := []) (va_runV (As := [.ref fTape, .int w0_5, .int (w0_5 + r_1)]) (rest := []) ⟨hx, hb, hml, hown, hts⟩ (c_By_putAll l dC dI zCh fTape q6 q2 nA6 nA2 H.size nf w0_5 (w0_5 + r_1) z_6 w6_n w6_a tpS tpN tpA hc) (cwV 3 hts (gdV m_4_12 m_3_8 m_3_9 m_1_2 m_3_10) rfl rfl rfl (by decide +kernel) ⟨Nat.le_trans (Nat.le_of_ble_eq_true rfl) hRf, Nat.le_trans (Nat.le_of_ble_eq_true rfl) hRl⟩) ((MU.pre hPc hKc hDc (hST.mu hS hFc)).vir (va_recv hKc hPc (ci := 0) (q0 := 0) rfl rfl)) rfl rfl hl.1 rfl (lv_room (Nat.le_of_ble_eq_true rfl)) d_FP_readChars_47 ⟨cb hkc ekc, cb hks eks⟩) rfl hS (fun q _ h => hFc q h) hFc (fun t H1 locs ht hvm hB hz1 hk1 hS => ?_)
    obtain ⟨q_10, q_11, cq_12, cq_13, hP1, hK1, hD1⟩ := hB
    rw [ht] at hP1
    have hK1 := va_K.moved hvm.symm hK1
    obtain ⟨hP, hD⟩ := va_join (wr := [(h0, .inr (3, [.int z_3, .int z_4, .ref fTape, .ref fZone, .ref fCounts, .int w0_5, .int fText])), (fZone, .inr (8, [.int zVer, .int zTic, .int zTyc, .int zLec, .int zStc, .int zUtc, .ref zTi, .ref zTt, .ref zOf, .ref zDs, .ref zIx, .ref zSd, .ref zUt, .ref zCh, .ref zLt, .ref zLo, .ref zRu])), (zIx, .inl (cAzIx, 40, .inl zIxA)), (zRu, .inr (5, [.ref ruT, .ref ruB, .ref ruE, .int ruHas, .int ruWide, .int ruSo, .int ruUo, .int ruSp, .int ruSs, .int ruUp, .int ruUs, .int ruNev])), (ruT, .inr (0, [.ref q9, .int txS])), (q9, .inl (nA9, txN, .inl txA)), (fCounts, .inl (cAfCounts, 6, .inr (.inl fCountsA)))]) (w1 := [(zCh, .inr (0, [.ref q_10, .int z_7])), (q_10, .inl (cq_12, z_8, .inl z_9)), (fTape, .inr (0, [.ref q_11, .int tpS])), (q_11, .inl (cq_13, tpN, .inl tpA))]) hP hD [5, 6, 1, 2] [0, 3, 4, 7, 8, 9, 10] rfl rfl (by decide) (by decide) hk1 hFc hP1 hD1
    have hK := (hK.sub (tys' := [(cAzIx, .int), (nA9, .byte), (cAfCounts, .long)]) [1, 3, 4] rfl).app hK1
    generalize H1 = H at hP hS ⊢
    have hP := hP.sub (ws' := [(h0, .inr (3, [.int z_3, .int z_4, .ref fTape, .ref fZone, .ref fCounts, .int w0_5, .int fText])), (fTape, .inr (0, [.ref q_11, .int tpS])), (q_11, .inl (cq_13, tpN, .inl tpA)), (fZone, .inr (8, [.int zVer, .int zTic, .int zTyc, .int zLec, .int zStc, .int zUtc, .ref zTi, .ref zTt, .ref zOf, .ref zDs, .ref zIx, .ref zSd, .ref zUt, .ref zCh, .ref zLt, .ref zLo, .ref zRu])), (zIx, .inl (cAzIx, 40, .inl zIxA)), (zCh, .inr (0, [.ref q_10, .int z_7])), (q_10, .inl (cq_12, z_8, .inl z_9)), (zRu, .inr (5, [.ref ruT, .ref ruB, .ref ruE, .int ruHas, .int ruWide, .int ruSo, .int ruUo, .int ruSp, .int ruSs, .int ruUp, .int ruUs, .int ruNev])), (ruT, .inr (0, [.ref q9, .int txS])), (q9, .inl (nA9, txN, .inl txA)), (fCounts, .inl (cAfCounts, 6, .inr (.inl fCountsA)))]) [0, 9, 10, 1, 2, 7, 8, 3, 4, 5, 6] rfl
    have hD := hD.sub (ws' := [(h0, .inr (3, [.int z_3, .int z_4, .ref fTape, .ref fZone, .ref fCounts, .int w0_5, .int fText])), (fTape, .inr (0, [.ref q_11, .int tpS])), (q_11, .inl (cq_13, tpN, .inl tpA)), (fZone, .inr (8, [.int zVer, .int zTic, .int zTyc, .int zLec, .int zStc, .int zUtc, .ref zTi, .ref zTt, .ref zOf, .ref zDs, .ref zIx, .ref zSd, .ref zUt, .ref zCh, .ref zLt, .ref zLo, .ref zRu])), (zIx, .inl (cAzIx, 40, .inl zIxA)), (zCh, .inr (0, [.ref q_10, .int z_7])), (q_10, .inl (cq_12, z_8, .inl z_9)), (zRu, .inr (5, [.ref ruT, .ref ruB, .ref ruE, .int ruHas, .int ruWide, .int ruSo, .int ruUo, .int ruSp, .int ruSs, .int ruUp, .int ruUs, .int ruNev])), (ruT, .inr (0, [.ref q9, .int txS])), (q9, .inl (nA9, txN, .inl txA)), (fCounts, .inl (cAfCounts, 6, .inr (.inl fCountsA)))]) [0, 9, 10, 1, 2, 7, 8, 3, 4, 5, 6] (by decide) rfl
    have hK := hK.sub (tys' := [(cq_13, .byte), (cAzIx, .int), (cq_12, .byte), (nA9, .byte), (cAfCounts, .long)]) [4, 0, 3, 1, 2] rfl
    have hkc := ck hkc ekc
    have hks := ck hks eks
    generalize cells + kc_14 = cells at hkc ⊢
    generalize slots + ks_15 = slots at hks ⊢
    refine lv_aload_n hx hb d_FP_readChars_50 rfl (lv_at hl 1 rfl) ?_
    refine lv_dup hx hb d_FP_readChars_51 rfl ?_
    refine va_get (D := (dC, dI)) (ci := 3) (v := .int w0_5) (C := RFileParser) (T := TFileParser) (N := 7) hx hb hts in_FileParser hown hK hP 0 rfl rfl 5 (by decide) (hts (.fieldLink "ZoneFiles$FileParser" 44 "ZoneFiles$FileParser" "pos" "I") m_3_163) (fun _ h9 => h9) rfl d_FP_readChars_52 ?_
    refine lv_iload_n hx hb d_FP_readChars_55 rfl (lv_at hl 0 rfl) ?_
    refine lv_iadd hx hb d_FP_readChars_56 ?_
    refine va_put (D := (dC, dI)) (ci := 3) (v := .int (w0_5 + r_1)) (ty := .int) (C := RFileParser) (T := TFileParser) (N := 7) hx hb hts in_FileParser tyFileParser ty_FileParser nm_FileParser hown hK hP hD hS 0 rfl rfl 5 (by decide) (hts (.fieldLink "ZoneFiles$FileParser" 44 "ZoneFiles$FileParser" "pos" "I") m_3_163) (fun _ h9 => h9) rfl (by decide +kernel) rfl rfl (Nat.le_of_ble_eq_true rfl) d_FP_readChars_57 (fun H locs hP hD hS => ?_)
    have hP : va_P (dC, dI) classes [(h0, .inr (3, [.int z_3, .int z_4, .ref fTape, .ref fZone, .ref fCounts, .int (w0_5 + r_1), .int fText])), (fTape, .inr (0, [.ref q_11, .int tpS])), (q_11, .inl (cq_13, tpN, .inl tpA)), (fZone, .inr (8, [.int zVer, .int zTic, .int zTyc, .int zLec, .int zStc, .int zUtc, .ref zTi, .ref zTt, .ref zOf, .ref zDs, .ref zIx, .ref zSd, .ref zUt, .ref zCh, .ref zLt, .ref zLo, .ref zRu])), (zIx, .inl (cAzIx, 40, .inl zIxA)), (zCh, .inr (0, [.ref q_10, .int z_7])), (q_10, .inl (cq_12, z_8, .inl z_9)), (zRu, .inr (5, [.ref ruT, .ref ruB, .ref ruE, .int ruHas, .int ruWide, .int ruSo, .int ruUo, .int ruSp, .int ruSs, .int ruUp, .int ruUs, .int ruNev])), (ruT, .inr (0, [.ref q9, .int txS])), (q9, .inl (nA9, txN, .inl txA)), (fCounts, .inl (cAfCounts, 6, .inr (.inl fCountsA)))] H := hP
    have hD : va_D A [(h0, .inr (3, [.int z_3, .int z_4, .ref fTape, .ref fZone, .ref fCounts, .int (w0_5 + r_1), .int fText])), (fTape, .inr (0, [.ref q_11, .int tpS])), (q_11, .inl (cq_13, tpN, .inl tpA)), (fZone, .inr (8, [.int zVer, .int zTic, .int zTyc, .int zLec, .int zStc, .int zUtc, .ref zTi, .ref zTt, .ref zOf, .ref zDs, .ref zIx, .ref zSd, .ref zUt, .ref zCh, .ref zLt, .ref zLo, .ref zRu])), (zIx, .inl (cAzIx, 40, .inl zIxA)), (zCh, .inr (0, [.ref q_10, .int z_7])), (q_10, .inl (cq_12, z_8, .inl z_9)), (zRu, .inr (5, [.ref ruT, .ref ruB, .ref ruE, .int ruHas, .int ruWide, .int ruSo, .int ruUo, .int ruSp, .int ruSs, .int ruUp, .int ruUs, .int ruNev])), (ruT, .inr (0, [.ref q9, .int txS])), (q9, .inl (nA9, txN, .inl txA)), (fCounts, .inl (cAfCounts, 6, .inr (.inl fCountsA)))] := hD
    refine lv_iconst (v := 0) hx hb d_FP_readChars_60 (by decide) ?_
    refine lv_istore_n (lv' := [(3, .int 0), (2, .int r_1), (0, .ref h0), (1, .int x1)]) hx hb d_FP_readChars_61 rfl hl (by decide) rfl (fun ls hl => ?_)
    exact k_FP_readChars_62 C0 hST hA hE nf hf hK hP hD hS hkc hks (lv_sub hl [0, 2, 3] rfl)
  · have hf := it_t c_5 hf
    refine lv_iconst (v := 0) hx hb d_FP_readChars_14 (by decide) ?_
    cases rs hf
    have hkc : cells = R.cells := hkc
    have hks : slots = R.slots := hks
    subst hkc; subst hks
    exact hE _ _ _ _ d_FP_readChars_15 rfl hP hD hS hK
end
set_option maxHeartbeats 400000 in
set_option maxRecDepth 100000 in
theorem c_FP_readChars (l : Launch) (dC : Nat → ClassId) (dI : Nat → Nat → Nat) (h0 : Nat) (fTape : Nat) (fZone : Nat) (fCounts : Nat) (tpR : Nat) (zTi : Nat) (zTt : Nat) (zOf : Nat) (zDs : Nat) (zIx : Nat) (zSd : Nat) (zUt : Nat) (zCh : Nat) (zLt : Nat) (zLo : Nat) (zRu : Nat) (chR : Nat) (ruT : Nat) (ruB : Nat) (ruE : Nat) (txR : Nat) (cAtpR : ClassId) (cAzIx : ClassId) (cAchR : ClassId) (cAtxR : ClassId) (cAfCounts : ClassId) (sz : Nat) (nf : Nat) (p0 : Int32) (fFault : Int32) (fPlace : Int32) (fPos : Int32) (fText : Int32) (tpS : Int32) (tpN : Nat) (tpA : Nat → Int32) (zVer : Int32) (zTic : Int32) (zTyc : Int32) (zLec : Int32) (zStc : Int32) (zUtc : Int32) (zIxA : Nat → Int32) (chS : Int32) (chN : Nat) (chA : Nat → Int32) (ruHas : Int32) (ruWide : Int32) (ruSo : Int32) (ruUo : Int32) (ruSp : Int32) (ruSs : Int32) (ruUp : Int32) (ruUs : Int32) (ruNev : Int32) (txS : Int32) (txN : Nat) (txA : Nat → Int32) (fCountsA : Nat → Int64) {r0 : Int32} {v0_0 : Int32} {v0_1 : Int32} {v0_5 : Int32} {v5_1 : Int32} {v6_n : Nat} {v6_a : Nat → Int32} {kc ks : Nat} (hf : f_FP_readChars nf p0 fFault fPlace fPos tpS tpN tpA zTyc zIxA chS chN chA ruSp ruSs ruUp ruUs txS txN txA fCountsA = some ((r0, v0_0, v0_1, v0_5, v5_1, v6_n, v6_a), kc, ks)) : Met l y_FP_readChars (wd y_FP_readChars b_FP_readChars 4 (some .boolean)) ({ frames := 4, cells := kc, slots := ks, locals := 86 }) (MU dC dI [(h0, .inr (3, [.int fFault, .int fPlace, .ref fTape, .ref fZone, .ref fCounts, .int fPos, .int fText])), (fTape, .inr (0, [.ref tpR, .int tpS])), (tpR, .inl (cAtpR, tpN, .inl tpA)), (fZone, .inr (8, [.int zVer, .int zTic, .int zTyc, .int zLec, .int zStc, .int zUtc, .ref zTi, .ref zTt, .ref zOf, .ref zDs, .ref zIx, .ref zSd, .ref zUt, .ref zCh, .ref zLt, .ref zLo, .ref zRu])), (zIx, .inl (cAzIx, 40, .inl zIxA)), (zCh, .inr (0, [.ref chR, .int chS])), (chR, .inl (cAchR, chN, .inl chA)), (zRu, .inr (5, [.ref ruT, .ref ruB, .ref ruE, .int ruHas, .int ruWide, .int ruSo, .int ruUo, .int ruSp, .int ruSs, .int ruUp, .int ruUs, .int ruNev])), (ruT, .inr (0, [.ref txR, .int txS])), (txR, .inl (cAtxR, txN, .inl txA)), (fCounts, .inl (cAfCounts, 6, .inr (.inl fCountsA)))] [(cAtpR, .byte), (cAzIx, .int), (cAchR, .byte), (cAtxR, .byte), (cAfCounts, .long)] sz [.ref h0, .int p0]) (MV (some (.int r0)) (fun t => ∃ (q2 : Nat) (q6 : Nat) (q9 : Nat) (nA2 : ClassId) (nA6 : ClassId) (nA9 : ClassId), va_P (dC, dI) classes [(h0, .inr (3, [.int v0_0, .int v0_1, .ref fTape, .ref fZone, .ref fCounts, .int v0_5, .int fText])), (fTape, .inr (0, [.ref q2, .int tpS])), (q2, .inl (nA2, tpN, .inl tpA)), (fZone, .inr (8, [.int zVer, .int zTic, .int zTyc, .int zLec, .int zStc, .int zUtc, .ref zTi, .ref zTt, .ref zOf, .ref zDs, .ref zIx, .ref zSd, .ref zUt, .ref zCh, .ref zLt, .ref zLo, .ref zRu])), (zIx, .inl (cAzIx, 40, .inl zIxA)), (zCh, .inr (0, [.ref q6, .int v5_1])), (q6, .inl (nA6, v6_n, .inl v6_a)), (zRu, .inr (5, [.ref ruT, .ref ruB, .ref ruE, .int ruHas, .int ruWide, .int ruSo, .int ruUo, .int ruSp, .int ruSs, .int ruUp, .int ruUs, .int ruNev])), (ruT, .inr (0, [.ref q9, .int txS])), (q9, .inl (nA9, txN, .inl txA)), (fCounts, .inl (cAfCounts, 6, .inr (.inl fCountsA)))] t.heap ∧ va_K (dC, dI) classes [(nA2, .byte), (cAzIx, .int), (nA6, .byte), (nA9, .byte), (cAfCounts, .long)] t ∧ va_D (va_A [(h0, .inr (3, [.int fFault, .int fPlace, .ref fTape, .ref fZone, .ref fCounts, .int fPos, .int fText])), (fTape, .inr (0, [.ref tpR, .int tpS])), (tpR, .inl (cAtpR, tpN, .inl tpA)), (fZone, .inr (8, [.int zVer, .int zTic, .int zTyc, .int zLec, .int zStc, .int zUtc, .ref zTi, .ref zTt, .ref zOf, .ref zDs, .ref zIx, .ref zSd, .ref zUt, .ref zCh, .ref zLt, .ref zLo, .ref zRu])), (zIx, .inl (cAzIx, 40, .inl zIxA)), (zCh, .inr (0, [.ref chR, .int chS])), (chR, .inl (cAchR, chN, .inl chA)), (zRu, .inr (5, [.ref ruT, .ref ruB, .ref ruE, .int ruHas, .int ruWide, .int ruSo, .int ruUo, .int ruSp, .int ruSs, .int ruUp, .int ruUs, .int ruNev])), (ruT, .inr (0, [.ref txR, .int txS])), (txR, .inl (cAtxR, txN, .inl txA)), (fCounts, .inl (cAfCounts, 6, .inr (.inl fCountsA)))] sz) [(h0, .inr (3, [.int v0_0, .int v0_1, .ref fTape, .ref fZone, .ref fCounts, .int v0_5, .int fText])), (fTape, .inr (0, [.ref q2, .int tpS])), (q2, .inl (nA2, tpN, .inl tpA)), (fZone, .inr (8, [.int zVer, .int zTic, .int zTyc, .int zLec, .int zStc, .int zUtc, .ref zTi, .ref zTt, .ref zOf, .ref zDs, .ref zIx, .ref zSd, .ref zUt, .ref zCh, .ref zLt, .ref zLo, .ref zRu])), (zIx, .inl (cAzIx, 40, .inl zIxA)), (zCh, .inr (0, [.ref q6, .int v5_1])), (q6, .inl (nA6, v6_n, .inl v6_a)), (zRu, .inr (5, [.ref ruT, .ref ruB, .ref ruE, .int ruHas, .int ruWide, .int ruSo, .int ruUo, .int ruSp, .int ruSs, .int ruUp, .int ruUs, .int ruNev])), (ruT, .inr (0, [.ref q9, .int txS])), (q9, .inl (nA9, txN, .inl txA)), (fCounts, .inl (cAfCounts, 6, .inr (.inl fCountsA)))]) (va_A [(h0, .inr (3, [.int fFault, .int fPlace, .ref fTape, .ref fZone, .ref fCounts, .int fPos, .int fText])), (fTape, .inr (0, [.ref tpR, .int tpS])), (tpR, .inl (cAtpR, tpN, .inl tpA)), (fZone, .inr (8, [.int zVer, .int zTic, .int zTyc, .int zLec, .int zStc, .int zUtc, .ref zTi, .ref zTt, .ref zOf, .ref zDs, .ref zIx, .ref zSd, .ref zUt, .ref zCh, .ref zLt, .ref zLo, .ref zRu])), (zIx, .inl (cAzIx, 40, .inl zIxA)), (zCh, .inr (0, [.ref chR, .int chS])), (chR, .inl (cAchR, chN, .inl chA)), (zRu, .inr (5, [.ref ruT, .ref ruB, .ref ruE, .int ruHas, .int ruWide, .int ruSo, .int ruUo, .int ruSp, .int ruSs, .int ruUp, .int ruUs, .int ruNev])), (ruT, .inr (0, [.ref txR, .int txS])), (txR, .inl (cAtxR, txN, .inl txA)), (fCounts, .inl (cAfCounts, 6, .inr (.inl fCountsA)))] sz)) kc ks (va_A [(h0, .inr (3, [.int fFault, .int fPlace, .ref fTape, .ref fZone, .ref fCounts, .int fPos, .int fText])), (fTape, .inr (0, [.ref tpR, .int tpS])), (tpR, .inl (cAtpR, tpN, .inl tpA)), (fZone, .inr (8, [.int zVer, .int zTic, .int zTyc, .int zLec, .int zStc, .int zUtc, .ref zTi, .ref zTt, .ref zOf, .ref zDs, .ref zIx, .ref zSd, .ref zUt, .ref zCh, .ref zLt, .ref zLo, .ref zRu])), (zIx, .inl (cAzIx, 40, .inl zIxA)), (zCh, .inr (0, [.ref chR, .int chS])), (chR, .inl (cAchR, chN, .inl chA)), (zRu, .inr (5, [.ref ruT, .ref ruB, .ref ruE, .int ruHas, .int ruWide, .int ruSo, .int ruUo, .int ruSp, .int ruSs, .int ruUp, .int ruUs, .int ruNev])), (ruT, .inr (0, [.ref txR, .int txS])), (txR, .inl (cAtxR, txN, .inl txA)), (fCounts, .inl (cAfCounts, 6, .inr (.inl fCountsA)))] sz) :=
  met_M (plainFor_of_name (by decide)) (Nat.le_of_ble_eq_true rfl) (fun p e R s m args below meth c ls hRc hRs hsz hin C0 hST hK hP hD hl => by
    obtain ⟨hx, hb, hr, hml, hown, hts, hlocks, hRf, hRl⟩ := id C0
    subst hRc; subst hRs
    subst hsz
    have hA : ∀ q : Nat, s.heap.size ≤ q → va_A [(h0, .inr (3, [.int fFault, .int fPlace, .ref fTape, .ref fZone, .ref fCounts, .int fPos, .int fText])), (fTape, .inr (0, [.ref tpR, .int tpS])), (tpR, .inl (cAtpR, tpN, .inl tpA)), (fZone, .inr (8, [.int zVer, .int zTic, .int zTyc, .int zLec, .int zStc, .int zUtc, .ref zTi, .ref zTt, .ref zOf, .ref zDs, .ref zIx, .ref zSd, .ref zUt, .ref zCh, .ref zLt, .ref zLo, .ref zRu])), (zIx, .inl (cAzIx, 40, .inl zIxA)), (zCh, .inr (0, [.ref chR, .int chS])), (chR, .inl (cAchR, chN, .inl chA)), (zRu, .inr (5, [.ref ruT, .ref ruB, .ref ruE, .int ruHas, .int ruWide, .int ruSo, .int ruUo, .int ruSp, .int ruSs, .int ruUp, .int ruUs, .int ruNev])), (ruT, .inr (0, [.ref txR, .int txS])), (txR, .inl (cAtxR, txN, .inl txA)), (fCounts, .inl (cAfCounts, 6, .inr (.inl fCountsA)))] s.heap.size q := fun q h => Or.inr h
    have hS : va_S (va_A [(h0, .inr (3, [.int fFault, .int fPlace, .ref fTape, .ref fZone, .ref fCounts, .int fPos, .int fText])), (fTape, .inr (0, [.ref tpR, .int tpS])), (tpR, .inl (cAtpR, tpN, .inl tpA)), (fZone, .inr (8, [.int zVer, .int zTic, .int zTyc, .int zLec, .int zStc, .int zUtc, .ref zTi, .ref zTt, .ref zOf, .ref zDs, .ref zIx, .ref zSd, .ref zUt, .ref zCh, .ref zLt, .ref zLo, .ref zRu])), (zIx, .inl (cAzIx, 40, .inl zIxA)), (zCh, .inr (0, [.ref chR, .int chS])), (chR, .inl (cAchR, chN, .inl chA)), (zRu, .inr (5, [.ref ruT, .ref ruB, .ref ruE, .int ruHas, .int ruWide, .int ruSo, .int ruUo, .int ruSp, .int ruSs, .int ruUp, .int ruUs, .int ruNev])), (ruT, .inr (0, [.ref txR, .int txS])), (txR, .inl (cAtxR, txN, .inl txA)), (fCounts, .inl (cAfCounts, 6, .inr (.inl fCountsA)))] s.heap.size) s.heap s.heap [] := va_S.rf
    have hkc := Nat.zero_add R.cells
    have hks := Nat.zero_add R.slots
    unfold f_FP_readChars at hf
    exact k_FP_readChars_0 C0 hST hA (fun pc ls {q2} {q6} {q9} {nA2} {nA6} {nA9} H locs hd hn hP hD hS hK => W.zret hx hb hr hn (fun t ht hW => ⟨⟨rfl, ⟨q2, q6, q9, nA2, nA6, nA9, by rw [ht]; exact hP, va_K.moved hW.alike hK, hD⟩⟩, hS.F ht⟩) hS.2.2 hd) hf hK hP hD hS hkc hks (lv_sub hl [0, 1] rfl))
-- ZoneFiles$FileParser.readLeaps(I)Z
def f_FP_readLeaps_76 (nf : Nat) (w0_0 : Int32) (w0_1 : Int32) (w0_5 : Int32) (w4_a : Nat → Int64) (w5_a : Nat → Int32) : Option (Int32 × Int32 × Int32 × Int32 × (Nat → Int64) × (Nat → Int32)) :=
  (f_FP_fail nf 11 w0_5 w0_0 w0_1).bind fun (z_8, z_9, z_10) =>
  if z_8 = 0 ∨ z_8 = 1 then some (z_8, z_9, z_10, w0_5, w4_a, w5_a) else none
def f_FP_readLeaps_125 (nf : Nat) (K22 : Int32 → Int32 → Int32 → Int32 → Int32 → (Nat → Int64) → (Nat → Int32) → Option (Int32 × Int32 × Int32 × Int32 × (Nat → Int64) × (Nat → Int32))) (x5 : Int64) (x3 : Int64) (x2 : Int32) (x1 : Int32) (s0 : Int64) (s1 : Int64) (w0_0 : Int32) (w0_1 : Int32) (w0_5 : Int32) (w4_a : Nat → Int64) (w5_a : Nat → Int32) : Option (Int32 × Int32 × Int32 × Int32 × (Nat → Int64) × (Nat → Int32)) :=
  if (if 0 < (s1 - s0) then (s1 - s0) else -(s1 - s0)) = (1 : Int64) then
  if x2 < 0 ∨ 40 ≤ x2.toNatClampNeg then none else
    if x2 < 0 ∨ 40 ≤ x2.toNatClampNeg then none else
    K22 (x2 + 1) x1 w0_0 w0_1 (w0_5 + (x1 + 4)) (vp_updL w4_a x2.toNatClampNeg x3) (upd w5_a x2.toNatClampNeg x5.toInt32)
  else
  (f_FP_fail nf 12 (w0_5 + x1) w0_0 w0_1).bind fun (z_18, z_19, z_20) =>
    if z_18 = 0 ∨ z_18 = 1 then some (z_18, z_19, z_20, w0_5, w4_a, w5_a) else none
def f_FP_readLeaps_87 (nf : Nat) (tpS : Int32) (tpN : Nat) (tpA : Nat → Int32) (K22 : Int32 → Int32 → Int32 → Int32 → Int32 → (Nat → Int64) → (Nat → Int32) → Option (Int32 × Int32 × Int32 × Int32 × (Nat → Int64) × (Nat → Int32))) (x3 : Int64) (x2 : Int32) (x1 : Int32) (w0_0 : Int32) (w0_1 : Int32) (w0_5 : Int32) (w4_a : Nat → Int64) (w5_a : Nat → Int32) : Option (Int32 × Int32 × Int32 × Int32 × (Nat → Int64) × (Nat → Int32)) :=
  (f_By_signedAt nf (w0_5 + x1) 4 tpS tpN tpA).bind fun r_13 =>
  if x2 ≤ 0 then
  f_FP_readLeaps_125 nf K22 r_13 x3 x2 x1 0 r_13 w0_0 w0_1 w0_5 w4_a w5_a
  else
  if (x2 - 1) < 0 ∨ 40 ≤ (x2 - 1).toNatClampNeg then none else
    f_FP_readLeaps_125 nf K22 r_13 x3 x2 x1 ((w5_a (x2 - 1).toNatClampNeg).toInt64) r_13 w0_0 w0_1 w0_5 w4_a w5_a
def f_FP_readLeaps_22 (nf : Nat) (tpS : Int32) (tpN : Nat) (tpA : Nat → Int32) (zLec : Int32) : Nat → Int32 → Int32 → Int32 → Int32 → Int32 → (Nat → Int64) → (Nat → Int32) → Option (Int32 × Int32 × Int32 × Int32 × (Nat → Int64) × (Nat → Int32))
  | 0, _, _, _, _, _, _, _ => none
  | n + 1, x2, x1, w0_0, w0_1, w0_5, w4_a, w5_a =>
    if zLec ≤ x2 then
    some (1, w0_0, w0_1, w0_5, w4_a, w5_a)
    else
    (f_By_signedAt nf w0_5 x1 tpS tpN tpA).bind fun r_6 =>
      if r_6 < (0 : Int64) then
      f_FP_readLeaps_76 nf w0_0 w0_1 w0_5 w4_a w5_a
      else
      if x2 ≤ 0 then
        f_FP_readLeaps_87 nf tpS tpN tpA (f_FP_readLeaps_22 nf tpS tpN tpA zLec n) r_6 x2 x1 w0_0 w0_1 w0_5 w4_a w5_a
        else
        if (x2 - 1) < 0 ∨ 40 ≤ (x2 - 1).toNatClampNeg then none else
          if (2419199 : Int64) ≤ (r_6 - (w4_a (x2 - 1).toNatClampNeg)) then
          f_FP_readLeaps_87 nf tpS tpN tpA (f_FP_readLeaps_22 nf tpS tpN tpA zLec n) r_6 x2 x1 w0_0 w0_1 w0_5 w4_a w5_a
          else
          f_FP_readLeaps_76 nf w0_0 w0_1 w0_5 w4_a w5_a
def f_FP_readLeaps_0 (nf : Nat) (tpS : Int32) (tpN : Nat) (tpA : Nat → Int32) (zLec : Int32) (x1 : Int32) (w0_0 : Int32) (w0_1 : Int32) (w0_5 : Int32) (w4_a : Nat → Int64) (w5_a : Nat → Int32) : Option (Int32 × Int32 × Int32 × Int32 × (Nat → Int64) × (Nat → Int32)) :=
  (f_FP_hasMore nf ((x1 + 4) * zLec) w0_0 w0_1 w0_5 tpS).bind fun (z_1, z_2, z_3) =>
  if z_1 = 0 then
  some (0, z_2, z_3, w0_5, w4_a, w5_a)
  else
  f_FP_readLeaps_22 nf tpS tpN tpA zLec nf 0 x1 z_2 z_3 w0_5 w4_a w5_a
def f_FP_readLeaps (nf : Nat) (p0 : Int32) (fFault : Int32) (fPlace : Int32) (fPos : Int32) (tpS : Int32) (tpN : Nat) (tpA : Nat → Int32) (zLec : Int32) (zLtA : Nat → Int64) (zLoA : Nat → Int32) : Option (Int32 × Int32 × Int32 × Int32 × (Nat → Int64) × (Nat → Int32)) :=
  f_FP_readLeaps_0 nf tpS tpN tpA zLec p0 fFault fPlace fPos zLtA zLoA
section
variable {p : Program} {l : Launch} {e : Env} {R : Room} {s : State} {m : MethodId} {args : Array Value} {below : List Frame} {meth : Method} {c : Code} {Q : State → Prop} {dC : Nat → ClassId} {dI : Nat → Nat → Nat} {nf : Nat} {A : Nat → Prop}
variable {h0 : Nat} {fTape : Nat} {fZone : Nat} {fCounts : Nat} {tpR : Nat} {zTi : Nat} {zTt : Nat} {zOf : Nat} {zDs : Nat} {zIx : Nat} {zSd : Nat} {zUt : Nat} {zCh : Nat} {zLt : Nat} {zLo : Nat} {zRu : Nat} {cAtpR : ClassId} {cAzLt : ClassId} {cAzLo : ClassId} {fFault : Int32} {fPlace : Int32} {fPos : Int32} {fText : Int32} {tpS : Int32} {tpN : Nat} {tpA : Nat → Int32} {zVer : Int32} {zTic : Int32} {zTyc : Int32} {zLec : Int32} {zStc : Int32} {zUtc : Int32} {zLtA : Nat → Int64} {zLoA : Nat → Int32} {r0 : Int32} {v0_0 : Int32} {v0_1 : Int32} {v0_5 : Int32} {v4_a : Nat → Int64} {v5_a : Nat → Int32}
set_option maxHeartbeats 400000 in
set_option maxRecDepth 100000 in
theorem k_FP_readLeaps_76 (C0 : Cx p s m meth c args R b_FP_readLeaps "ZoneFiles$FileParser" 7 (some .boolean) 2 46) (hST : ST A s s.heap) (hA : ∀ q, s.heap.size ≤ q → A q) (hE : ∀ (pc : Nat) (ls : Array Slot) {q2 : Nat} {nA2 : ClassId} (H : Heap) (locs : List Loc), decode b_FP_readLeaps pc = .ok (.ireturn, 1) → narrow .boolean (.int r0) = .int r0 → va_P (dC, dI) classes [(h0, .inr (3, [.int v0_0, .int v0_1, .ref fTape, .ref fZone, .ref fCounts, .int v0_5, .int fText])), (fTape, .inr (0, [.ref q2, .int tpS])), (q2, .inl (nA2, tpN, .inl tpA)), (fZone, .inr (8, [.int zVer, .int zTic, .int zTyc, .int zLec, .int zStc, .int zUtc, .ref zTi, .ref zTt, .ref zOf, .ref zDs, .ref zIx, .ref zSd, .ref zUt, .ref zCh, .ref zLt, .ref zLo, .ref zRu])), (zLt, .inl (cAzLt, 40, .inr (.inl v4_a))), (zLo, .inl (cAzLo, 40, .inl v5_a))] H → va_D A [(h0, .inr (3, [.int v0_0, .int v0_1, .ref fTape, .ref fZone, .ref fCounts, .int v0_5, .int fText])), (fTape, .inr (0, [.ref q2, .int tpS])), (q2, .inl (nA2, tpN, .inl tpA)), (fZone, .inr (8, [.int zVer, .int zTic, .int zTyc, .int zLec, .int zStc, .int zUtc, .ref zTi, .ref zTt, .ref zOf, .ref zDs, .ref zIx, .ref zSd, .ref zUt, .ref zCh, .ref zLt, .ref zLo, .ref zRu])), (zLt, .inl (cAzLt, 40, .inr (.inl v4_a))), (zLo, .inl (cAzLo, 40, .inl v5_a))] → va_S A s.heap H locs → va_K (dC, dI) classes [(nA2, .byte), (cAzLt, .long), (cAzLo, .int)] s → W p l e R s m args below meth c H locs 0 0 Q (F0 m pc ls [.int r0])) {w0_0 : Int32} {w0_1 : Int32} {w0_5 : Int32} {w4_a : Nat → Int64} {w5_a : Nat → Int32} (hf : f_FP_readLeaps_76 nf w0_0 w0_1 w0_5 w4_a w5_a = some (r0, v0_0, v0_1, v0_5, v4_a, v5_a)) {q2 : Nat} {nA2 : ClassId} {H : Heap} {locs : List Loc} {ls : Array Slot} (hK : va_K (dC, dI) classes [(nA2, .byte), (cAzLt, .long), (cAzLo, .int)] s) (hP : va_P (dC, dI) classes [(h0, .inr (3, [.int w0_0, .int w0_1, .ref fTape, .ref fZone, .ref fCounts, .int w0_5, .int fText])), (fTape, .inr (0, [.ref q2, .int tpS])), (q2, .inl (nA2, tpN, .inl tpA)), (fZone, .inr (8, [.int zVer, .int zTic, .int zTyc, .int zLec, .int zStc, .int zUtc, .ref zTi, .ref zTt, .ref zOf, .ref zDs, .ref zIx, .ref zSd, .ref zUt, .ref zCh, .ref zLt, .ref zLo, .ref zRu])), (zLt, .inl (cAzLt, 40, .inr (.inl w4_a))), (zLo, .inl (cAzLo, 40, .inl w5_a))] H) (hD : va_D A [(h0, .inr (3, [.int w0_0, .int w0_1, .ref fTape, .ref fZone, .ref fCounts, .int w0_5, .int fText])), (fTape, .inr (0, [.ref q2, .int tpS])), (q2, .inl (nA2, tpN, .inl tpA)), (fZone, .inr (8, [.int zVer, .int zTic, .int zTyc, .int zLec, .int zStc, .int zUtc, .ref zTi, .ref zTt, .ref zOf, .ref zDs, .ref zIx, .ref zSd, .ref zUt, .ref zCh, .ref zLt, .ref zLo, .ref zRu])), (zLt, .inl (cAzLt, 40, .inr (.inl w4_a))), (zLo, .inl (cAzLo, 40, .inl w5_a))]) (hS : va_S A s.heap H locs) (hl : lv_has ls 7 [(0, .ref h0)]) : W p l e R s m args below meth c H locs 0 0 Q (F0 m 76 ls []) := by
  obtain ⟨hx, hb, hr, hml, hown, hts, hlocks, hRf, hRl⟩ := id C0
  obtain ⟨tms, hZms, hTms, tmg, hZmg, hTmg, hNW⟩ := id hST
  unfold f_FP_readLeaps_76 at hf
  refine lv_aload_n hx hb d_FP_readLeaps_76 rfl (lv_at hl 0 rfl) ?_
  refine lv_bipush (v := 11) hx hb d_FP_readLeaps_77 (by decide) ?_
  refine lv_aload_n hx hb d_FP_readLeaps_79 rfl (lv_at hl 0 rfl) ?_
  refine va_get (D := (dC, dI)) (ci := 3) (v := .int w0_5) (C := RFileParser) (T := TFileParser) (N := 7) hx hb hts in_FileParser hown hK hP 0 rfl rfl 5 (by decide) (hts (.fieldLink "ZoneFiles$FileParser" 44 "ZoneFiles$FileParser" "pos" "I") m_3_163) (fun _ h9 => h9) rfl d_FP_readLeaps_80 ?_
  obtain ⟨⟨z_8, z_9, z_10⟩, hc, hf⟩ := ob hf
  have hPc := hP.sub (ws' := [(h0, .inr (3, [.int w0_0, .int w0_1, .ref fTape, .ref fZone, .ref fCounts, .int w0_5, .int fText]))]) [0] rfl
  have hDc := hD.sub (ws' := [(h0, .inr (3, [.int w0_0, .int w0_1, .ref fTape, .ref fZone, .ref fCounts, .int w0_5, .int fText]))]) [0] (by decide) rfl
  have hKc := hK.sub (tys' := []) [] rfl
  have hFc := va_free (wc := [(h0, .inr (3, [.int w0_0, .int w0_1, .ref fTape, .ref fZone, .ref fCounts, .int w0_5, .int fText]))]) hD hS hA [0] rfl
  refine cl_M (v := (some (.int z_8))) (st1 := [.int z_8]) (va_runV (As := [.int 11, .int w0_5]) (rest := []) ⟨hx, hb, hml, hown, hts⟩ (c_FP_fail l dC dI h0 fTape fZone fCounts H.size nf 11 w0_5 w0_0 w0_1 w0_5 fText hc) (cwV 2 hts (gdV m_3_191 m_3_193 msel_16 m_1_16 m_3_194) rfl rfl rfl (by decide +kernel) ⟨Nat.le_trans (Nat.le_of_ble_eq_true rfl) hRf, Nat.le_trans (Nat.le_of_ble_eq_true rfl) hRl⟩) ((MU.pre hPc hKc hDc (hST.mu hS hFc)).vir (va_recv hKc hPc (ci := 3) (q0 := 0) rfl rfl)) rfl rfl hl.1 rfl (lv_room (Nat.le_of_ble_eq_true rfl)) d_FP_readLeaps_83 ⟨Nat.zero_le _, Nat.zero_le _⟩) rfl hS (fun q _ h => hFc q h) hFc (fun t H1 locs ht hvm hB hz1 hk1 hS => ?_)
  obtain ⟨hP1, hK1, hD1⟩ := hB
  rw [ht] at hP1
  have hK1 := va_K.moved hvm.symm hK1
  obtain ⟨hP, hD⟩ := va_join (wr := [(fTape, .inr (0, [.ref q2, .int tpS])), (q2, .inl (nA2, tpN, .inl tpA)), (fZone, .inr (8, [.int zVer, .int zTic, .int zTyc, .int zLec, .int zStc, .int zUtc, .ref zTi, .ref zTt, .ref zOf, .ref zDs, .ref zIx, .ref zSd, .ref zUt, .ref zCh, .ref zLt, .ref zLo, .ref zRu])), (zLt, .inl (cAzLt, 40, .inr (.inl w4_a))), (zLo, .inl (cAzLo, 40, .inl w5_a))]) (w1 := [(h0, .inr (3, [.int z_9, .int z_10, .ref fTape, .ref fZone, .ref fCounts, .int w0_5, .int fText]))]) hP hD [0] [1, 2, 3, 4, 5] rfl rfl (by decide) (by decide) hk1 hFc hP1 hD1
  have hK := (hK.sub (tys' := [(nA2, .byte), (cAzLt, .long), (cAzLo, .int)]) [0, 1, 2] rfl).app hK1
  generalize H1 = H at hP hS ⊢
  have hP := hP.sub (ws' := [(h0, .inr (3, [.int z_9, .int z_10, .ref fTape, .ref fZone, .ref fCounts, .int w0_5, .int fText])), (fTape, .inr (0, [.ref q2, .int tpS])), (q2, .inl (nA2, tpN, .inl tpA)), (fZone, .inr (8, [.int zVer, .int zTic, .int zTyc, .int zLec, .int zStc, .int zUtc, .ref zTi, .ref zTt, .ref zOf, .ref zDs, .ref zIx, .ref zSd, .ref zUt, .ref zCh, .ref zLt, .ref zLo, .ref zRu])), (zLt, .inl (cAzLt, 40, .inr (.inl w4_a))), (zLo, .inl (cAzLo, 40, .inl w5_a))]) [5, 0, 1, 2, 3, 4] rfl
  have hD := hD.sub (ws' := [(h0, .inr (3, [.int z_9, .int z_10, .ref fTape, .ref fZone, .ref fCounts, .int w0_5, .int fText])), (fTape, .inr (0, [.ref q2, .int tpS])), (q2, .inl (nA2, tpN, .inl tpA)), (fZone, .inr (8, [.int zVer, .int zTic, .int zTyc, .int zLec, .int zStc, .int zUtc, .ref zTi, .ref zTt, .ref zOf, .ref zDs, .ref zIx, .ref zSd, .ref zUt, .ref zCh, .ref zLt, .ref zLo, .ref zRu])), (zLt, .inl (cAzLt, 40, .inr (.inl w4_a))), (zLo, .inl (cAzLo, 40, .inl w5_a))]) [5, 0, 1, 2, 3, 4] (by decide) rfl
  have hK := hK.sub (tys' := [(nA2, .byte), (cAzLt, .long), (cAzLo, .int)]) [0, 1, 2] rfl
  obtain ⟨c_11, hf⟩ := it_g hf
  cases rs hf
  exact hE _ _ _ _ d_FP_readLeaps_86 (nb_of c_11) hP hD hS hK
set_option maxHeartbeats 400000 in
set_option maxRecDepth 100000 in
theorem k_FP_readLeaps_125 (C0 : Cx p s m meth c args R b_FP_readLeaps "ZoneFiles$FileParser" 7 (some .boolean) 2 46) (hST : ST A s s.heap) (hA : ∀ q, s.heap.size ≤ q → A q) (hE : ∀ (pc : Nat) (ls : Array Slot) {q2 : Nat} {nA2 : ClassId} (H : Heap) (locs : List Loc), decode b_FP_readLeaps pc = .ok (.ireturn, 1) → narrow .boolean (.int r0) = .int r0 → va_P (dC, dI) classes [(h0, .inr (3, [.int v0_0, .int v0_1, .ref fTape, .ref fZone, .ref fCounts, .int v0_5, .int fText])), (fTape, .inr (0, [.ref q2, .int tpS])), (q2, .inl (nA2, tpN, .inl tpA)), (fZone, .inr (8, [.int zVer, .int zTic, .int zTyc, .int zLec, .int zStc, .int zUtc, .ref zTi, .ref zTt, .ref zOf, .ref zDs, .ref zIx, .ref zSd, .ref zUt, .ref zCh, .ref zLt, .ref zLo, .ref zRu])), (zLt, .inl (cAzLt, 40, .inr (.inl v4_a))), (zLo, .inl (cAzLo, 40, .inl v5_a))] H → va_D A [(h0, .inr (3, [.int v0_0, .int v0_1, .ref fTape, .ref fZone, .ref fCounts, .int v0_5, .int fText])), (fTape, .inr (0, [.ref q2, .int tpS])), (q2, .inl (nA2, tpN, .inl tpA)), (fZone, .inr (8, [.int zVer, .int zTic, .int zTyc, .int zLec, .int zStc, .int zUtc, .ref zTi, .ref zTt, .ref zOf, .ref zDs, .ref zIx, .ref zSd, .ref zUt, .ref zCh, .ref zLt, .ref zLo, .ref zRu])), (zLt, .inl (cAzLt, 40, .inr (.inl v4_a))), (zLo, .inl (cAzLo, 40, .inl v5_a))] → va_S A s.heap H locs → va_K (dC, dI) classes [(nA2, .byte), (cAzLt, .long), (cAzLo, .int)] s → W p l e R s m args below meth c H locs 0 0 Q (F0 m pc ls [.int r0])) {K22 : Int32 → Int32 → Int32 → Int32 → Int32 → (Nat → Int64) → (Nat → Int32) → Option (Int32 × Int32 × Int32 × Int32 × (Nat → Int64) × (Nat → Int32))} (hK22 : ∀ {x2 : Int32} {x1 : Int32} {w0_0 : Int32} {w0_1 : Int32} {w0_5 : Int32} {w4_a : Nat → Int64} {w5_a : Nat → Int32}, K22 x2 x1 w0_0 w0_1 w0_5 w4_a w5_a = some (r0, v0_0, v0_1, v0_5, v4_a, v5_a) → ∀ {q2 : Nat} {nA2 : ClassId} {H : Heap} {locs : List Loc} {ls : Array Slot}, va_K (dC, dI) classes [(nA2, .byte), (cAzLt, .long), (cAzLo, .int)] s → va_P (dC, dI) classes [(h0, .inr (3, [.int w0_0, .int w0_1, .ref fTape, .ref fZone, .ref fCounts, .int w0_5, .int fText])), (fTape, .inr (0, [.ref q2, .int tpS])), (q2, .inl (nA2, tpN, .inl tpA)), (fZone, .inr (8, [.int zVer, .int zTic, .int zTyc, .int zLec, .int zStc, .int zUtc, .ref zTi, .ref zTt, .ref zOf, .ref zDs, .ref zIx, .ref zSd, .ref zUt, .ref zCh, .ref zLt, .ref zLo, .ref zRu])), (zLt, .inl (cAzLt, 40, .inr (.inl w4_a))), (zLo, .inl (cAzLo, 40, .inl w5_a))] H → va_D A [(h0, .inr (3, [.int w0_0, .int w0_1, .ref fTape, .ref fZone, .ref fCounts, .int w0_5, .int fText])), (fTape, .inr (0, [.ref q2, .int tpS])), (q2, .inl (nA2, tpN, .inl tpA)), (fZone, .inr (8, [.int zVer, .int zTic, .int zTyc, .int zLec, .int zStc, .int zUtc, .ref zTi, .ref zTt, .ref zOf, .ref zDs, .ref zIx, .ref zSd, .ref zUt, .ref zCh, .ref zLt, .ref zLo, .ref zRu])), (zLt, .inl (cAzLt, 40, .inr (.inl w4_a))), (zLo, .inl (cAzLo, 40, .inl w5_a))] → va_S A s.heap H locs → lv_has ls 7 [(2, .int x2), (0, .ref h0), (1, .int x1)] → W p l e R s m args below meth c H locs 0 0 Q (F0 m 22 ls [])) {x5 : Int64} {x3 : Int64} {x2 : Int32} {x1 : Int32} {s0 : Int64} {s1 : Int64} {w0_0 : Int32} {w0_1 : Int32} {w0_5 : Int32} {w4_a : Nat → Int64} {w5_a : Nat → Int32} (hf : f_FP_readLeaps_125 nf K22 x5 x3 x2 x1 s0 s1 w0_0 w0_1 w0_5 w4_a w5_a = some (r0, v0_0, v0_1, v0_5, v4_a, v5_a)) {q2 : Nat} {nA2 : ClassId} {H : Heap} {locs : List Loc} {ls : Array Slot} (hK : va_K (dC, dI) classes [(nA2, .byte), (cAzLt, .long), (cAzLo, .int)] s) (hP : va_P (dC, dI) classes [(h0, .inr (3, [.int w0_0, .int w0_1, .ref fTape, .ref fZone, .ref fCounts, .int w0_5, .int fText])), (fTape, .inr (0, [.ref q2, .int tpS])), (q2, .inl (nA2, tpN, .inl tpA)), (fZone, .inr (8, [.int zVer, .int zTic, .int zTyc, .int zLec, .int zStc, .int zUtc, .ref zTi, .ref zTt, .ref zOf, .ref zDs, .ref zIx, .ref zSd, .ref zUt, .ref zCh, .ref zLt, .ref zLo, .ref zRu])), (zLt, .inl (cAzLt, 40, .inr (.inl w4_a))), (zLo, .inl (cAzLo, 40, .inl w5_a))] H) (hD : va_D A [(h0, .inr (3, [.int w0_0, .int w0_1, .ref fTape, .ref fZone, .ref fCounts, .int w0_5, .int fText])), (fTape, .inr (0, [.ref q2, .int tpS])), (q2, .inl (nA2, tpN, .inl tpA)), (fZone, .inr (8, [.int zVer, .int zTic, .int zTyc, .int zLec, .int zStc, .int zUtc, .ref zTi, .ref zTt, .ref zOf, .ref zDs, .ref zIx, .ref zSd, .ref zUt, .ref zCh, .ref zLt, .ref zLo, .ref zRu])), (zLt, .inl (cAzLt, 40, .inr (.inl w4_a))), (zLo, .inl (cAzLo, 40, .inl w5_a))]) (hS : va_S A s.heap H locs) (hl : lv_has ls 7 [(5, .long x5), (3, .long x3), (2, .int x2), (0, .ref h0), (1, .int x1)]) : W p l e R s m args below meth c H locs 0 0 Q (F0 m 125 ls [.long s0, .long s1]) := by
  obtain ⟨hx, hb, hr, hml, hown, hts, hlocks, hRf, hRl⟩ := id C0
  obtain ⟨tms, hZms, hTms, tmg, hZmg, hTmg, hNW⟩ := id hST
  unfold f_FP_readLeaps_125 at hf
  refine lv_lsub hx hb d_FP_readLeaps_125 ?_
  refine va_mabs_long hx hb (by rw [hml]; exact hl.1.symm) hown (hts (.methodLink "ZoneFiles$FileParser" 207 ⟨"java/lang/Math", "abs", "(J)J"⟩) m_4_31) (hts (.static ⟨"java/lang/Math", "abs", "(J)J"⟩) m_2_228) (hts (.initialized "java/lang/Math") m_1_7) (hts (.code ⟨"java/lang/Math", "abs", "(J)J"⟩ prog_20_method_61_code 2 (some .long)) m_2_229) (Nat.le_trans (Nat.le_of_ble_eq_true rfl) hRf) (Nat.le_trans (Nat.le_of_ble_eq_true rfl) hRl) (Nat.zero_le _) (Nat.zero_le _) d_FP_readLeaps_126 ?_
  refine lv_lconst (v := 1) hx hb d_FP_readLeaps_129 (by decide) ?_
  refine lc_eq (tgt := 147) hx hb d_FP_readLeaps_130 d_FP_readLeaps_131 (by decide) (fun c_15 => ?_) (fun c_15 => ?_)
  · have hf := it_t c_15 hf
    refine lv_aload_n hx hb d_FP_readLeaps_147 rfl (lv_at hl 3 rfl) ?_
    refine va_get (D := (dC, dI)) (ci := 3) (v := .ref fZone) (C := RFileParser) (T := TFileParser) (N := 7) hx hb hts in_FileParser hown hK hP 0 rfl rfl 3 (by decide) (hts (.fieldLink "ZoneFiles$FileParser" 15 "ZoneFiles$FileParser" "zone" "LZoneFiles$Zone;") m_3_161) (fun _ h9 => h9) rfl d_FP_readLeaps_148 ?_
    refine va_get (D := (dC, dI)) (ci := 8) (v := .ref zLt) (C := RZone) (T := TZone) (N := 17) hx hb hts in_Zone hown hK hP 3 rfl rfl 14 (by decide) (hts (.fieldLink "ZoneFiles$FileParser" 199 "ZoneFiles$Zone" "leapTimes" "[J") m_1_221) (fun _ h9 => h9) rfl d_FP_readLeaps_151 ?_
    refine lv_iload_n hx hb d_FP_readLeaps_154 rfl (lv_at hl 2 rfl) ?_
    refine lv_lload_n hx hb d_FP_readLeaps_155 rfl (lv_at hl 1 rfl) ?_
    obtain ⟨c_16, hf⟩ := it_n hf
    refine va_last hx hb hK hP hD hS 4 1 rfl rfl c_16 d_FP_readLeaps_156 (fun H locs hP hD hS => ?_)
    have hP : va_P (dC, dI) classes [(h0, .inr (3, [.int w0_0, .int w0_1, .ref fTape, .ref fZone, .ref fCounts, .int w0_5, .int fText])), (fTape, .inr (0, [.ref q2, .int tpS])), (q2, .inl (nA2, tpN, .inl tpA)), (fZone, .inr (8, [.int zVer, .int zTic, .int zTyc, .int zLec, .int zStc, .int zUtc, .ref zTi, .ref zTt, .ref zOf, .ref zDs, .ref zIx, .ref zSd, .ref zUt, .ref zCh, .ref zLt, .ref zLo, .ref zRu])), (zLt, .inl (cAzLt, 40, .inr (.inl (vp_updL w4_a x2.toNatClampNeg x3)))), (zLo, .inl (cAzLo, 40, .inl w5_a))] H := hP
    have hD : va_D A [(h0, .inr (3, [.int w0_0, .int w0_1, .ref fTape, .ref fZone, .ref fCounts, .int w0_5, .int fText])), (fTape, .inr (0, [.ref q2, .int tpS])), (q2, .inl (nA2, tpN, .inl tpA)), (fZone, .inr (8, [.int zVer, .int zTic, .int zTyc, .int zLec, .int zStc, .int zUtc, .ref zTi, .ref zTt, .ref zOf, .ref zDs, .ref zIx, .ref zSd, .ref zUt, .ref zCh, .ref zLt, .ref zLo, .ref zRu])), (zLt, .inl (cAzLt, 40, .inr (.inl (vp_updL w4_a x2.toNatClampNeg x3)))), (zLo, .inl (cAzLo, 40, .inl w5_a))] := hD
    refine lv_aload_n hx hb d_FP_readLeaps_157 rfl (lv_at hl 3 rfl) ?_
    refine va_get (D := (dC, dI)) (ci := 3) (v := .ref fZone) (C := RFileParser) (T := TFileParser) (N := 7) hx hb hts in_FileParser hown hK hP 0 rfl rfl 3 (by decide) (hts (.fieldLink "ZoneFiles$FileParser" 15 "ZoneFiles$FileParser" "zone" "LZoneFiles$Zone;") m_3_161) (fun _ h9 => h9) rfl d_FP_readLeaps_158 ?_
    refine va_get (D := (dC, dI)) (ci := 8) (v := .ref zLo) (C := RZone) (T := TZone) (N := 17) hx hb hts in_Zone hown hK hP 3 rfl rfl 15 (by decide) (hts (.fieldLink "ZoneFiles$FileParser" 204 "ZoneFiles$Zone" "leapCorrections" "[I") m_1_225) (fun _ h9 => h9) rfl d_FP_readLeaps_161 ?_
    refine lv_iload_n hx hb d_FP_readLeaps_164 rfl (lv_at hl 2 rfl) ?_
    refine lv_lload hx hb d_FP_readLeaps_165 (lv_at hl 0 rfl) ?_
    refine lv_l2i hx hb d_FP_readLeaps_167 rfl ?_
    obtain ⟨c_17, hf⟩ := it_n hf
    refine va_iast hx hb hK hP hD hS 5 2 rfl rfl c_17 d_FP_readLeaps_168 (fun H locs hP hD hS => ?_)
    have hP : va_P (dC, dI) classes [(h0, .inr (3, [.int w0_0, .int w0_1, .ref fTape, .ref fZone, .ref fCounts, .int w0_5, .int fText])), (fTape, .inr (0, [.ref q2, .int tpS])), (q2, .inl (nA2, tpN, .inl tpA)), (fZone, .inr (8, [.int zVer, .int zTic, .int zTyc, .int zLec, .int zStc, .int zUtc, .ref zTi, .ref zTt, .ref zOf, .ref zDs, .ref zIx, .ref zSd, .ref zUt, .ref zCh, .ref zLt, .ref zLo, .ref zRu])), (zLt, .inl (cAzLt, 40, .inr (.inl (vp_updL w4_a x2.toNatClampNeg x3)))), (zLo, .inl (cAzLo, 40, .inl (upd w5_a x2.toNatClampNeg x5.toInt32)))] H := hP
    have hD : va_D A [(h0, .inr (3, [.int w0_0, .int w0_1, .ref fTape, .ref fZone, .ref fCounts, .int w0_5, .int fText])), (fTape, .inr (0, [.ref q2, .int tpS])), (q2, .inl (nA2, tpN, .inl tpA)), (fZone, .inr (8, [.int zVer, .int zTic, .int zTyc, .int zLec, .int zStc, .int zUtc, .ref zTi, .ref zTt, .ref zOf, .ref zDs, .ref zIx, .ref zSd, .ref zUt, .ref zCh, .ref zLt, .ref zLo, .ref zRu])), (zLt, .inl (cAzLt, 40, .inr (.inl (vp_updL w4_a x2.toNatClampNeg x3)))), (zLo, .inl (cAzLo, 40, .inl (upd w5_a x2.toNatClampNeg x5.toInt32)))] := hD
    refine lv_aload_n hx hb d_FP_readLeaps_169 rfl (lv_at hl 3 rfl) ?_
    refine lv_dup hx hb d_FP_readLeaps_170 rfl ?_
    refine va_get (D := (dC, dI)) (ci := 3) (v := .int w0_5) (C := RFileParser) (T := TFileParser) (N := 7) hx hb hts in_FileParser hown hK hP 0 rfl rfl 5 (by decide) (hts (.fieldLink "ZoneFiles$FileParser" 44 "ZoneFiles$FileParser" "pos" "I") m_3_163) (fun _ h9 => h9) rfl d_FP_readLeaps_171 ?_
    refine lv_iload_n hx hb d_FP_readLeaps_174 rfl (lv_at hl 4 rfl) ?_
    refine lv_iconst (v := 4) hx hb d_FP_readLeaps_175 (by decide) ?_
    refine lv_iadd hx hb d_FP_readLeaps_176 ?_
    refine lv_iadd hx hb d_FP_readLeaps_177 ?_
    refine va_put (D := (dC, dI)) (ci := 3) (v := .int (w0_5 + (x1 + 4))) (ty := .int) (C := RFileParser) (T := TFileParser) (N := 7) hx hb hts in_FileParser tyFileParser ty_FileParser nm_FileParser hown hK hP hD hS 0 rfl rfl 5 (by decide) (hts (.fieldLink "ZoneFiles$FileParser" 44 "ZoneFiles$FileParser" "pos" "I") m_3_163) (fun _ h9 => h9) rfl (by decide +kernel) rfl rfl (Nat.le_of_ble_eq_true rfl) d_FP_readLeaps_178 (fun H locs hP hD hS => ?_)
    have hP : va_P (dC, dI) classes [(h0, .inr (3, [.int w0_0, .int w0_1, .ref fTape, .ref fZone, .ref fCounts, .int (w0_5 + (x1 + 4)), .int fText])), (fTape, .inr (0, [.ref q2, .int tpS])), (q2, .inl (nA2, tpN, .inl tpA)), (fZone, .inr (8, [.int zVer, .int zTic, .int zTyc, .int zLec, .int zStc, .int zUtc, .ref zTi, .ref zTt, .ref zOf, .ref zDs, .ref zIx, .ref zSd, .ref zUt, .ref zCh, .ref zLt, .ref zLo, .ref zRu])), (zLt, .inl (cAzLt, 40, .inr (.inl (vp_updL w4_a x2.toNatClampNeg x3)))), (zLo, .inl (cAzLo, 40, .inl (upd w5_a x2.toNatClampNeg x5.toInt32)))] H := hP
    have hD : va_D A [(h0, .inr (3, [.int w0_0, .int w0_1, .ref fTape, .ref fZone, .ref fCounts, .int (w0_5 + (x1 + 4)), .int fText])), (fTape, .inr (0, [.ref q2, .int tpS])), (q2, .inl (nA2, tpN, .inl tpA)), (fZone, .inr (8, [.int zVer, .int zTic, .int zTyc, .int zLec, .int zStc, .int zUtc, .ref zTi, .ref zTt, .ref zOf, .ref zDs, .ref zIx, .ref zSd, .ref zUt, .ref zCh, .ref zLt, .ref zLo, .ref zRu])), (zLt, .inl (cAzLt, 40, .inr (.inl (vp_updL w4_a x2.toNatClampNeg x3)))), (zLo, .inl (cAzLo, 40, .inl (upd w5_a x2.toNatClampNeg x5.toInt32)))] := hD
    refine lv_iinc (v := x2 + 1) (lv' := [(2, .int (x2 + 1)), (5, .long x5), (3, .long x3), (0, .ref h0), (1, .int x1)]) hx hb d_FP_readLeaps_181 hl (k := 2) rfl rfl (by decide) rfl (fun ls hl => ?_)
    refine lv_goto (tgt := 22) hx hb d_FP_readLeaps_184 (by decide) ?_
    exact hK22 hf hK hP hD hS (lv_sub hl [0, 3, 4] rfl)
  · have hf := it_f c_15 hf
    refine lv_aload_n hx hb d_FP_readLeaps_134 rfl (lv_at hl 3 rfl) ?_
    refine lv_bipush (v := 12) hx hb d_FP_readLeaps_135 (by decide) ?_
    refine lv_aload_n hx hb d_FP_readLeaps_137 rfl (lv_at hl 3 rfl) ?_
    refine va_get (D := (dC, dI)) (ci := 3) (v := .int w0_5) (C := RFileParser) (T := TFileParser) (N := 7) hx hb hts in_FileParser hown hK hP 0 rfl rfl 5 (by decide) (hts (.fieldLink "ZoneFiles$FileParser" 44 "ZoneFiles$FileParser" "pos" "I") m_3_163) (fun _ h9 => h9) rfl d_FP_readLeaps_138 ?_
    refine lv_iload_n hx hb d_FP_readLeaps_141 rfl (lv_at hl 4 rfl) ?_
    refine lv_iadd hx hb d_FP_readLeaps_142 ?_
    obtain ⟨⟨z_18, z_19, z_20⟩, hc, hf⟩ := ob hf
    have hPc := hP.sub (ws' := [(h0, .inr (3, [.int w0_0, .int w0_1, .ref fTape, .ref fZone, .ref fCounts, .int w0_5, .int fText]))]) [0] rfl
    have hDc := hD.sub (ws' := [(h0, .inr (3, [.int w0_0, .int w0_1, .ref fTape, .ref fZone, .ref fCounts, .int w0_5, .int fText]))]) [0] (by decide) rfl
    have hKc := hK.sub (tys' := []) [] rfl
    have hFc := va_free (wc := [(h0, .inr (3, [.int w0_0, .int w0_1, .ref fTape, .ref fZone, .ref fCounts, .int w0_5, .int fText]))]) hD hS hA [0] rfl
    refine cl_M (v := (some (.int z_18))) (st1 := [.int z_18]) (va_runV (As := [.int 12, .int (w0_5 + x1)]) (rest := []) ⟨hx, hb, hml, hown, hts⟩ (c_FP_fail l dC dI h0 fTape fZone fCounts H.size nf 12 (w0_5 + x1) w0_0 w0_1 w0_5 fText hc) (cwV 2 hts (gdV m_3_191 m_3_193 msel_16 m_1_16 m_3_194) rfl rfl rfl (by decide +kernel) ⟨Nat.le_trans (Nat.le_of_ble_eq_true rfl) hRf, Nat.le_trans (Nat.le_of_ble_eq_true rfl) hRl⟩) ((MU.pre hPc hKc hDc (hST.mu hS hFc)).vir (va_recv hKc hPc (ci := 3) (q0 := 0) rfl rfl)) rfl rfl hl.1 rfl (lv_room (Nat.le_of_ble_eq_true rfl)) d_FP_readLeaps_143 ⟨Nat.zero_le _, Nat.zero_le _⟩) rfl hS (fun q _ h => hFc q h) hFc (fun t H1 locs ht hvm hB hz1 hk1 hS => ?_)
    obtain ⟨hP1, hK1, hD1⟩ := hB
    rw [ht] at hP1
    have hK1 := va_K.moved hvm.symm hK1
    obtain ⟨hP, hD⟩ := va_join (wr := [(fTape, .inr (0, [.ref q2, .int tpS])), (q2, .inl (nA2, tpN, .inl tpA)), (fZone, .inr (8, [.int zVer, .int zTic, .int zTyc, .int zLec, .int zStc, .int zUtc, .ref zTi, .ref zTt, .ref zOf, .ref zDs, .ref zIx, .ref zSd, .ref zUt, .ref zCh, .ref zLt, .ref zLo, .ref zRu])), (zLt, .inl (cAzLt, 40, .inr (.inl w4_a))), (zLo, .inl (cAzLo, 40, .inl w5_a))]) (w1 := [(h0, .inr (3, [.int z_19, .int z_20, .ref fTape, .ref fZone, .ref fCounts, .int w0_5, .int fText]))]) hP hD [0] [1, 2, 3, 4, 5] rfl rfl (by decide) (by decide) hk1 hFc hP1 hD1
    have hK := (hK.sub (tys' := [(nA2, .byte), (cAzLt, .long), (cAzLo, .int)]) [0, 1, 2] rfl).app hK1
    generalize H1 = H at hP hS ⊢
    have hP := hP.sub (ws' := [(h0, .inr (3, [.int z_19, .int z_20, .ref fTape, .ref fZone, .ref fCounts, .int w0_5, .int fText])), (fTape, .inr (0, [.ref q2, .int tpS])), (q2, .inl (nA2, tpN, .inl tpA)), (fZone, .inr (8, [.int zVer, .int zTic, .int zTyc, .int zLec, .int zStc, .int zUtc, .ref zTi, .ref zTt, .ref zOf, .ref zDs, .ref zIx, .ref zSd, .ref zUt, .ref zCh, .ref zLt, .ref zLo, .ref zRu])), (zLt, .inl (cAzLt, 40, .inr (.inl w4_a))), (zLo, .inl (cAzLo, 40, .inl w5_a))]) [5, 0, 1, 2, 3, 4] rfl
    have hD := hD.sub (ws' := [(h0, .inr (3, [.int z_19, .int z_20, .ref fTape, .ref fZone, .ref fCounts, .int w0_5, .int fText])), (fTape, .inr (0, [.ref q2, .int tpS])), (q2, .inl (nA2, tpN, .inl tpA)), (fZone, .inr (8, [.int zVer, .int zTic, .int zTyc, .int zLec, .int zStc, .int zUtc, .ref zTi, .ref zTt, .ref zOf, .ref zDs, .ref zIx, .ref zSd, .ref zUt, .ref zCh, .ref zLt, .ref zLo, .ref zRu])), (zLt, .inl (cAzLt, 40, .inr (.inl w4_a))), (zLo, .inl (cAzLo, 40, .inl w5_a))]) [5, 0, 1, 2, 3, 4] (by decide) rfl
    have hK := hK.sub (tys' := [(nA2, .byte), (cAzLt, .long), (cAzLo, .int)]) [0, 1, 2] rfl
    obtain ⟨c_21, hf⟩ := it_g hf
    cases rs hf
    exact hE _ _ _ _ d_FP_readLeaps_146 (nb_of c_21) hP hD hS hK
set_option maxHeartbeats 400000 in
set_option maxRecDepth 100000 in
theorem k_FP_readLeaps_87 (C0 : Cx p s m meth c args R b_FP_readLeaps "ZoneFiles$FileParser" 7 (some .boolean) 2 46) (hST : ST A s s.heap) (hA : ∀ q, s.heap.size ≤ q → A q) (hE : ∀ (pc : Nat) (ls : Array Slot) {q2 : Nat} {nA2 : ClassId} (H : Heap) (locs : List Loc), decode b_FP_readLeaps pc = .ok (.ireturn, 1) → narrow .boolean (.int r0) = .int r0 → va_P (dC, dI) classes [(h0, .inr (3, [.int v0_0, .int v0_1, .ref fTape, .ref fZone, .ref fCounts, .int v0_5, .int fText])), (fTape, .inr (0, [.ref q2, .int tpS])), (q2, .inl (nA2, tpN, .inl tpA)), (fZone, .inr (8, [.int zVer, .int zTic, .int zTyc, .int zLec, .int zStc, .int zUtc, .ref zTi, .ref zTt, .ref zOf, .ref zDs, .ref zIx, .ref zSd, .ref zUt, .ref zCh, .ref zLt, .ref zLo, .ref zRu])), (zLt, .inl (cAzLt, 40, .inr (.inl v4_a))), (zLo, .inl (cAzLo, 40, .inl v5_a))] H → va_D A [(h0, .inr (3, [.int v0_0, .int v0_1, .ref fTape, .ref fZone, .ref fCounts, .int v0_5, .int fText])), (fTape, .inr (0, [.ref q2, .int tpS])), (q2, .inl (nA2, tpN, .inl tpA)), (fZone, .inr (8, [.int zVer, .int zTic, .int zTyc, .int zLec, .int zStc, .int zUtc, .ref zTi, .ref zTt, .ref zOf, .ref zDs, .ref zIx, .ref zSd, .ref zUt, .ref zCh, .ref zLt, .ref zLo, .ref zRu])), (zLt, .inl (cAzLt, 40, .inr (.inl v4_a))), (zLo, .inl (cAzLo, 40, .inl v5_a))] → va_S A s.heap H locs → va_K (dC, dI) classes [(nA2, .byte), (cAzLt, .long), (cAzLo, .int)] s → W p l e R s m args below meth c H locs 0 0 Q (F0 m pc ls [.int r0])) {K22 : Int32 → Int32 → Int32 → Int32 → Int32 → (Nat → Int64) → (Nat → Int32) → Option (Int32 × Int32 × Int32 × Int32 × (Nat → Int64) × (Nat → Int32))} (hK22 : ∀ {x2 : Int32} {x1 : Int32} {w0_0 : Int32} {w0_1 : Int32} {w0_5 : Int32} {w4_a : Nat → Int64} {w5_a : Nat → Int32}, K22 x2 x1 w0_0 w0_1 w0_5 w4_a w5_a = some (r0, v0_0, v0_1, v0_5, v4_a, v5_a) → ∀ {q2 : Nat} {nA2 : ClassId} {H : Heap} {locs : List Loc} {ls : Array Slot}, va_K (dC, dI) classes [(nA2, .byte), (cAzLt, .long), (cAzLo, .int)] s → va_P (dC, dI) classes [(h0, .inr (3, [.int w0_0, .int w0_1, .ref fTape, .ref fZone, .ref fCounts, .int w0_5, .int fText])), (fTape, .inr (0, [.ref q2, .int tpS])), (q2, .inl (nA2, tpN, .inl tpA)), (fZone, .inr (8, [.int zVer, .int zTic, .int zTyc, .int zLec, .int zStc, .int zUtc, .ref zTi, .ref zTt, .ref zOf, .ref zDs, .ref zIx, .ref zSd, .ref zUt, .ref zCh, .ref zLt, .ref zLo, .ref zRu])), (zLt, .inl (cAzLt, 40, .inr (.inl w4_a))), (zLo, .inl (cAzLo, 40, .inl w5_a))] H → va_D A [(h0, .inr (3, [.int w0_0, .int w0_1, .ref fTape, .ref fZone, .ref fCounts, .int w0_5, .int fText])), (fTape, .inr (0, [.ref q2, .int tpS])), (q2, .inl (nA2, tpN, .inl tpA)), (fZone, .inr (8, [.int zVer, .int zTic, .int zTyc, .int zLec, .int zStc, .int zUtc, .ref zTi, .ref zTt, .ref zOf, .ref zDs, .ref zIx, .ref zSd, .ref zUt, .ref zCh, .ref zLt, .ref zLo, .ref zRu])), (zLt, .inl (cAzLt, 40, .inr (.inl w4_a))), (zLo, .inl (cAzLo, 40, .inl w5_a))] → va_S A s.heap H locs → lv_has ls 7 [(2, .int x2), (0, .ref h0), (1, .int x1)] → W p l e R s m args below meth c H locs 0 0 Q (F0 m 22 ls [])) {x3 : Int64} {x2 : Int32} {x1 : Int32} {w0_0 : Int32} {w0_1 : Int32} {w0_5 : Int32} {w4_a : Nat → Int64} {w5_a : Nat → Int32} (hf : f_FP_readLeaps_87 nf tpS tpN tpA K22 x3 x2 x1 w0_0 w0_1 w0_5 w4_a w5_a = some (r0, v0_0, v0_1, v0_5, v4_a, v5_a)) {q2 : Nat} {nA2 : ClassId} {H : Heap} {locs : List Loc} {ls : Array Slot} (hK : va_K (dC, dI) classes [(nA2, .byte), (cAzLt, .long), (cAzLo, .int)] s) (hP : va_P (dC, dI) classes [(h0, .inr (3, [.int w0_0, .int w0_1, .ref fTape, .ref fZone, .ref fCounts, .int w0_5, .int fText])), (fTape, .inr (0, [.ref q2, .int tpS])), (q2, .inl (nA2, tpN, .inl tpA)), (fZone, .inr (8, [.int zVer, .int zTic, .int zTyc, .int zLec, .int zStc, .int zUtc, .ref zTi, .ref zTt, .ref zOf, .ref zDs, .ref zIx, .ref zSd, .ref zUt, .ref zCh, .ref zLt, .ref zLo, .ref zRu])), (zLt, .inl (cAzLt, 40, .inr (.inl w4_a))), (zLo, .inl (cAzLo, 40, .inl w5_a))] H) (hD : va_D A [(h0, .inr (3, [.int w0_0, .int w0_1, .ref fTape, .ref fZone, .ref fCounts, .int w0_5, .int fText])), (fTape, .inr (0, [.ref q2, .int tpS])), (q2, .inl (nA2, tpN, .inl tpA)), (fZone, .inr (8, [.int zVer, .int zTic, .int zTyc, .int zLec, .int zStc, .int zUtc, .ref zTi, .ref zTt, .ref zOf, .ref zDs, .ref zIx, .ref zSd, .ref zUt, .ref zCh, .ref zLt, .ref zLo, .ref zRu])), (zLt, .inl (cAzLt, 40, .inr (.inl w4_a))), (zLo, .inl (cAzLo, 40, .inl w5_a))]) (hS : va_S A s.heap H locs) (hl : lv_has ls 7 [(3, .long x3), (2, .int x2), (0, .ref h0), (1, .int x1)]) : W p l e R s m args below meth c H locs 0 0 Q (F0 m 87 ls []) := by
  obtain ⟨hx, hb, hr, hml, hown, hts, hlocks, hRf, hRl⟩ := id C0
  obtain ⟨tms, hZms, hTms, tmg, hZmg, hTmg, hNW⟩ := id hST
  unfold f_FP_readLeaps_87 at hf
  refine lv_aload_n hx hb d_FP_readLeaps_87 rfl (lv_at hl 2 rfl) ?_
  refine va_get (D := (dC, dI)) (ci := 3) (v := .ref fTape) (C := RFileParser) (T := TFileParser) (N := 7) hx hb hts in_FileParser hown hK hP 0 rfl rfl 2 (by decide) (hts (.fieldLink "ZoneFiles$FileParser" 9 "ZoneFiles$FileParser" "tape" "LZoneFiles$Bytes;") m_3_160) (fun _ h9 => h9) rfl d_FP_readLeaps_88 ?_
  refine lv_aload_n hx hb d_FP_readLeaps_91 rfl (lv_at hl 2 rfl) ?_
  refine va_get (D := (dC, dI)) (ci := 3) (v := .int w0_5) (C := RFileParser) (T := TFileParser) (N := 7) hx hb hts in_FileParser hown hK hP 0 rfl rfl 5 (by decide) (hts (.fieldLink "ZoneFiles$FileParser" 44 "ZoneFiles$FileParser" "pos" "I") m_3_163) (fun _ h9 => h9) rfl d_FP_readLeaps_92 ?_
  refine lv_iload_n hx hb d_FP_readLeaps_95 rfl (lv_at hl 3 rfl) ?_
  refine lv_iadd hx hb d_FP_readLeaps_96 ?_
  refine lv_iconst (v := 4) hx hb d_FP_readLeaps_97 (by decide) ?_
  obtain ⟨r_13, hc, hf⟩ := ob hf
  refine cl_S (v := (some (.long r_13))) (st1 := [.long r_13]) (va_runV (As := [.int (w0_5 + x1), .int 4]) (rest := []) ⟨hx, hb, hml, hown, hts⟩ (c_By_signedAt l dC dI fTape q2 nA2 nf (w0_5 + x1) 4 tpS tpN tpA hc) (cwV 2 hts (gdV m_3_231 m_3_208 m_3_209 m_1_2 m_3_210) rfl rfl rfl (by decide +kernel) ⟨Nat.le_trans (Nat.le_of_ble_eq_true rfl) hRf, Nat.le_trans (Nat.le_of_ble_eq_true rfl) hRl⟩) ((RO.pre (hP.sub (ws' := [(fTape, .inr (0, [.ref q2, .int tpS])), (q2, .inl (nA2, tpN, .inl tpA))]) [1, 2] rfl) (hK.sub (tys' := [(nA2, .byte)]) [0] rfl) (hST.ro hS)).vir (va_recv (hK.sub (tys' := [(nA2, .byte)]) [0] rfl) (hP.sub (ws' := [(fTape, .inr (0, [.ref q2, .int tpS])), (q2, .inl (nA2, tpN, .inl tpA))]) [1, 2] rfl) (ci := 0) (q0 := 0) rfl rfl)) rfl rfl hl.1 rfl (lv_room (Nat.le_of_ble_eq_true rfl)) d_FP_readLeaps_98 ⟨Nat.zero_le _, Nat.zero_le _⟩) rfl ?_
  refine lv_lstore (lv' := [(5, .long r_13), (3, .long x3), (2, .int x2), (0, .ref h0), (1, .int x1)]) hx hb d_FP_readLeaps_101 hl (by decide) rfl (fun ls hl => ?_)
  refine lv_lload hx hb d_FP_readLeaps_103 (lv_at hl 0 rfl) ?_
  refine lv_iload_n hx hb d_FP_readLeaps_105 rfl (lv_at hl 2 rfl) ?_
  refine lv_if_le (tgt := 124) hx hb d_FP_readLeaps_106 (by decide) (fun c_14 => ?_) (fun c_14 => ?_)
  · have hf := it_t c_14 hf
    refine lv_lconst (v := 0) hx hb d_FP_readLeaps_124 (by decide) ?_
    exact k_FP_readLeaps_125 C0 hST hA hE hK22 hf hK hP hD hS (lv_sub hl [0, 1, 2, 3, 4] rfl)
  · have hf := it_f c_14 hf
    refine lv_aload_n hx hb d_FP_readLeaps_109 rfl (lv_at hl 3 rfl) ?_
    refine va_get (D := (dC, dI)) (ci := 3) (v := .ref fZone) (C := RFileParser) (T := TFileParser) (N := 7) hx hb hts in_FileParser hown hK hP 0 rfl rfl 3 (by decide) (hts (.fieldLink "ZoneFiles$FileParser" 15 "ZoneFiles$FileParser" "zone" "LZoneFiles$Zone;") m_3_161) (fun _ h9 => h9) rfl d_FP_readLeaps_110 ?_
    refine va_get (D := (dC, dI)) (ci := 8) (v := .ref zLo) (C := RZone) (T := TZone) (N := 17) hx hb hts in_Zone hown hK hP 3 rfl rfl 15 (by decide) (hts (.fieldLink "ZoneFiles$FileParser" 204 "ZoneFiles$Zone" "leapCorrections" "[I") m_1_225) (fun _ h9 => h9) rfl d_FP_readLeaps_113 ?_
    refine lv_iload_n hx hb d_FP_readLeaps_116 rfl (lv_at hl 2 rfl) ?_
    refine lv_iconst (v := 1) hx hb d_FP_readLeaps_117 (by decide) ?_
    refine lv_isub hx hb d_FP_readLeaps_118 ?_
    obtain ⟨c_22, hf⟩ := it_n hf
    refine va_iald hx hb hK hP 5 2 rfl rfl c_22 d_FP_readLeaps_119 ?_
    refine lv_i2l hx hb d_FP_readLeaps_120 rfl ?_
    refine lv_goto (tgt := 125) hx hb d_FP_readLeaps_121 (by decide) ?_
    exact k_FP_readLeaps_125 C0 hST hA hE hK22 hf hK hP hD hS (lv_sub hl [0, 1, 2, 3, 4] rfl)
set_option maxHeartbeats 400000 in
set_option maxRecDepth 100000 in
theorem k_FP_readLeaps_22 (C0 : Cx p s m meth c args R b_FP_readLeaps "ZoneFiles$FileParser" 7 (some .boolean) 2 46) (hST : ST A s s.heap) (hA : ∀ q, s.heap.size ≤ q → A q) (hE : ∀ (pc : Nat) (ls : Array Slot) {q2 : Nat} {nA2 : ClassId} (H : Heap) (locs : List Loc), decode b_FP_readLeaps pc = .ok (.ireturn, 1) → narrow .boolean (.int r0) = .int r0 → va_P (dC, dI) classes [(h0, .inr (3, [.int v0_0, .int v0_1, .ref fTape, .ref fZone, .ref fCounts, .int v0_5, .int fText])), (fTape, .inr (0, [.ref q2, .int tpS])), (q2, .inl (nA2, tpN, .inl tpA)), (fZone, .inr (8, [.int zVer, .int zTic, .int zTyc, .int zLec, .int zStc, .int zUtc, .ref zTi, .ref zTt, .ref zOf, .ref zDs, .ref zIx, .ref zSd, .ref zUt, .ref zCh, .ref zLt, .ref zLo, .ref zRu])), (zLt, .inl (cAzLt, 40, .inr (.inl v4_a))), (zLo, .inl (cAzLo, 40, .inl v5_a))] H → va_D A [(h0, .inr (3, [.int v0_0, .int v0_1, .ref fTape, .ref fZone, .ref fCounts, .int v0_5, .int fText])), (fTape, .inr (0, [.ref q2, .int tpS])), (q2, .inl (nA2, tpN, .inl tpA)), (fZone, .inr (8, [.int zVer, .int zTic, .int zTyc, .int zLec, .int zStc, .int zUtc, .ref zTi, .ref zTt, .ref zOf, .ref zDs, .ref zIx, .ref zSd, .ref zUt, .ref zCh, .ref zLt, .ref zLo, .ref zRu])), (zLt, .inl (cAzLt, 40, .inr (.inl v4_a))), (zLo, .inl (cAzLo, 40, .inl v5_a))] → va_S A s.heap H locs → va_K (dC, dI) classes [(nA2, .byte), (cAzLt, .long), (cAzLo, .int)] s → W p l e R s m args below meth c H locs 0 0 Q (F0 m pc ls [.int r0])) : ∀ (n : Nat) {x2 : Int32} {x1 : Int32} {w0_0 : Int32} {w0_1 : Int32} {w0_5 : Int32} {w4_a : Nat → Int64} {w5_a : Nat → Int32}, f_FP_readLeaps_22 nf tpS tpN tpA zLec n x2 x1 w0_0 w0_1 w0_5 w4_a w5_a = some (r0, v0_0, v0_1, v0_5, v4_a, v5_a) → ∀ {q2 : Nat} {nA2 : ClassId} {H : Heap} {locs : List Loc} {ls : Array Slot}, va_K (dC, dI) classes [(nA2, .byte), (cAzLt, .long), (cAzLo, .int)] s → va_P (dC, dI) classes [(h0, .inr (3, [.int w0_0, .int w0_1, .ref fTape, .ref fZone, .ref fCounts, .int w0_5, .int fText])), (fTape, .inr (0, [.ref q2, .int tpS])), (q2, .inl (nA2, tpN, .inl tpA)), (fZone, .inr (8, [.int zVer, .int zTic, .int zTyc, .int zLec, .int zStc, .int zUtc, .ref zTi, .ref zTt, .ref zOf, .ref zDs, .ref zIx, .ref zSd, .ref zUt, .ref zCh, .ref zLt, .ref zLo, .ref zRu])), (zLt, .inl (cAzLt, 40, .inr (.inl w4_a))), (zLo, .inl (cAzLo, 40, .inl w5_a))] H → va_D A [(h0, .inr (3, [.int w0_0, .int w0_1, .ref fTape, .ref fZone, .ref fCounts, .int w0_5, .int fText])), (fTape, .inr (0, [.ref q2, .int tpS])), (q2, .inl (nA2, tpN, .inl tpA)), (fZone, .inr (8, [.int zVer, .int zTic, .int zTyc, .int zLec, .int zStc, .int zUtc, .ref zTi, .ref zTt, .ref zOf, .ref zDs, .ref zIx, .ref zSd, .ref zUt, .ref zCh, .ref zLt, .ref zLo, .ref zRu])), (zLt, .inl (cAzLt, 40, .inr (.inl w4_a))), (zLo, .inl (cAzLo, 40, .inl w5_a))] → va_S A s.heap H locs → lv_has ls 7 [(2, .int x2), (0, .ref h0), (1, .int x1)] → W p l e R s m args below meth c H locs 0 0 Q (F0 m 22 ls []) := by
  obtain ⟨hx, hb, hr, hml, hown, hts, hlocks, hRf, hRl⟩ := id C0
  obtain ⟨tms, hZms, hTms, tmg, hZmg, hTmg, hNW⟩ := id hST
  intro n
  induction n with
  | zero =>
    intro x2 x1 w0_0 w0_1 w0_5 w4_a w5_a hf
    exact absurd hf (by simp [f_FP_readLeaps_22])
  | succ n ih =>
    intro x2 x1 w0_0 w0_1 w0_5 w4_a w5_a hf q2 nA2 H locs ls hK hP hD hS hl
    unfold f_FP_readLeaps_22 at hf
    refine lv_iload_n hx hb d_FP_readLeaps_22 rfl (lv_at hl 0 rfl) ?_
    refine lv_aload_n hx hb d_FP_readLeaps_23 rfl (lv_at hl 1 rfl) ?_
    refine va_get (D := (dC, dI)) (ci := 3) (v := .ref fZone) (C := RFileParser) (T := TFileParser) (N := 7) hx hb hts in_FileParser hown hK hP 0 rfl rfl 3 (by decide) (hts (.fieldLink "ZoneFiles$FileParser" 15 "ZoneFiles$FileParser" "zone" "LZoneFiles$Zone;") m_3_161) (fun _ h9 => h9) rfl d_FP_readLeaps_24 ?_
    refine va_get (D := (dC, dI)) (ci := 8) (v := .int zLec) (C := RZone) (T := TZone) (N := 17) hx hb hts in_Zone hown hK hP 3 rfl rfl 3 (by decide) (hts (.fieldLink "ZoneFiles$FileParser" 129 "ZoneFiles$Zone" "leapCount" "I") m_1_177) (fun _ h9 => h9) rfl d_FP_readLeaps_27 ?_
    refine lv_icmp_ge (tgt := 187) hx hb d_FP_readLeaps_30 (by decide) (fun c_5 => ?_) (fun c_5 => ?_)
    · have hf := it_t c_5 hf
      refine lv_iconst (v := 1) hx hb d_FP_readLeaps_187 (by decide) ?_
      cases rs hf
      exact hE _ _ _ _ d_FP_readLeaps_188 rfl hP hD hS hK
    · have hf := it_f c_5 hf
      refine lv_aload_n hx hb d_FP_readLeaps_33 rfl (lv_at hl 1 rfl) ?_
      refine va_get (D := (dC, dI)) (ci := 3) (v := .ref fTape) (C := RFileParser) (T := TFileParser) (N := 7) hx hb hts in_FileParser hown hK hP 0 rfl rfl 2 (by decide) (hts (.fieldLink "ZoneFiles$FileParser" 9 "ZoneFiles$FileParser" "tape" "LZoneFiles$Bytes;") m_3_160) (fun _ h9 => h9) rfl d_FP_readLeaps_34 ?_
      refine lv_aload_n hx hb d_FP_readLeaps_37 rfl (lv_at hl 1 rfl) ?_
      refine va_get (D := (dC, dI)) (ci := 3) (v := .int w0_5) (C := RFileParser) (T := TFileParser) (N := 7) hx hb hts in_FileParser hown hK hP 0 rfl rfl 5 (by decide) (hts (.fieldLink "ZoneFiles$FileParser" 44 "ZoneFiles$FileParser" "pos" "I") m_3_163) (fun _ h9 => h9) rfl d_FP_readLeaps_38 ?_
      refine lv_iload_n hx hb d_FP_readLeaps_41 rfl (lv_at hl 2 rfl) ?_
      obtain ⟨r_6, hc, hf⟩ := ob hf
      refine cl_S (v := (some (.long r_6))) (st1 := [.long r_6]) (va_runV (As := [.int w0_5, .int x1]) (rest := []) ⟨hx, hb, hml, hown, hts⟩ (c_By_signedAt l dC dI fTape q2 nA2 nf w0_5 x1 tpS tpN tpA hc) (cwV 2 hts (gdV m_3_231 m_3_208 m_3_209 m_1_2 m_3_210) rfl rfl rfl (by decide +kernel) ⟨Nat.le_trans (Nat.le_of_ble_eq_true rfl) hRf, Nat.le_trans (Nat.le_of_ble_eq_true rfl) hRl⟩) ((RO.pre (hP.sub (ws' := [(fTape, .inr (0, [.ref q2, .int tpS])), (q2, .inl (nA2, tpN, .inl tpA))]) [1, 2] rfl) (hK.sub (tys' := [(nA2, .byte)]) [0] rfl) (hST.ro hS)).vir (va_recv (hK.sub (tys' := [(nA2, .byte)]) [0] rfl) (hP.sub (ws' := [(fTape, .inr (0, [.ref q2, .int tpS])), (q2, .inl (nA2, tpN, .inl tpA))]) [1, 2] rfl) (ci := 0) (q0 := 0) rfl rfl)) rfl rfl hl.1 rfl (lv_room (Nat.le_of_ble_eq_true rfl)) d_FP_readLeaps_42 ⟨Nat.zero_le _, Nat.zero_le _⟩) rfl ?_
      refine lv_lstore_n (lv' := [(3, .long r_6), (2, .int x2), (0, .ref h0), (1, .int x1)]) hx hb d_FP_readLeaps_45 rfl hl (by decide) rfl (fun ls hl => ?_)
      refine lv_lload_n hx hb d_FP_readLeaps_46 rfl (lv_at hl 0 rfl) ?_
      refine lv_lconst (v := 0) hx hb d_FP_readLeaps_47 (by decide) ?_
      refine lc_lt (tgt := 76) hx hb d_FP_readLeaps_48 d_FP_readLeaps_49 (by decide) (fun c_7 => ?_) (fun c_7 => ?_)
      · have hf := it_t c_7 hf
        exact k_FP_readLeaps_76 C0 hST hA hE hf hK hP hD hS (lv_sub hl [2] rfl)
      · have hf := it_f c_7 hf
        refine lv_iload_n hx hb d_FP_readLeaps_52 rfl (lv_at hl 1 rfl) ?_
        refine lv_if_le (tgt := 87) hx hb d_FP_readLeaps_53 (by decide) (fun c_12 => ?_) (fun c_12 => ?_)
        · have hf := it_t c_12 hf
          exact k_FP_readLeaps_87 C0 hST hA hE (fun hf => ih hf) hf hK hP hD hS (lv_sub hl [0, 1, 2, 3] rfl)
        · have hf := it_f c_12 hf
          refine lv_lload_n hx hb d_FP_readLeaps_56 rfl (lv_at hl 0 rfl) ?_
          refine lv_aload_n hx hb d_FP_readLeaps_57 rfl (lv_at hl 2 rfl) ?_
          refine va_get (D := (dC, dI)) (ci := 3) (v := .ref fZone) (C := RFileParser) (T := TFileParser) (N := 7) hx hb hts in_FileParser hown hK hP 0 rfl rfl 3 (by decide) (hts (.fieldLink "ZoneFiles$FileParser" 15 "ZoneFiles$FileParser" "zone" "LZoneFiles$Zone;") m_3_161) (fun _ h9 => h9) rfl d_FP_readLeaps_58 ?_
          refine va_get (D := (dC, dI)) (ci := 8) (v := .ref zLt) (C := RZone) (T := TZone) (N := 17) hx hb hts in_Zone hown hK hP 3 rfl rfl 14 (by decide) (hts (.fieldLink "ZoneFiles$FileParser" 199 "ZoneFiles$Zone" "leapTimes" "[J") m_1_221) (fun _ h9 => h9) rfl d_FP_readLeaps_61 ?_
          refine lv_iload_n hx hb d_FP_readLeaps_64 rfl (lv_at hl 1 rfl) ?_
          refine lv_iconst (v := 1) hx hb d_FP_readLeaps_65 (by decide) ?_
          refine lv_isub hx hb d_FP_readLeaps_66 ?_
          obtain ⟨c_23, hf⟩ := it_n hf
          refine va_lald hx hb hK hP 4 1 rfl rfl c_23 d_FP_readLeaps_67 ?_
          refine lv_lsub hx hb d_FP_readLeaps_68 ?_
          refine lv_ldc2 (v := 2419199) hx hb hown (hts (.constantLong "ZoneFiles$FileParser" 202 2419199) m_4_30) d_FP_readLeaps_69 ?_
          refine lc_ge (tgt := 87) hx hb d_FP_readLeaps_72 d_FP_readLeaps_73 (by decide) (fun c_24 => ?_) (fun c_24 => ?_)
          · have hf := it_t c_24 hf
            exact k_FP_readLeaps_87 C0 hST hA hE (fun hf => ih hf) hf hK hP hD hS (lv_sub hl [0, 1, 2, 3] rfl)
          · have hf := it_f c_24 hf
            exact k_FP_readLeaps_76 C0 hST hA hE hf hK hP hD hS (lv_sub hl [2] rfl)
set_option maxHeartbeats 400000 in
set_option maxRecDepth 100000 in
theorem k_FP_readLeaps_0 (C0 : Cx p s m meth c args R b_FP_readLeaps "ZoneFiles$FileParser" 7 (some .boolean) 2 46) (hST : ST A s s.heap) (hA : ∀ q, s.heap.size ≤ q → A q) (hE : ∀ (pc : Nat) (ls : Array Slot) {q2 : Nat} {nA2 : ClassId} (H : Heap) (locs : List Loc), decode b_FP_readLeaps pc = .ok (.ireturn, 1) → narrow .boolean (.int r0) = .int r0 → va_P (dC, dI) classes [(h0, .inr (3, [.int v0_0, .int v0_1, .ref fTape, .ref fZone, .ref fCounts, .int v0_5, .int fText])), (fTape, .inr (0, [.ref q2, .int tpS])), (q2, .inl (nA2, tpN, .inl tpA)), (fZone, .inr (8, [.int zVer, .int zTic, .int zTyc, .int zLec, .int zStc, .int zUtc, .ref zTi, .ref zTt, .ref zOf, .ref zDs, .ref zIx, .ref zSd, .ref zUt, .ref zCh, .ref zLt, .ref zLo, .ref zRu])), (zLt, .inl (cAzLt, 40, .inr (.inl v4_a))), (zLo, .inl (cAzLo, 40, .inl v5_a))] H → va_D A [(h0, .inr (3, [.int v0_0, .int v0_1, .ref fTape, .ref fZone, .ref fCounts, .int v0_5, .int fText])), (fTape, .inr (0, [.ref q2, .int tpS])), (q2, .inl (nA2, tpN, .inl tpA)), (fZone, .inr (8, [.int zVer, .int zTic, .int zTyc, .int zLec, .int zStc, .int zUtc, .ref zTi, .ref zTt, .ref zOf, .ref zDs, .ref zIx, .ref zSd, .ref zUt, .ref zCh, .ref zLt, .ref zLo, .ref zRu])), (zLt, .inl (cAzLt, 40, .inr (.inl v4_a))), (zLo, .inl (cAzLo, 40, .inl v5_a))] → va_S A s.heap H locs → va_K (dC, dI) classes [(nA2, .byte), (cAzLt, .long), (cAzLo, .int)] s → W p l e R s m args below meth c H locs 0 0 Q (F0 m pc ls [.int r0])) {x1 : Int32} {w0_0 : Int32} {w0_1 : Int32} {w0_5 : Int32} {w4_a : Nat → Int64} {w5_a : Nat → Int32} (hf : f_FP_readLeaps_0 nf tpS tpN tpA zLec x1 w0_0 w0_1 w0_5 w4_a w5_a = some (r0, v0_0, v0_1, v0_5, v4_a, v5_a)) {q2 : Nat} {nA2 : ClassId} {H : Heap} {locs : List Loc} {ls : Array Slot} (hK : va_K (dC, dI) classes [(nA2, .byte), (cAzLt, .long), (cAzLo, .int)] s) (hP : va_P (dC, dI) classes [(h0, .inr (3, [.int w0_0, .int w0_1, .ref fTape, .ref fZone, .ref fCounts, .int w0_5, .int fText])), (fTape, .inr (0, [.ref q2, .int tpS])), (q2, .inl (nA2, tpN, .inl tpA)), (fZone, .inr (8, [.int zVer, .int zTic, .int zTyc, .int zLec, .int zStc, .int zUtc, .ref zTi, .ref zTt, .ref zOf, .ref zDs, .ref zIx, .ref zSd, .ref zUt, .ref zCh, .ref zLt, .ref zLo, .ref zRu])), (zLt, .inl (cAzLt, 40, .inr (.inl w4_a))), (zLo, .inl (cAzLo, 40, .inl w5_a))] H) (hD : va_D A [(h0, .inr (3, [.int w0_0, .int w0_1, .ref fTape, .ref fZone, .ref fCounts, .int w0_5, .int fText])), (fTape, .inr (0, [.ref q2, .int tpS])), (q2, .inl (nA2, tpN, .inl tpA)), (fZone, .inr (8, [.int zVer, .int zTic, .int zTyc, .int zLec, .int zStc, .int zUtc, .ref zTi, .ref zTt, .ref zOf, .ref zDs, .ref zIx, .ref zSd, .ref zUt, .ref zCh, .ref zLt, .ref zLo, .ref zRu])), (zLt, .inl (cAzLt, 40, .inr (.inl w4_a))), (zLo, .inl (cAzLo, 40, .inl w5_a))]) (hS : va_S A s.heap H locs) (hl : lv_has ls 7 [(0, .ref h0), (1, .int x1)]) : W p l e R s m args below meth c H locs 0 0 Q (F0 m 0 ls []) := by
  obtain ⟨hx, hb, hr, hml, hown, hts, hlocks, hRf, hRl⟩ := id C0
  obtain ⟨tms, hZms, hTms, tmg, hZmg, hTmg, hNW⟩ := id hST
  unfold f_FP_readLeaps_0 at hf
  refine lv_aload_n hx hb d_FP_readLeaps_0 rfl (lv_at hl 0 rfl) ?_
  refine lv_iload_n hx hb d_FP_readLeaps_1 rfl (lv_at hl 1 rfl) ?_
  refine lv_iconst (v := 4) hx hb d_FP_readLeaps_2 (by decide) ?_
  refine lv_iadd hx hb d_FP_readLeaps_3 ?_
  refine lv_aload_n hx hb d_FP_readLeaps_4 rfl (lv_at hl 0 rfl) ?_
  refine va_get (D := (dC, dI)) (ci := 3) (v := .ref fZone) (C := RFileParser) (T := TFileParser) (N := 7) hx hb hts in_FileParser hown hK hP 0 rfl rfl 3 (by decide) (hts (.fieldLink "ZoneFiles$FileParser" 15 "ZoneFiles$FileParser" "zone" "LZoneFiles$Zone;") m_3_161) (fun _ h9 => h9) rfl d_FP_readLeaps_5 ?_
  refine va_get (D := (dC, dI)) (ci := 8) (v := .int zLec) (C := RZone) (T := TZone) (N := 17) hx hb hts in_Zone hown hK hP 3 rfl rfl 3 (by decide) (hts (.fieldLink "ZoneFiles$FileParser" 129 "ZoneFiles$Zone" "leapCount" "I") m_1_177) (fun _ h9 => h9) rfl d_FP_readLeaps_8 ?_
  refine lv_imul hx hb d_FP_readLeaps_11 ?_
  obtain ⟨⟨z_1, z_2, z_3⟩, hc, hf⟩ := ob hf
  have hPc := hP.sub (ws' := [(h0, .inr (3, [.int w0_0, .int w0_1, .ref fTape, .ref fZone, .ref fCounts, .int w0_5, .int fText])), (fTape, .inr (0, [.ref q2, .int tpS]))]) [0, 1] rfl
  have hDc := hD.sub (ws' := [(h0, .inr (3, [.int w0_0, .int w0_1, .ref fTape, .ref fZone, .ref fCounts, .int w0_5, .int fText])), (fTape, .inr (0, [.ref q2, .int tpS]))]) [0, 1] (by decide) rfl
  have hKc := hK.sub (tys' := []) [] rfl
  have hFc := va_free (wc := [(h0, .inr (3, [.int w0_0, .int w0_1, .ref fTape, .ref fZone, .ref fCounts, .int w0_5, .int fText])), (fTape, .inr (0, [.ref q2, .int tpS]))]) hD hS hA [0, 1] rfl
  refine cl_M (v := (some (.int z_1))) (st1 := [.int z_1]) (va_runV (As := [.int ((x1 + 4) * zLec)]) (rest := []) ⟨hx, hb, hml, hown, hts⟩ (c_FP_hasMore l dC dI h0 fTape fZone fCounts q2 H.size nf ((x1 + 4) * zLec) w0_0 w0_1 w0_5 fText tpS hc) (cwV 1 hts (gdV m_3_199 m_3_201 msel_18 m_1_16 m_3_202) rfl rfl rfl (by decide +kernel) ⟨Nat.le_trans (Nat.le_of_ble_eq_true rfl) hRf, Nat.le_trans (Nat.le_of_ble_eq_true rfl) hRl⟩) ((MU.pre hPc hKc hDc (hST.mu hS hFc)).vir (va_recv hKc hPc (ci := 3) (q0 := 0) rfl rfl)) rfl rfl hl.1 rfl (lv_room (Nat.le_of_ble_eq_true rfl)) d_FP_readLeaps_12 ⟨Nat.zero_le _, Nat.zero_le _⟩) rfl hS (fun q _ h => hFc q h) hFc (fun t H1 locs ht hvm hB hz1 hk1 hS => ?_)
  obtain ⟨hP1, hK1, hD1⟩ := hB
  rw [ht] at hP1
  have hK1 := va_K.moved hvm.symm hK1
  obtain ⟨hP, hD⟩ := va_join (wr := [(q2, .inl (nA2, tpN, .inl tpA)), (fZone, .inr (8, [.int zVer, .int zTic, .int zTyc, .int zLec, .int zStc, .int zUtc, .ref zTi, .ref zTt, .ref zOf, .ref zDs, .ref zIx, .ref zSd, .ref zUt, .ref zCh, .ref zLt, .ref zLo, .ref zRu])), (zLt, .inl (cAzLt, 40, .inr (.inl w4_a))), (zLo, .inl (cAzLo, 40, .inl w5_a))]) (w1 := [(h0, .inr (3, [.int z_2, .int z_3, .ref fTape, .ref fZone, .ref fCounts, .int w0_5, .int fText])), (fTape, .inr (0, [.ref q2, .int tpS]))]) hP hD [0, 1] [2, 3, 4, 5] rfl rfl (by decide) (by decide) hk1 hFc hP1 hD1
  have hK := (hK.sub (tys' := [(nA2, .byte), (cAzLt, .long), (cAzLo, .int)]) [0, 1, 2] rfl).app hK1
  generalize H1 = H at hP hS ⊢
  have hP := hP.sub (ws' := [(h0, .inr (3, [.int z_2, .int z_3, .ref fTape, .ref fZone, .ref fCounts, .int w0_5, .int fText])), (fTape, .inr (0, [.ref q2, .int tpS])), (q2, .inl (nA2, tpN, .inl tpA)), (fZone, .inr (8, [.int zVer, .int zTic, .int zTyc, .int zLec, .int zStc, .int zUtc, .ref zTi, .ref zTt, .ref zOf, .ref zDs, .ref zIx, .ref zSd, .ref zUt, .ref zCh, .ref zLt, .ref zLo, .ref zRu])), (zLt, .inl (cAzLt, 40, .inr (.inl w4_a))), (zLo, .inl (cAzLo, 40, .inl w5_a))]) [4, 5, 0, 1, 2, 3] rfl
  have hD := hD.sub (ws' := [(h0, .inr (3, [.int z_2, .int z_3, .ref fTape, .ref fZone, .ref fCounts, .int w0_5, .int fText])), (fTape, .inr (0, [.ref q2, .int tpS])), (q2, .inl (nA2, tpN, .inl tpA)), (fZone, .inr (8, [.int zVer, .int zTic, .int zTyc, .int zLec, .int zStc, .int zUtc, .ref zTi, .ref zTt, .ref zOf, .ref zDs, .ref zIx, .ref zSd, .ref zUt, .ref zCh, .ref zLt, .ref zLo, .ref zRu])), (zLt, .inl (cAzLt, 40, .inr (.inl w4_a))), (zLo, .inl (cAzLo, 40, .inl w5_a))]) [4, 5, 0, 1, 2, 3] (by decide) rfl
  have hK := hK.sub (tys' := [(nA2, .byte), (cAzLt, .long), (cAzLo, .int)]) [0, 1, 2] rfl
  refine lv_if_ne (tgt := 20) hx hb d_FP_readLeaps_15 (by decide) (fun c_4 => ?_) (fun c_4 => ?_)
  · have hf := it_f c_4 hf
    refine lv_iconst (v := 0) hx hb d_FP_readLeaps_20 (by decide) ?_
    refine lv_istore_n (lv' := [(2, .int 0), (0, .ref h0), (1, .int x1)]) hx hb d_FP_readLeaps_21 rfl hl (by decide) rfl (fun ls hl => ?_)
    exact k_FP_readLeaps_22 C0 hST hA hE nf hf hK hP hD hS (lv_sub hl [0, 1, 2] rfl)
  · have hf := it_t c_4 hf
    refine lv_iconst (v := 0) hx hb d_FP_readLeaps_18 (by decide) ?_
    cases rs hf
    exact hE _ _ _ _ d_FP_readLeaps_19 rfl hP hD hS hK
end
set_option maxHeartbeats 400000 in
set_option maxRecDepth 100000 in
theorem c_FP_readLeaps (l : Launch) (dC : Nat → ClassId) (dI : Nat → Nat → Nat) (h0 : Nat) (fTape : Nat) (fZone : Nat) (fCounts : Nat) (tpR : Nat) (zTi : Nat) (zTt : Nat) (zOf : Nat) (zDs : Nat) (zIx : Nat) (zSd : Nat) (zUt : Nat) (zCh : Nat) (zLt : Nat) (zLo : Nat) (zRu : Nat) (cAtpR : ClassId) (cAzLt : ClassId) (cAzLo : ClassId) (sz : Nat) (nf : Nat) (p0 : Int32) (fFault : Int32) (fPlace : Int32) (fPos : Int32) (fText : Int32) (tpS : Int32) (tpN : Nat) (tpA : Nat → Int32) (zVer : Int32) (zTic : Int32) (zTyc : Int32) (zLec : Int32) (zStc : Int32) (zUtc : Int32) (zLtA : Nat → Int64) (zLoA : Nat → Int32) {r0 : Int32} {v0_0 : Int32} {v0_1 : Int32} {v0_5 : Int32} {v4_a : Nat → Int64} {v5_a : Nat → Int32} (hf : f_FP_readLeaps nf p0 fFault fPlace fPos tpS tpN tpA zLec zLtA zLoA = some (r0, v0_0, v0_1, v0_5, v4_a, v5_a)) : Met l y_FP_readLeaps (wd y_FP_readLeaps b_FP_readLeaps 7 (some .boolean)) ({ frames := 2, cells := 0, slots := 0, locals := 46 }) (MU dC dI [(h0, .inr (3, [.int fFault, .int fPlace, .ref fTape, .ref fZone, .ref fCounts, .int fPos, .int fText])), (fTape, .inr (0, [.ref tpR, .int tpS])), (tpR, .inl (cAtpR, tpN, .inl tpA)), (fZone, .inr (8, [.int zVer, .int zTic, .int zTyc, .int zLec, .int zStc, .int zUtc, .ref zTi, .ref zTt, .ref zOf, .ref zDs, .ref zIx, .ref zSd, .ref zUt, .ref zCh, .ref zLt, .ref zLo, .ref zRu])), (zLt, .inl (cAzLt, 40, .inr (.inl zLtA))), (zLo, .inl (cAzLo, 40, .inl zLoA))] [(cAtpR, .byte), (cAzLt, .long), (cAzLo, .int)] sz [.ref h0, .int p0]) (MV (some (.int r0)) (fun t => ∃ (q2 : Nat) (nA2 : ClassId), va_P (dC, dI) classes [(h0, .inr (3, [.int v0_0, .int v0_1, .ref fTape, .ref fZone, .ref fCounts, .int v0_5, .int fText])), (fTape, .inr (0, [.ref q2, .int tpS])), (q2, .inl (nA2, tpN, .inl tpA)), (fZone, .inr (8, [.int zVer, .int zTic, .int zTyc, .int zLec, .int zStc, .int zUtc, .ref zTi, .ref zTt, .ref zOf, .ref zDs, .ref zIx, .ref zSd, .ref zUt, .ref zCh, .ref zLt, .ref zLo, .ref zRu])), (zLt, .inl (cAzLt, 40, .inr (.inl v4_a))), (zLo, .inl (cAzLo, 40, .inl v5_a))] t.heap ∧ va_K (dC, dI) classes [(nA2, .byte), (cAzLt, .long), (cAzLo, .int)] t ∧ va_D (va_A [(h0, .inr (3, [.int fFault, .int fPlace, .ref fTape, .ref fZone, .ref fCounts, .int fPos, .int fText])), (fTape, .inr (0, [.ref tpR, .int tpS])), (tpR, .inl (cAtpR, tpN, .inl tpA)), (fZone, .inr (8, [.int zVer, .int zTic, .int zTyc, .int zLec, .int zStc, .int zUtc, .ref zTi, .ref zTt, .ref zOf, .ref zDs, .ref zIx, .ref zSd, .ref zUt, .ref zCh, .ref zLt, .ref zLo, .ref zRu])), (zLt, .inl (cAzLt, 40, .inr (.inl zLtA))), (zLo, .inl (cAzLo, 40, .inl zLoA))] sz) [(h0, .inr (3, [.int v0_0, .int v0_1, .ref fTape, .ref fZone, .ref fCounts, .int v0_5, .int fText])), (fTape, .inr (0, [.ref q2, .int tpS])), (q2, .inl (nA2, tpN, .inl tpA)), (fZone, .inr (8, [.int zVer, .int zTic, .int zTyc, .int zLec, .int zStc, .int zUtc, .ref zTi, .ref zTt, .ref zOf, .ref zDs, .ref zIx, .ref zSd, .ref zUt, .ref zCh, .ref zLt, .ref zLo, .ref zRu])), (zLt, .inl (cAzLt, 40, .inr (.inl v4_a))), (zLo, .inl (cAzLo, 40, .inl v5_a))]) (va_A [(h0, .inr (3, [.int fFault, .int fPlace, .ref fTape, .ref fZone, .ref fCounts, .int fPos, .int fText])), (fTape, .inr (0, [.ref tpR, .int tpS])), (tpR, .inl (cAtpR, tpN, .inl tpA)), (fZone, .inr (8, [.int zVer, .int zTic, .int zTyc, .int zLec, .int zStc, .int zUtc, .ref zTi, .ref zTt, .ref zOf, .ref zDs, .ref zIx, .ref zSd, .ref zUt, .ref zCh, .ref zLt, .ref zLo, .ref zRu])), (zLt, .inl (cAzLt, 40, .inr (.inl zLtA))), (zLo, .inl (cAzLo, 40, .inl zLoA))] sz)) 0 0 (va_A [(h0, .inr (3, [.int fFault, .int fPlace, .ref fTape, .ref fZone, .ref fCounts, .int fPos, .int fText])), (fTape, .inr (0, [.ref tpR, .int tpS])), (tpR, .inl (cAtpR, tpN, .inl tpA)), (fZone, .inr (8, [.int zVer, .int zTic, .int zTyc, .int zLec, .int zStc, .int zUtc, .ref zTi, .ref zTt, .ref zOf, .ref zDs, .ref zIx, .ref zSd, .ref zUt, .ref zCh, .ref zLt, .ref zLo, .ref zRu])), (zLt, .inl (cAzLt, 40, .inr (.inl zLtA))), (zLo, .inl (cAzLo, 40, .inl zLoA))] sz) :=
  met_M (plainFor_of_name (by decide)) (Nat.le_of_ble_eq_true rfl) (fun p e R s m args below meth c ls hRc hRs hsz hin C0 hST hK hP hD hl => by
    obtain ⟨hx, hb, hr, hml, hown, hts, hlocks, hRf, hRl⟩ := id C0
    subst hsz
    have hA : ∀ q : Nat, s.heap.size ≤ q → va_A [(h0, .inr (3, [.int fFault, .int fPlace, .ref fTape, .ref fZone, .ref fCounts, .int fPos, .int fText])), (fTape, .inr (0, [.ref tpR, .int tpS])), (tpR, .inl (cAtpR, tpN, .inl tpA)), (fZone, .inr (8, [.int zVer, .int zTic, .int zTyc, .int zLec, .int zStc, .int zUtc, .ref zTi, .ref zTt, .ref zOf, .ref zDs, .ref zIx, .ref zSd, .ref zUt, .ref zCh, .ref zLt, .ref zLo, .ref zRu])), (zLt, .inl (cAzLt, 40, .inr (.inl zLtA))), (zLo, .inl (cAzLo, 40, .inl zLoA))] s.heap.size q := fun q h => Or.inr h
    have hS : va_S (va_A [(h0, .inr (3, [.int fFault, .int fPlace, .ref fTape, .ref fZone, .ref fCounts, .int fPos, .int fText])), (fTape, .inr (0, [.ref tpR, .int tpS])), (tpR, .inl (cAtpR, tpN, .inl tpA)), (fZone, .inr (8, [.int zVer, .int zTic, .int zTyc, .int zLec, .int zStc, .int zUtc, .ref zTi, .ref zTt, .ref zOf, .ref zDs, .ref zIx, .ref zSd, .ref zUt, .ref zCh, .ref zLt, .ref zLo, .ref zRu])), (zLt, .inl (cAzLt, 40, .inr (.inl zLtA))), (zLo, .inl (cAzLo, 40, .inl zLoA))] s.heap.size) s.heap s.heap [] := va_S.rf
    unfold f_FP_readLeaps at hf
    exact k_FP_readLeaps_0 C0 hST hA (fun pc ls {q2} {nA2} H locs hd hn hP hD hS hK => W.zret hx hb hr hn (fun t ht hW => ⟨⟨rfl, ⟨q2, nA2, by rw [ht]; exact hP, va_K.moved hW.alike hK, hD⟩⟩, hS.F ht⟩) hS.2.2 hd) hf hK hP hD hS (lv_sub hl [0, 1] rfl))
-- ZoneFiles$FileParser.readStds()Z
def f_FP_readStds_18 (nf : Nat) (tpS : Int32) (tpN : Nat) (tpA : Nat → Int32) (zStc : Int32) : Nat → Int32 → Int32 → Int32 → Int32 → (Nat → Int32) → Option (Int32 × Int32 × Int32 × Int32 × (Nat → Int32))
  | 0, _, _, _, _, _ => none
  | n + 1, x1, w0_0, w0_1, w0_5, w4_a =>
    if zStc ≤ x1 then
    some (1, w0_0, w0_1, w0_5, w4_a)
    else
    (f_By_get nf w0_5 tpS tpN tpA).bind fun r_6 =>
      if r_6 ≤ (1 : Int32) then
      if x1 < 0 ∨ 40 ≤ x1.toNatClampNeg then none else
        f_FP_readStds_18 nf tpS tpN tpA zStc n (x1 + 1) w0_0 w0_1 (w0_5 + 1) (upd w4_a x1.toNatClampNeg r_6)
      else
      (f_FP_fail nf 13 w0_5 w0_0 w0_1).bind fun (z_9, z_10, z_11) =>
        if z_9 = 0 ∨ z_9 = 1 then some (z_9, z_10, z_11, w0_5, w4_a) else none
def f_FP_readStds_0 (nf : Nat) (tpS : Int32) (tpN : Nat) (tpA : Nat → Int32) (zStc : Int32) (w0_0 : Int32) (w0_1 : Int32) (w0_5 : Int32) (w4_a : Nat → Int32) : Option (Int32 × Int32 × Int32 × Int32 × (Nat → Int32)) :=
  (f_FP_hasMore nf zStc w0_0 w0_1 w0_5 tpS).bind fun (z_1, z_2, z_3) =>
  if z_1 = 0 then
  some (0, z_2, z_3, w0_5, w4_a)
  else
  f_FP_readStds_18 nf tpS tpN tpA zStc nf 0 z_2 z_3 w0_5 w4_a
def f_FP_readStds (nf : Nat) (fFault : Int32) (fPlace : Int32) (fPos : Int32) (tpS : Int32) (tpN : Nat) (tpA : Nat → Int32) (zStc : Int32) (zSdA : Nat → Int32) : Option (Int32 × Int32 × Int32 × Int32 × (Nat → Int32)) :=
  f_FP_readStds_0 nf tpS tpN tpA zStc fFault fPlace fPos zSdA
section
variable {p : Program} {l : Launch} {e : Env} {R : Room} {s : State} {m : MethodId} {args : Array Value} {below : List Frame} {meth : Method} {c : Code} {Q : State → Prop} {dC : Nat → ClassId} {dI : Nat → Nat → Nat} {nf : Nat} {A : Nat → Prop}
variable {h0 : Nat} {fTape : Nat} {fZone : Nat} {fCounts : Nat} {tpR : Nat} {zTi : Nat} {zTt : Nat} {zOf : Nat} {zDs : Nat} {zIx : Nat} {zSd : Nat} {zUt : Nat} {zCh : Nat} {zLt : Nat} {zLo : Nat} {zRu : Nat} {cAtpR : ClassId} {cAzSd : ClassId} {fFault : Int32} {fPlace : Int32} {fPos : Int32} {fText : Int32} {tpS : Int32} {tpN : Nat} {tpA : Nat → Int32} {zVer : Int32} {zTic : Int32} {zTyc : Int32} {zLec : Int32} {zStc : Int32} {zUtc : Int32} {zSdA : Nat → Int32} {r0 : Int32} {v0_0 : Int32} {v0_1 : Int32} {v0_5 : Int32} {v4_a : Nat → Int32}
set_option maxHeartbeats 400000 in
set_option maxRecDepth 100000 in
theorem k_FP_readStds_18 (C0 : Cx p s m meth c args R b_FP_readStds "ZoneFiles$FileParser" 3 (some .boolean) 2 43) (hST : ST A s s.heap) (hA : ∀ q, s.heap.size ≤ q → A q) (hE : ∀ (pc : Nat) (ls : Array Slot) {q2 : Nat} {nA2 : ClassId} (H : Heap) (locs : List Loc), decode b_FP_readStds pc = .ok (.ireturn, 1) → narrow .boolean (.int r0) = .int r0 → va_P (dC, dI) classes [(h0, .inr (3, [.int v0_0, .int v0_1, .ref fTape, .ref fZone, .ref fCounts, .int v0_5, .int fText])), (fTape, .inr (0, [.ref q2, .int tpS])), (q2, .inl (nA2, tpN, .inl tpA)), (fZone, .inr (8, [.int zVer, .int zTic, .int zTyc, .int zLec, .int zStc, .int zUtc, .ref zTi, .ref zTt, .ref zOf, .ref zDs, .ref zIx, .ref zSd, .ref zUt, .ref zCh, .ref zLt, .ref zLo, .ref zRu])), (zSd, .inl (cAzSd, 40, .inl v4_a))] H → va_D A [(h0, .inr (3, [.int v0_0, .int v0_1, .ref fTape, .ref fZone, .ref fCounts, .int v0_5, .int fText])), (fTape, .inr (0, [.ref q2, .int tpS])), (q2, .inl (nA2, tpN, .inl tpA)), (fZone, .inr (8, [.int zVer, .int zTic, .int zTyc, .int zLec, .int zStc, .int zUtc, .ref zTi, .ref zTt, .ref zOf, .ref zDs, .ref zIx, .ref zSd, .ref zUt, .ref zCh, .ref zLt, .ref zLo, .ref zRu])), (zSd, .inl (cAzSd, 40, .inl v4_a))] → va_S A s.heap H locs → va_K (dC, dI) classes [(nA2, .byte), (cAzSd, .int)] s → W p l e R s m args below meth c H locs 0 0 Q (F0 m pc ls [.int r0])) : ∀ (n : Nat) {x1 : Int32} {w0_0 : Int32} {w0_1 : Int32} {w0_5 : Int32} {w4_a : Nat → Int32}, f_FP_readStds_18 nf tpS tpN tpA zStc n x1 w0_0 w0_1 w0_5 w4_a = some (r0, v0_0, v0_1, v0_5, v4_a) → ∀ {q2 : Nat} {nA2 : ClassId} {H : Heap} {locs : List Loc} {ls : Array Slot}, va_K (dC, dI) classes [(nA2, .byte), (cAzSd, .int)] s → va_P (dC, dI) classes [(h0, .inr (3, [.int w0_0, .int w0_1, .ref fTape, .ref fZone, .ref fCounts, .int w0_5, .int fText])), (fTape, .inr (0, [.ref q2, .int tpS])), (q2, .inl (nA2, tpN, .inl tpA)), (fZone, .inr (8, [.int zVer, .int zTic, .int zTyc, .int zLec, .int zStc, .int zUtc, .ref zTi, .ref zTt, .ref zOf, .ref zDs, .ref zIx, .ref zSd, .ref zUt, .ref zCh, .ref zLt, .ref zLo, .ref zRu])), (zSd, .inl (cAzSd, 40, .inl w4_a))] H → va_D A [(h0, .inr (3, [.int w0_0, .int w0_1, .ref fTape, .ref fZone, .ref fCounts, .int w0_5, .int fText])), (fTape, .inr (0, [.ref q2, .int tpS])), (q2, .inl (nA2, tpN, .inl tpA)), (fZone, .inr (8, [.int zVer, .int zTic, .int zTyc, .int zLec, .int zStc, .int zUtc, .ref zTi, .ref zTt, .ref zOf, .ref zDs, .ref zIx, .ref zSd, .ref zUt, .ref zCh, .ref zLt, .ref zLo, .ref zRu])), (zSd, .inl (cAzSd, 40, .inl w4_a))] → va_S A s.heap H locs → lv_has ls 3 [(1, .int x1), (0, .ref h0)] → W p l e R s m args below meth c H locs 0 0 Q (F0 m 18 ls []) := by
  obtain ⟨hx, hb, hr, hml, hown, hts, hlocks, hRf, hRl⟩ := id C0
  obtain ⟨tms, hZms, hTms, tmg, hZmg, hTmg, hNW⟩ := id hST
  intro n
  induction n with
  | zero =>
    intro x1 w0_0 w0_1 w0_5 w4_a hf
    exact absurd hf (by simp [f_FP_readStds_18])
  | succ n ih =>
    intro x1 w0_0 w0_1 w0_5 w4_a hf q2 nA2 H locs ls hK hP hD hS hl
    unfold f_FP_readStds_18 at hf
    refine lv_iload_n hx hb d_FP_readStds_18 rfl (lv_at hl 0 rfl) ?_
    refine lv_aload_n hx hb d_FP_readStds_19 rfl (lv_at hl 1 rfl) ?_
    refine va_get (D := (dC, dI)) (ci := 3) (v := .ref fZone) (C := RFileParser) (T := TFileParser) (N := 7) hx hb hts in_FileParser hown hK hP 0 rfl rfl 3 (by decide) (hts (.fieldLink "ZoneFiles$FileParser" 15 "ZoneFiles$FileParser" "zone" "LZoneFiles$Zone;") m_3_161) (fun _ h9 => h9) rfl d_FP_readStds_20 ?_
    refine va_get (D := (dC, dI)) (ci := 8) (v := .int zStc) (C := RZone) (T := TZone) (N := 17) hx hb hts in_Zone hown hK hP 3 rfl rfl 4 (by decide) (hts (.fieldLink "ZoneFiles$FileParser" 132 "ZoneFiles$Zone" "stdCount" "I") m_1_181) (fun _ h9 => h9) rfl d_FP_readStds_23 ?_
    refine lv_icmp_ge (tgt := 83) hx hb d_FP_readStds_26 (by decide) (fun c_5 => ?_) (fun c_5 => ?_)
    · have hf := it_t c_5 hf
      refine lv_iconst (v := 1) hx hb d_FP_readStds_83 (by decide) ?_
      cases rs hf
      exact hE _ _ _ _ d_FP_readStds_84 rfl hP hD hS hK
    · have hf := it_f c_5 hf
      refine lv_aload_n hx hb d_FP_readStds_29 rfl (lv_at hl 1 rfl) ?_
      refine va_get (D := (dC, dI)) (ci := 3) (v := .ref fTape) (C := RFileParser) (T := TFileParser) (N := 7) hx hb hts in_FileParser hown hK hP 0 rfl rfl 2 (by decide) (hts (.fieldLink "ZoneFiles$FileParser" 9 "ZoneFiles$FileParser" "tape" "LZoneFiles$Bytes;") m_3_160) (fun _ h9 => h9) rfl d_FP_readStds_30 ?_
      refine lv_aload_n hx hb d_FP_readStds_33 rfl (lv_at hl 1 rfl) ?_
      refine va_get (D := (dC, dI)) (ci := 3) (v := .int w0_5) (C := RFileParser) (T := TFileParser) (N := 7) hx hb hts in_FileParser hown hK hP 0 rfl rfl 5 (by decide) (hts (.fieldLink "ZoneFiles$FileParser" 44 "ZoneFiles$FileParser" "pos" "I") m_3_163) (fun _ h9 => h9) rfl d_FP_readStds_34 ?_
      obtain ⟨r_6, hc, hf⟩ := ob hf
      refine cl_S (v := (some (.int r_6))) (st1 := [.int r_6]) (va_runV (As := [.int w0_5]) (rest := []) ⟨hx, hb, hml, hown, hts⟩ (c_By_get l dC dI fTape q2 nA2 nf w0_5 tpS tpN tpA hc) (cwV 1 hts (gdV m_3_190 m_2_71 m_2_72 m_1_2 m_2_73) rfl rfl rfl (by decide +kernel) ⟨Nat.le_trans (Nat.le_of_ble_eq_true rfl) hRf, Nat.le_trans (Nat.le_of_ble_eq_true rfl) hRl⟩) ((RO.pre (hP.sub (ws' := [(fTape, .inr (0, [.ref q2, .int tpS])), (q2, .inl (nA2, tpN, .inl tpA))]) [1, 2] rfl) (hK.sub (tys' := [(nA2, .byte)]) [0] rfl) (hST.ro hS)).vir (va_recv (hK.sub (tys' := [(nA2, .byte)]) [0] rfl) (hP.sub (ws' := [(fTape, .inr (0, [.ref q2, .int tpS])), (q2, .inl (nA2, tpN, .inl tpA))]) [1, 2] rfl) (ci := 0) (q0 := 0) rfl rfl)) rfl rfl hl.1 rfl (lv_room (Nat.le_of_ble_eq_true rfl)) d_FP_readStds_37 ⟨Nat.zero_le _, Nat.zero_le _⟩) rfl ?_
      refine lv_istore_n (lv' := [(2, .int r_6), (1, .int x1), (0, .ref h0)]) hx hb d_FP_readStds_40 rfl hl (by decide) rfl (fun ls hl => ?_)
      refine lv_iload_n hx hb d_FP_readStds_41 rfl (lv_at hl 0 rfl) ?_
      refine lv_iconst (v := 1) hx hb d_FP_readStds_42 (by decide) ?_
      refine lv_icmp_le (tgt := 57) hx hb d_FP_readStds_43 (by decide) (fun c_7 => ?_) (fun c_7 => ?_)
      · have hf := it_t c_7 hf
        refine lv_aload_n hx hb d_FP_readStds_57 rfl (lv_at hl 2 rfl) ?_
        refine va_get (D := (dC, dI)) (ci := 3) (v := .ref fZone) (C := RFileParser) (T := TFileParser) (N := 7) hx hb hts in_FileParser hown hK hP 0 rfl rfl 3 (by decide) (hts (.fieldLink "ZoneFiles$FileParser" 15 "ZoneFiles$FileParser" "zone" "LZoneFiles$Zone;") m_3_161) (fun _ h9 => h9) rfl d_FP_readStds_58 ?_
        refine va_get (D := (dC, dI)) (ci := 8) (v := .ref zSd) (C := RZone) (T := TZone) (N := 17) hx hb hts in_Zone hown hK hP 3 rfl rfl 11 (by decide) (hts (.fieldLink "ZoneFiles$FileParser" 213 "ZoneFiles$Zone" "stds" "[I") m_1_209) (fun _ h9 => h9) rfl d_FP_readStds_61 ?_
        refine lv_iload_n hx hb d_FP_readStds_64 rfl (lv_at hl 1 rfl) ?_
        refine lv_iload_n hx hb d_FP_readStds_65 rfl (lv_at hl 0 rfl) ?_
        obtain ⟨c_8, hf⟩ := it_n hf
        refine va_iast hx hb hK hP hD hS 4 1 rfl rfl c_8 d_FP_readStds_66 (fun H locs hP hD hS => ?_)
        have hP : va_P (dC, dI) classes [(h0, .inr (3, [.int w0_0, .int w0_1, .ref fTape, .ref fZone, .ref fCounts, .int w0_5, .int fText])), (fTape, .inr (0, [.ref q2, .int tpS])), (q2, .inl (nA2, tpN, .inl tpA)), (fZone, .inr (8, [.int zVer, .int zTic, .int zTyc, .int zLec, .int zStc, .int zUtc, .ref zTi, .ref zTt, .ref zOf, .ref zDs, .ref zIx, .ref zSd, .ref zUt, .ref zCh, .ref zLt, .ref zLo, .ref zRu])), (zSd, .inl (cAzSd, 40, .inl (upd w4_a x1.toNatClampNeg r_6)))] H := hP
        have hD : va_D A [(h0, .inr (3, [.int w0_0, .int w0_1, .ref fTape, .ref fZone, .ref fCounts, .int w0_5, .int fText])), (fTape, .inr (0, [.ref q2, .int tpS])), (q2, .inl (nA2, tpN, .inl tpA)), (fZone, .inr (8, [.int zVer, .int zTic, .int zTyc, .int zLec, .int zStc, .int zUtc, .ref zTi, .ref zTt, .ref zOf, .ref zDs, .ref zIx, .ref zSd, .ref zUt, .ref zCh, .ref zLt, .ref zLo, .ref zRu])), (zSd, .inl (cAzSd, 40, .inl (upd w4_a x1.toNatClampNeg r_6)))] := hD
        refine lv_aload_n hx hb d_FP_readStds_67 rfl (lv_at hl 2 rfl) ?_
        refine lv_dup hx hb d_FP_readStds_68 rfl ?_
        refine va_get (D := (dC, dI)) (ci := 3) (v := .int w0_5) (C := RFileParser) (T := TFileParser) (N := 7) hx hb hts in_FileParser hown hK hP 0 rfl rfl 5 (by decide) (hts (.fieldLink "ZoneFiles$FileParser" 44 "ZoneFiles$FileParser" "pos" "I") m_3_163) (fun _ h9 => h9) rfl d_FP_readStds_69 ?_
        refine lv_iconst (v := 1) hx hb d_FP_readStds_72 (by decide) ?_
        refine lv_iadd hx hb d_FP_readStds_73 ?_
        refine va_put (D := (dC, dI)) (ci := 3) (v := .int (w0_5 + 1)) (ty := .int) (C := RFileParser) (T := TFileParser) (N := 7) hx hb hts in_FileParser tyFileParser ty_FileParser nm_FileParser hown hK hP hD hS 0 rfl rfl 5 (by decide) (hts (.fieldLink "ZoneFiles$FileParser" 44 "ZoneFiles$FileParser" "pos" "I") m_3_163) (fun _ h9 => h9) rfl (by decide +kernel) rfl rfl (Nat.le_of_ble_eq_true rfl) d_FP_readStds_74 (fun H locs hP hD hS => ?_)
        have hP : va_P (dC, dI) classes [(h0, .inr (3, [.int w0_0, .int w0_1, .ref fTape, .ref fZone, .ref fCounts, .int (w0_5 + 1), .int fText])), (fTape, .inr (0, [.ref q2, .int tpS])), (q2, .inl (nA2, tpN, .inl tpA)), (fZone, .inr (8, [.int zVer, .int zTic, .int zTyc, .int zLec, .int zStc, .int zUtc, .ref zTi, .ref zTt, .ref zOf, .ref zDs, .ref zIx, .ref zSd, .ref zUt, .ref zCh, .ref zLt, .ref zLo, .ref zRu])), (zSd, .inl (cAzSd, 40, .inl (upd w4_a x1.toNatClampNeg r_6)))] H := hP
        have hD : va_D A [(h0, .inr (3, [.int w0_0, .int w0_1, .ref fTape, .ref fZone, .ref fCounts, .int (w0_5 + 1), .int fText])), (fTape, .inr (0, [.ref q2, .int tpS])), (q2, .inl (nA2, tpN, .inl tpA)), (fZone, .inr (8, [.int zVer, .int zTic, .int zTyc, .int zLec, .int zStc, .int zUtc, .ref zTi, .ref zTt, .ref zOf, .ref zDs, .ref zIx, .ref zSd, .ref zUt, .ref zCh, .ref zLt, .ref zLo, .ref zRu])), (zSd, .inl (cAzSd, 40, .inl (upd w4_a x1.toNatClampNeg r_6)))] := hD
        refine lv_iinc (v := x1 + 1) (lv' := [(1, .int (x1 + 1)), (2, .int r_6), (0, .ref h0)]) hx hb d_FP_readStds_77 hl (k := 1) rfl rfl (by decide) rfl (fun ls hl => ?_)
        refine lv_goto (tgt := 18) hx hb d_FP_readStds_80 (by decide) ?_
        exact ih hf hK hP hD hS (lv_sub hl [0, 2] rfl)
      · have hf := it_f c_7 hf
        refine lv_aload_n hx hb d_FP_readStds_46 rfl (lv_at hl 2 rfl) ?_
        refine lv_bipush (v := 13) hx hb d_FP_readStds_47 (by decide) ?_
        refine lv_aload_n hx hb d_FP_readStds_49 rfl (lv_at hl 2 rfl) ?_
        refine va_get (D := (dC, dI)) (ci := 3) (v := .int w0_5) (C := RFileParser) (T := TFileParser) (N := 7) hx hb hts in_FileParser hown hK hP 0 rfl rfl 5 (by decide) (hts (.fieldLink "ZoneFiles$FileParser" 44 "ZoneFiles$FileParser" "pos" "I") m_3_163) (fun _ h9 => h9) rfl d_FP_readStds_50 ?_
        obtain ⟨⟨z_9, z_10, z_11⟩, hc, hf⟩ := ob hf
        have hPc := hP.sub (ws' := [(h0, .inr (3, [.int w0_0, .int w0_1, .ref fTape, .ref fZone, .ref fCounts, .int w0_5, .int fText]))]) [0] rfl
        have hDc := hD.sub (ws' := [(h0, .inr (3, [.int w0_0, .int w0_1, .ref fTape, .ref fZone, .ref fCounts, .int w0_5, .int fText]))]) [0] (by decide) rfl
        have hKc := hK.sub (tys' := []) [] rfl
        have hFc := va_free (wc := [(h0, .inr (3, [.int w0_0, .int w0_1, .ref fTape, .ref fZone, .ref fCounts, .int w0_5, .int fText]))]) hD hS hA [0] rfl
        refine cl_M (v := (some (.int z_9))) (st1 := [.int z_9]) (va_runV (As := [.int 13, .int w0_5]) (rest := []) ⟨hx, hb, hml, hown, hts⟩ (c_FP_fail l dC dI h0 fTape fZone fCounts H.size nf 13 w0_5 w0_0 w0_1 w0_5 fText hc) (cwV 2 hts (gdV m_3_191 m_3_193 msel_16 m_1_16 m_3_194) rfl rfl rfl (by decide +kernel) ⟨Nat.le_trans (Nat.le_of_ble_eq_true rfl) hRf, Nat.le_trans (Nat.le_of_ble_eq_true rfl) hRl⟩) ((MU.pre hPc hKc hDc (hST.mu hS hFc)).vir (va_recv hKc hPc (ci := 3) (q0 := 0) rfl rfl)) rfl rfl hl.1 rfl (lv_room (Nat.le_of_ble_eq_true rfl)) d_FP_readStds_53 ⟨Nat.zero_le _, Nat.zero_le _⟩) rfl hS (fun q _ h => hFc q h) hFc (fun t H1 locs ht hvm hB hz1 hk1 hS => ?_)
        obtain ⟨hP1, hK1, hD1⟩ := hB
        rw [ht] at hP1
        have hK1 := va_K.moved hvm.symm hK1
        obtain ⟨hP, hD⟩ := va_join (wr := [(fTape, .inr (0, [.ref q2, .int tpS])), (q2, .inl (nA2, tpN, .inl tpA)), (fZone, .inr (8, [.int zVer, .int zTic, .int zTyc, .int zLec, .int zStc, .int zUtc, .ref zTi, .ref zTt, .ref zOf, .ref zDs, .ref zIx, .ref zSd, .ref zUt, .ref zCh, .ref zLt, .ref zLo, .ref zRu])), (zSd, .inl (cAzSd, 40, .inl w4_a))]) (w1 := [(h0, .inr (3, [.int z_10, .int z_11, .ref fTape, .ref fZone, .ref fCounts, .int w0_5, .int fText]))]) hP hD [0] [1, 2, 3, 4] rfl rfl (by decide) (by decide) hk1 hFc hP1 hD1
        have hK := (hK.sub (tys' := [(nA2, .byte), (cAzSd, .int)]) [0, 1] rfl).app hK1
        generalize H1 = H at hP hS ⊢
        have hP := hP.sub (ws' := [(h0, .inr (3, [.int z_10, .int z_11, .ref fTape, .ref fZone, .ref fCounts, .int w0_5, .int fText])), (fTape, .inr (0, [.ref q2, .int tpS])), (q2, .inl (nA2, tpN, .inl tpA)), (fZone, .inr (8, [.int zVer, .int zTic, .int zTyc, .int zLec, .int zStc, .int zUtc, .ref zTi, .ref zTt, .ref zOf, .ref zDs, .ref zIx, .ref zSd, .ref zUt, .ref zCh, .ref zLt, .ref zLo, .ref zRu])), (zSd, .inl (cAzSd, 40, .inl w4_a))]) [4, 0, 1, 2, 3] rfl
        have hD := hD.sub (ws' := [(h0, .inr (3, [.int z_10, .int z_11, .ref fTape, .ref fZone, .ref fCounts, .int w0_5, .int fText])), (fTape, .inr (0, [.ref q2, .int tpS])), (q2, .inl (nA2, tpN, .inl tpA)), (fZone, .inr (8, [.int zVer, .int zTic, .int zTyc, .int zLec, .int zStc, .int zUtc, .ref zTi, .ref zTt, .ref zOf, .ref zDs, .ref zIx, .ref zSd, .ref zUt, .ref zCh, .ref zLt, .ref zLo, .ref zRu])), (zSd, .inl (cAzSd, 40, .inl w4_a))]) [4, 0, 1, 2, 3] (by decide) rfl
        have hK := hK.sub (tys' := [(nA2, .byte), (cAzSd, .int)]) [0, 1] rfl
        obtain ⟨c_12, hf⟩ := it_g hf
        cases rs hf
        exact hE _ _ _ _ d_FP_readStds_56 (nb_of c_12) hP hD hS hK
set_option maxHeartbeats 400000 in
set_option maxRecDepth 100000 in
theorem k_FP_readStds_0 (C0 : Cx p s m meth c args R b_FP_readStds "ZoneFiles$FileParser" 3 (some .boolean) 2 43) (hST : ST A s s.heap) (hA : ∀ q, s.heap.size ≤ q → A q) (hE : ∀ (pc : Nat) (ls : Array Slot) {q2 : Nat} {nA2 : ClassId} (H : Heap) (locs : List Loc), decode b_FP_readStds pc = .ok (.ireturn, 1) → narrow .boolean (.int r0) = .int r0 → va_P (dC, dI) classes [(h0, .inr (3, [.int v0_0, .int v0_1, .ref fTape, .ref fZone, .ref fCounts, .int v0_5, .int fText])), (fTape, .inr (0, [.ref q2, .int tpS])), (q2, .inl (nA2, tpN, .inl tpA)), (fZone, .inr (8, [.int zVer, .int zTic, .int zTyc, .int zLec, .int zStc, .int zUtc, .ref zTi, .ref zTt, .ref zOf, .ref zDs, .ref zIx, .ref zSd, .ref zUt, .ref zCh, .ref zLt, .ref zLo, .ref zRu])), (zSd, .inl (cAzSd, 40, .inl v4_a))] H → va_D A [(h0, .inr (3, [.int v0_0, .int v0_1, .ref fTape, .ref fZone, .ref fCounts, .int v0_5, .int fText])), (fTape, .inr (0, [.ref q2, .int tpS])), (q2, .inl (nA2, tpN, .inl tpA)), (fZone, .inr (8, [.int zVer, .int zTic, .int zTyc, .int zLec, .int zStc, .int zUtc, .ref zTi, .ref zTt, .ref zOf, .ref zDs, .ref zIx, .ref zSd, .ref zUt, .ref zCh, .ref zLt, .ref zLo, .ref zRu])), (zSd, .inl (cAzSd, 40, .inl v4_a))] → va_S A s.heap H locs → va_K (dC, dI) classes [(nA2, .byte), (cAzSd, .int)] s → W p l e R s m args below meth c H locs 0 0 Q (F0 m pc ls [.int r0])) {w0_0 : Int32} {w0_1 : Int32} {w0_5 : Int32} {w4_a : Nat → Int32} (hf : f_FP_readStds_0 nf tpS tpN tpA zStc w0_0 w0_1 w0_5 w4_a = some (r0, v0_0, v0_1, v0_5, v4_a)) {q2 : Nat} {nA2 : ClassId} {H : Heap} {locs : List Loc} {ls : Array Slot} (hK : va_K (dC, dI) classes [(nA2, .byte), (cAzSd, .int)] s) (hP : va_P (dC, dI) classes [(h0, .inr (3, [.int w0_0, .int w0_1, .ref fTape, .ref fZone, .ref fCounts, .int w0_5, .int fText])), (fTape, .inr (0, [.ref q2, .int tpS])), (q2, .inl (nA2, tpN, .inl tpA)), (fZone, .inr (8, [.int zVer, .int zTic, .int zTyc, .int zLec, .int zStc, .int zUtc, .ref zTi, .ref zTt, .ref zOf, .ref zDs, .ref zIx, .ref zSd, .ref zUt, .ref zCh, .ref zLt, .ref zLo, .ref zRu])), (zSd, .inl (cAzSd, 40, .inl w4_a))] H) (hD : va_D A [(h0, .inr (3, [.int w0_0, .int w0_1, .ref fTape, .ref fZone, .ref fCounts, .int w0_5, .int fText])), (fTape, .inr (0, [.ref q2, .int tpS])), (q2, .inl (nA2, tpN, .inl tpA)), (fZone, .inr (8, [.int zVer, .int zTic, .int zTyc, .int zLec, .int zStc, .int zUtc, .ref zTi, .ref zTt, .ref zOf, .ref zDs, .ref zIx, .ref zSd, .ref zUt, .ref zCh, .ref zLt, .ref zLo, .ref zRu])), (zSd, .inl (cAzSd, 40, .inl w4_a))]) (hS : va_S A s.heap H locs) (hl : lv_has ls 3 [(0, .ref h0)]) : W p l e R s m args below meth c H locs 0 0 Q (F0 m 0 ls []) := by
  obtain ⟨hx, hb, hr, hml, hown, hts, hlocks, hRf, hRl⟩ := id C0
  obtain ⟨tms, hZms, hTms, tmg, hZmg, hTmg, hNW⟩ := id hST
  unfold f_FP_readStds_0 at hf
  refine lv_aload_n hx hb d_FP_readStds_0 rfl (lv_at hl 0 rfl) ?_
  refine lv_aload_n hx hb d_FP_readStds_1 rfl (lv_at hl 0 rfl) ?_
  refine va_get (D := (dC, dI)) (ci := 3) (v := .ref fZone) (C := RFileParser) (T := TFileParser) (N := 7) hx hb hts in_FileParser hown hK hP 0 rfl rfl 3 (by decide) (hts (.fieldLink "ZoneFiles$FileParser" 15 "ZoneFiles$FileParser" "zone" "LZoneFiles$Zone;") m_3_161) (fun _ h9 => h9) rfl d_FP_readStds_2 ?_
  refine va_get (D := (dC, dI)) (ci := 8) (v := .int zStc) (C := RZone) (T := TZone) (N := 17) hx hb hts in_Zone hown hK hP 3 rfl rfl 4 (by decide) (hts (.fieldLink "ZoneFiles$FileParser" 132 "ZoneFiles$Zone" "stdCount" "I") m_1_181) (fun _ h9 => h9) rfl d_FP_readStds_5 ?_
  obtain ⟨⟨z_1, z_2, z_3⟩, hc, hf⟩ := ob hf
  have hPc := hP.sub (ws' := [(h0, .inr (3, [.int w0_0, .int w0_1, .ref fTape, .ref fZone, .ref fCounts, .int w0_5, .int fText])), (fTape, .inr (0, [.ref q2, .int tpS]))]) [0, 1] rfl
  have hDc := hD.sub (ws' := [(h0, .inr (3, [.int w0_0, .int w0_1, .ref fTape, .ref fZone, .ref fCounts, .int w0_5, .int fText])), (fTape, .inr (0, [.ref q2, .int tpS]))]) [0, 1] (by decide) rfl
  have hKc := hK.sub (tys' := []) [] rfl
  have hFc := va_free (wc := [(h0, .inr (3, [.int w0_0, .int w0_1, .ref fTape, .ref fZone, .ref fCounts, .int w0_5, .int fText])), (fTape, .inr (0, [.ref q2, .int tpS]))]) hD hS hA [0, 1] rfl
  refine cl_M (v := (some (.int z_1))) (st1 := [.int z_1]) (va_runV (As := [.int zStc]) (rest := []) ⟨hx, hb, hml, hown, hts⟩ (c_FP_hasMore l dC dI h0 fTape fZone fCounts q2 H.size nf zStc w0_0 w0_1 w0_5 fText tpS hc) (cwV 1 hts (gdV m_3_199 m_3_201 msel_18 m_1_16 m_3_202) rfl rfl rfl (by decide +kernel) ⟨Nat.le_trans (Nat.le_of_ble_eq_true rfl) hRf, Nat.le_trans (Nat.le_of_ble_eq_true rfl) hRl⟩) ((MU.pre hPc hKc hDc (hST.mu hS hFc)).vir (va_recv hKc hPc (ci := 3) (q0 := 0) rfl rfl)) rfl rfl hl.1 rfl (lv_room (Nat.le_of_ble_eq_true rfl)) d_FP_readStds_8 ⟨Nat.zero_le _, Nat.zero_le _⟩) rfl hS (fun q _ h => hFc q h) hFc (fun t H1 locs ht hvm hB hz1 hk1 hS => ?_)
  obtain ⟨hP1, hK1, hD1⟩ := hB
  rw [ht] at hP1
  have hK1 := va_K.moved hvm.symm hK1
  obtain ⟨hP, hD⟩ := va_join (wr := [(q2, .inl (nA2, tpN, .inl tpA)), (fZone, .inr (8, [.int zVer, .int zTic, .int zTyc, .int zLec, .int zStc, .int zUtc, .ref zTi, .ref zTt, .ref zOf, .ref zDs, .ref zIx, .ref zSd, .ref zUt, .ref zCh, .ref zLt, .ref zLo, .ref zRu])), (zSd, .inl (cAzSd, 40, .inl w4_a))]) (w1 := [(h0, .inr (3, [.int z_2, .int z_3, .ref fTape, .ref fZone, .ref fCounts, .int w0_5, .int fText])), (fTape, .inr (0, [.ref q2, .int tpS]))]) hP hD [0, 1] [2, 3, 4] rfl rfl (by decide) (by decide) hk1 hFc hP1 hD1
  have hK := (hK.sub (tys' := [(nA2, .byte), (cAzSd, .int)]) [0, 1] rfl).app hK1
  generalize H1 = H at hP hS ⊢
  have hP := hP.sub (ws' := [(h0, .inr (3, [.int z_2, .int z_3, .ref fTape, .ref fZone, .ref fCounts, .int w0_5, .int fText])), (fTape, .inr (0, [.ref q2, .int tpS])), (q2, .inl (nA2, tpN, .inl tpA)), (fZone, .inr (8, [.int zVer, .int zTic, .int zTyc, .int zLec, .int zStc, .int zUtc, .ref zTi, .ref zTt, .ref zOf, .ref zDs, .ref zIx, .ref zSd, .ref zUt, .ref zCh, .ref zLt, .ref zLo, .ref zRu])), (zSd, .inl (cAzSd, 40, .inl w4_a))]) [3, 4, 0, 1, 2] rfl
  have hD := hD.sub (ws' := [(h0, .inr (3, [.int z_2, .int z_3, .ref fTape, .ref fZone, .ref fCounts, .int w0_5, .int fText])), (fTape, .inr (0, [.ref q2, .int tpS])), (q2, .inl (nA2, tpN, .inl tpA)), (fZone, .inr (8, [.int zVer, .int zTic, .int zTyc, .int zLec, .int zStc, .int zUtc, .ref zTi, .ref zTt, .ref zOf, .ref zDs, .ref zIx, .ref zSd, .ref zUt, .ref zCh, .ref zLt, .ref zLo, .ref zRu])), (zSd, .inl (cAzSd, 40, .inl w4_a))]) [3, 4, 0, 1, 2] (by decide) rfl
  have hK := hK.sub (tys' := [(nA2, .byte), (cAzSd, .int)]) [0, 1] rfl
  refine lv_if_ne (tgt := 16) hx hb d_FP_readStds_11 (by decide) (fun c_4 => ?_) (fun c_4 => ?_)
  · have hf := it_f c_4 hf
    refine lv_iconst (v := 0) hx hb d_FP_readStds_16 (by decide) ?_
    refine lv_istore_n (lv' := [(1, .int 0), (0, .ref h0)]) hx hb d_FP_readStds_17 rfl hl (by decide) rfl (fun ls hl => ?_)
    exact k_FP_readStds_18 C0 hST hA hE nf hf hK hP hD hS (lv_sub hl [0, 1] rfl)
  · have hf := it_t c_4 hf
    refine lv_iconst (v := 0) hx hb d_FP_readStds_14 (by decide) ?_
    cases rs hf
    exact hE _ _ _ _ d_FP_readStds_15 rfl hP hD hS hK
end
set_option maxHeartbeats 400000 in
set_option maxRecDepth 100000 in
theorem c_FP_readStds (l : Launch) (dC : Nat → ClassId) (dI : Nat → Nat → Nat) (h0 : Nat) (fTape : Nat) (fZone : Nat) (fCounts : Nat) (tpR : Nat) (zTi : Nat) (zTt : Nat) (zOf : Nat) (zDs : Nat) (zIx : Nat) (zSd : Nat) (zUt : Nat) (zCh : Nat) (zLt : Nat) (zLo : Nat) (zRu : Nat) (cAtpR : ClassId) (cAzSd : ClassId) (sz : Nat) (nf : Nat) (fFault : Int32) (fPlace : Int32) (fPos : Int32) (fText : Int32) (tpS : Int32) (tpN : Nat) (tpA : Nat → Int32) (zVer : Int32) (zTic : Int32) (zTyc : Int32) (zLec : Int32) (zStc : Int32) (zUtc : Int32) (zSdA : Nat → Int32) {r0 : Int32} {v0_0 : Int32} {v0_1 : Int32} {v0_5 : Int32} {v4_a : Nat → Int32} (hf : f_FP_readStds nf fFault fPlace fPos tpS tpN tpA zStc zSdA = some (r0, v0_0, v0_1, v0_5, v4_a)) : Met l y_FP_readStds (wd y_FP_readStds b_FP_readStds 3 (some .boolean)) ({ frames := 2, cells := 0, slots := 0, locals := 43 }) (MU dC dI [(h0, .inr (3, [.int fFault, .int fPlace, .ref fTape, .ref fZone, .ref fCounts, .int fPos, .int fText])), (fTape, .inr (0, [.ref tpR, .int tpS])), (tpR, .inl (cAtpR, tpN, .inl tpA)), (fZone, .inr (8, [.int zVer, .int zTic, .int zTyc, .int zLec, .int zStc, .int zUtc, .ref zTi, .ref zTt, .ref zOf, .ref zDs, .ref zIx, .ref zSd, .ref zUt, .ref zCh, .ref zLt, .ref zLo, .ref zRu])), (zSd, .inl (cAzSd, 40, .inl zSdA))] [(cAtpR, .byte), (cAzSd, .int)] sz [.ref h0]) (MV (some (.int r0)) (fun t => ∃ (q2 : Nat) (nA2 : ClassId), va_P (dC, dI) classes [(h0, .inr (3, [.int v0_0, .int v0_1, .ref fTape, .ref fZone, .ref fCounts, .int v0_5, .int fText])), (fTape, .inr (0, [.ref q2, .int tpS])), (q2, .inl (nA2, tpN, .inl tpA)), (fZone, .inr (8, [.int zVer, .int zTic, .int zTyc, .int zLec, .int zStc, .int zUtc, .ref zTi, .ref zTt, .ref zOf, .ref zDs, .ref zIx, .ref zSd, .ref zUt, .ref zCh, .ref zLt, .ref zLo, .ref zRu])), (zSd, .inl (cAzSd, 40, .inl v4_a))] t.heap ∧ va_K (dC, dI) classes [(nA2, .byte), (cAzSd, .int)] t ∧ va_D (va_A [(h0, .inr (3, [.int fFault, .int fPlace, .ref fTape, .ref fZone, .ref fCounts, .int fPos, .int fText])), (fTape, .inr (0, [.ref tpR, .int tpS])), (tpR, .inl (cAtpR, tpN, .inl tpA)), (fZone, .inr (8, [.int zVer, .int zTic, .int zTyc, .int zLec, .int zStc, .int zUtc, .ref zTi, .ref zTt, .ref zOf, .ref zDs, .ref zIx, .ref zSd, .ref zUt, .ref zCh, .ref zLt, .ref zLo, .ref zRu])), (zSd, .inl (cAzSd, 40, .inl zSdA))] sz) [(h0, .inr (3, [.int v0_0, .int v0_1, .ref fTape, .ref fZone, .ref fCounts, .int v0_5, .int fText])), (fTape, .inr (0, [.ref q2, .int tpS])), (q2, .inl (nA2, tpN, .inl tpA)), (fZone, .inr (8, [.int zVer, .int zTic, .int zTyc, .int zLec, .int zStc, .int zUtc, .ref zTi, .ref zTt, .ref zOf, .ref zDs, .ref zIx, .ref zSd, .ref zUt, .ref zCh, .ref zLt, .ref zLo, .ref zRu])), (zSd, .inl (cAzSd, 40, .inl v4_a))]) (va_A [(h0, .inr (3, [.int fFault, .int fPlace, .ref fTape, .ref fZone, .ref fCounts, .int fPos, .int fText])), (fTape, .inr (0, [.ref tpR, .int tpS])), (tpR, .inl (cAtpR, tpN, .inl tpA)), (fZone, .inr (8, [.int zVer, .int zTic, .int zTyc, .int zLec, .int zStc, .int zUtc, .ref zTi, .ref zTt, .ref zOf, .ref zDs, .ref zIx, .ref zSd, .ref zUt, .ref zCh, .ref zLt, .ref zLo, .ref zRu])), (zSd, .inl (cAzSd, 40, .inl zSdA))] sz)) 0 0 (va_A [(h0, .inr (3, [.int fFault, .int fPlace, .ref fTape, .ref fZone, .ref fCounts, .int fPos, .int fText])), (fTape, .inr (0, [.ref tpR, .int tpS])), (tpR, .inl (cAtpR, tpN, .inl tpA)), (fZone, .inr (8, [.int zVer, .int zTic, .int zTyc, .int zLec, .int zStc, .int zUtc, .ref zTi, .ref zTt, .ref zOf, .ref zDs, .ref zIx, .ref zSd, .ref zUt, .ref zCh, .ref zLt, .ref zLo, .ref zRu])), (zSd, .inl (cAzSd, 40, .inl zSdA))] sz) :=
  met_M (plainFor_of_name (by decide)) (Nat.le_of_ble_eq_true rfl) (fun p e R s m args below meth c ls hRc hRs hsz hin C0 hST hK hP hD hl => by
    obtain ⟨hx, hb, hr, hml, hown, hts, hlocks, hRf, hRl⟩ := id C0
    subst hsz
    have hA : ∀ q : Nat, s.heap.size ≤ q → va_A [(h0, .inr (3, [.int fFault, .int fPlace, .ref fTape, .ref fZone, .ref fCounts, .int fPos, .int fText])), (fTape, .inr (0, [.ref tpR, .int tpS])), (tpR, .inl (cAtpR, tpN, .inl tpA)), (fZone, .inr (8, [.int zVer, .int zTic, .int zTyc, .int zLec, .int zStc, .int zUtc, .ref zTi, .ref zTt, .ref zOf, .ref zDs, .ref zIx, .ref zSd, .ref zUt, .ref zCh, .ref zLt, .ref zLo, .ref zRu])), (zSd, .inl (cAzSd, 40, .inl zSdA))] s.heap.size q := fun q h => Or.inr h
    have hS : va_S (va_A [(h0, .inr (3, [.int fFault, .int fPlace, .ref fTape, .ref fZone, .ref fCounts, .int fPos, .int fText])), (fTape, .inr (0, [.ref tpR, .int tpS])), (tpR, .inl (cAtpR, tpN, .inl tpA)), (fZone, .inr (8, [.int zVer, .int zTic, .int zTyc, .int zLec, .int zStc, .int zUtc, .ref zTi, .ref zTt, .ref zOf, .ref zDs, .ref zIx, .ref zSd, .ref zUt, .ref zCh, .ref zLt, .ref zLo, .ref zRu])), (zSd, .inl (cAzSd, 40, .inl zSdA))] s.heap.size) s.heap s.heap [] := va_S.rf
    unfold f_FP_readStds at hf
    exact k_FP_readStds_0 C0 hST hA (fun pc ls {q2} {nA2} H locs hd hn hP hD hS hK => W.zret hx hb hr hn (fun t ht hW => ⟨⟨rfl, ⟨q2, nA2, by rw [ht]; exact hP, va_K.moved hW.alike hK, hD⟩⟩, hS.F ht⟩) hS.2.2 hd) hf hK hP hD hS (lv_sub hl [0] rfl))
-- ZoneFiles$FileParser.readUts()Z
def f_FP_readUts_65 (nf : Nat) (K18 : Int32 → Int32 → Int32 → Int32 → (Nat → Int32) → Option (Int32 × Int32 × Int32 × Int32 × (Nat → Int32))) (x2 : Int32) (x1 : Int32) (s0 : Int32) (w0_0 : Int32) (w0_1 : Int32) (w0_5 : Int32) (w5_a : Nat → Int32) : Option (Int32 × Int32 × Int32 × Int32 × (Nat → Int32)) :=
  if x2 ≤ s0 then
  if x1 < 0 ∨ 40 ≤ x1.toNatClampNeg then none else
    K18 (x1 + 1) w0_0 w0_1 (w0_5 + 1) (upd w5_a x1.toNatClampNeg x2)
  else
  (f_FP_fail nf 13 w0_5 w0_0 w0_1).bind fun (z_10, z_11, z_12) =>
    if z_10 = 0 ∨ z_10 = 1 then some (z_10, z_11, z_12, w0_5, w5_a) else none
def f_FP_readUts_18 (nf : Nat) (tpS : Int32) (tpN : Nat) (tpA : Nat → Int32) (zStc : Int32) (zUtc : Int32) (zSdA : Nat → Int32) : Nat → Int32 → Int32 → Int32 → Int32 → (Nat → Int32) → Option (Int32 × Int32 × Int32 × Int32 × (Nat → Int32))
  | 0, _, _, _, _, _ => none
  | n + 1, x1, w0_0, w0_1, w0_5, w5_a =>
    if zUtc ≤ x1 then
    some (1, w0_0, w0_1, w0_5, w5_a)
    else
    (f_By_get nf w0_5 tpS tpN tpA).bind fun r_6 =>
      if zStc ≤ x1 then
      f_FP_readUts_65 nf (f_FP_readUts_18 nf tpS tpN tpA zStc zUtc zSdA n) r_6 x1 0 w0_0 w0_1 w0_5 w5_a
      else
      if x1 < 0 ∨ 40 ≤ x1.toNatClampNeg then none else
        f_FP_readUts_65 nf (f_FP_readUts_18 nf tpS tpN tpA zStc zUtc zSdA n) r_6 x1 (zSdA x1.toNatClampNeg) w0_0 w0_1 w0_5 w5_a
def f_FP_readUts_0 (nf : Nat) (tpS : Int32) (tpN : Nat) (tpA : Nat → Int32) (zStc : Int32) (zUtc : Int32) (zSdA : Nat → Int32) (w0_0 : Int32) (w0_1 : Int32) (w0_5 : Int32) (w5_a : Nat → Int32) : Option (Int32 × Int32 × Int32 × Int32 × (Nat → Int32)) :=
  (f_FP_hasMore nf zUtc w0_0 w0_1 w0_5 tpS).bind fun (z_1, z_2, z_3) =>
  if z_1 = 0 then
  some (0, z_2, z_3, w0_5, w5_a)
  else
  f_FP_readUts_18 nf tpS tpN tpA zStc zUtc zSdA nf 0 z_2 z_3 w0_5 w5_a
def f_FP_readUts (nf : Nat) (fFault : Int32) (fPlace : Int32) (fPos : Int32) (tpS : Int32) (tpN : Nat) (tpA : Nat → Int32) (zStc : Int32) (zUtc : Int32) (zSdA : Nat → Int32) (zUtA : Nat → Int32) : Option (Int32 × Int32 × Int32 × Int32 × (Nat → Int32)) :=
  f_FP_readUts_0 nf tpS tpN tpA zStc zUtc zSdA fFault fPlace fPos zUtA
section
variable {p : Program} {l : Launch} {e : Env} {R : Room} {s : State} {m : MethodId} {args : Array Value} {below : List Frame} {meth : Method} {c : Code} {Q : State → Prop} {dC : Nat → ClassId} {dI : Nat → Nat → Nat} {nf : Nat} {A : Nat → Prop}
variable {h0 : Nat} {fTape : Nat} {fZone : Nat} {fCounts : Nat} {tpR : Nat} {zTi : Nat} {zTt : Nat} {zOf : Nat} {zDs : Nat} {zIx : Nat} {zSd : Nat} {zUt : Nat} {zCh : Nat} {zLt : Nat} {zLo : Nat} {zRu : Nat} {cAtpR : ClassId} {cAzSd : ClassId} {cAzUt : ClassId} {fFault : Int32} {fPlace : Int32} {fPos : Int32} {fText : Int32} {tpS : Int32} {tpN : Nat} {tpA : Nat → Int32} {zVer : Int32} {zTic : Int32} {zTyc : Int32} {zLec : Int32} {zStc : Int32} {zUtc : Int32} {zSdA : Nat → Int32} {zUtA : Nat → Int32} {r0 : Int32} {v0_0 : Int32} {v0_1 : Int32} {v0_5 : Int32} {v5_a : Nat → Int32}
set_option maxHeartbeats 400000 in
set_option maxRecDepth 100000 in
theorem k_FP_readUts_65 (C0 : Cx p s m meth c args R b_FP_readUts "ZoneFiles$FileParser" 4 (some .boolean) 2 43) (hST : ST A s s.heap) (hA : ∀ q, s.heap.size ≤ q → A q) (hE : ∀ (pc : Nat) (ls : Array Slot) {q2 : Nat} {nA2 : ClassId} (H : Heap) (locs : List Loc), decode b_FP_readUts pc = .ok (.ireturn, 1) → narrow .boolean (.int r0) = .int r0 → va_P (dC, dI) classes [(h0, .inr (3, [.int v0_0, .int v0_1, .ref fTape, .ref fZone, .ref fCounts, .int v0_5, .int fText])), (fTape, .inr (0, [.ref q2, .int tpS])), (q2, .inl (nA2, tpN, .inl tpA)), (fZone, .inr (8, [.int zVer, .int zTic, .int zTyc, .int zLec, .int zStc, .int zUtc, .ref zTi, .ref zTt, .ref zOf, .ref zDs, .ref zIx, .ref zSd, .ref zUt, .ref zCh, .ref zLt, .ref zLo, .ref zRu])), (zSd, .inl (cAzSd, 40, .inl zSdA)), (zUt, .inl (cAzUt, 40, .inl v5_a))] H → va_D A [(h0, .inr (3, [.int v0_0, .int v0_1, .ref fTape, .ref fZone, .ref fCounts, .int v0_5, .int fText])), (fTape, .inr (0, [.ref q2, .int tpS])), (q2, .inl (nA2, tpN, .inl tpA)), (fZone, .inr (8, [.int zVer, .int zTic, .int zTyc, .int zLec, .int zStc, .int zUtc, .ref zTi, .ref zTt, .ref zOf, .ref zDs, .ref zIx, .ref zSd, .ref zUt, .ref zCh, .ref zLt, .ref zLo, .ref zRu])), (zSd, .inl (cAzSd, 40, .inl zSdA)), (zUt, .inl (cAzUt, 40, .inl v5_a))] → va_S A s.heap H locs → va_K (dC, dI) classes [(nA2, .byte), (cAzSd, .int), (cAzUt, .int)] s → W p l e R s m args below meth c H locs 0 0 Q (F0 m pc ls [.int r0])) {K18 : Int32 → Int32 → Int32 → Int32 → (Nat → Int32) → Option (Int32 × Int32 × Int32 × Int32 × (Nat → Int32))} (hK18 : ∀ {x1 : Int32} {w0_0 : Int32} {w0_1 : Int32} {w0_5 : Int32} {w5_a : Nat → Int32}, K18 x1 w0_0 w0_1 w0_5 w5_a = some (r0, v0_0, v0_1, v0_5, v5_a) → ∀ {q2 : Nat} {nA2 : ClassId} {H : Heap} {locs : List Loc} {ls : Array Slot}, va_K (dC, dI) classes [(nA2, .byte), (cAzSd, .int), (cAzUt, .int)] s → va_P (dC, dI) classes [(h0, .inr (3, [.int w0_0, .int w0_1, .ref fTape, .ref fZone, .ref fCounts, .int w0_5, .int fText])), (fTape, .inr (0, [.ref q2, .int tpS])), (q2, .inl (nA2, tpN, .inl tpA)), (fZone, .inr (8, [.int zVer, .int zTic, .int zTyc, .int zLec, .int zStc, .int zUtc, .ref zTi, .ref zTt, .ref zOf, .ref zDs, .ref zIx, .ref zSd, .ref zUt, .ref zCh, .ref zLt, .ref zLo, .ref zRu])), (zSd, .inl (cAzSd, 40, .inl zSdA)), (zUt, .inl (cAzUt, 40, .inl w5_a))] H → va_D A [(h0, .inr (3, [.int w0_0, .int w0_1, .ref fTape, .ref fZone, .ref fCounts, .int w0_5, .int fText])), (fTape, .inr (0, [.ref q2, .int tpS])), (q2, .inl (nA2, tpN, .inl tpA)), (fZone, .inr (8, [.int zVer, .int zTic, .int zTyc, .int zLec, .int zStc, .int zUtc, .ref zTi, .ref zTt, .ref zOf, .ref zDs, .ref zIx, .ref zSd, .ref zUt, .ref zCh, .ref zLt, .ref zLo, .ref zRu])), (zSd, .inl (cAzSd, 40, .inl zSdA)), (zUt, .inl (cAzUt, 40, .inl w5_a))] → va_S A s.heap H locs → lv_has ls 4 [(1, .int x1), (0, .ref h0)] → W p l e R s m args below meth c H locs 0 0 Q (F0 m 18 ls [])) {x2 : Int32} {x1 : Int32} {s0 : Int32} {w0_0 : Int32} {w0_1 : Int32} {w0_5 : Int32} {w5_a : Nat → Int32} (hf : f_FP_readUts_65 nf K18 x2 x1 s0 w0_0 w0_1 w0_5 w5_a = some (r0, v0_0, v0_1, v0_5, v5_a)) {q2 : Nat} {nA2 : ClassId} {H : Heap} {locs : List Loc} {ls : Array Slot} (hK : va_K (dC, dI) classes [(nA2, .byte), (cAzSd, .int), (cAzUt, .int)] s) (hP : va_P (dC, dI) classes [(h0, .inr (3, [.int w0_0, .int w0_1, .ref fTape, .ref fZone, .ref fCounts, .int w0_5, .int fText])), (fTape, .inr (0, [.ref q2, .int tpS])), (q2, .inl (nA2, tpN, .inl tpA)), (fZone, .inr (8, [.int zVer, .int zTic, .int zTyc, .int zLec, .int zStc, .int zUtc, .ref zTi, .ref zTt, .ref zOf, .ref zDs, .ref zIx, .ref zSd, .ref zUt, .ref zCh, .ref zLt, .ref zLo, .ref zRu])), (zSd, .inl (cAzSd, 40, .inl zSdA)), (zUt, .inl (cAzUt, 40, .inl w5_a))] H) (hD : va_D A [(h0, .inr (3, [.int w0_0, .int w0_1, .ref fTape, .ref fZone, .ref fCounts, .int w0_5, .int fText])), (fTape, .inr (0, [.ref q2, .int tpS])), (q2, .inl (nA2, tpN, .inl tpA)), (fZone, .inr (8, [.int zVer, .int zTic, .int zTyc, .int zLec, .int zStc, .int zUtc, .ref zTi, .ref zTt, .ref zOf, .ref zDs, .ref zIx, .ref zSd, .ref zUt, .ref zCh, .ref zLt, .ref zLo, .ref zRu])), (zSd, .inl (cAzSd, 40, .inl zSdA)), (zUt, .inl (cAzUt, 40, .inl w5_a))]) (hS : va_S A s.heap H locs) (hl : lv_has ls 4 [(2, .int x2), (1, .int x1), (0, .ref h0)]) : W p l e R s m args below meth c H locs 0 0 Q (F0 m 65 ls [.int s0]) := by
  obtain ⟨hx, hb, hr, hml, hown, hts, hlocks, hRf, hRl⟩ := id C0
  obtain ⟨tms, hZms, hTms, tmg, hZmg, hTmg, hNW⟩ := id hST
  unfold f_FP_readUts_65 at hf
  refine lv_istore_n (lv' := [(3, .int s0), (2, .int x2), (1, .int x1), (0, .ref h0)]) hx hb d_FP_readUts_65 rfl hl (by decide) rfl (fun ls hl => ?_)
  refine lv_iload_n hx hb d_FP_readUts_66 rfl (lv_at hl 1 rfl) ?_
  refine lv_iload_n hx hb d_FP_readUts_67 rfl (lv_at hl 0 rfl) ?_
  refine lv_icmp_le (tgt := 82) hx hb d_FP_readUts_68 (by decide) (fun c_8 => ?_) (fun c_8 => ?_)
  · have hf := it_t c_8 hf
    refine lv_aload_n hx hb d_FP_readUts_82 rfl (lv_at hl 3 rfl) ?_
    refine va_get (D := (dC, dI)) (ci := 3) (v := .ref fZone) (C := RFileParser) (T := TFileParser) (N := 7) hx hb hts in_FileParser hown hK hP 0 rfl rfl 3 (by decide) (hts (.fieldLink "ZoneFiles$FileParser" 15 "ZoneFiles$FileParser" "zone" "LZoneFiles$Zone;") m_3_161) (fun _ h9 => h9) rfl d_FP_readUts_83 ?_
    refine va_get (D := (dC, dI)) (ci := 8) (v := .ref zUt) (C := RZone) (T := TZone) (N := 17) hx hb hts in_Zone hown hK hP 3 rfl rfl 12 (by decide) (hts (.fieldLink "ZoneFiles$FileParser" 216 "ZoneFiles$Zone" "uts" "[I") m_1_213) (fun _ h9 => h9) rfl d_FP_readUts_86 ?_
    refine lv_iload_n hx hb d_FP_readUts_89 rfl (lv_at hl 2 rfl) ?_
    refine lv_iload_n hx hb d_FP_readUts_90 rfl (lv_at hl 1 rfl) ?_
    obtain ⟨c_9, hf⟩ := it_n hf
    refine va_iast hx hb hK hP hD hS 5 2 rfl rfl c_9 d_FP_readUts_91 (fun H locs hP hD hS => ?_)
    have hP : va_P (dC, dI) classes [(h0, .inr (3, [.int w0_0, .int w0_1, .ref fTape, .ref fZone, .ref fCounts, .int w0_5, .int fText])), (fTape, .inr (0, [.ref q2, .int tpS])), (q2, .inl (nA2, tpN, .inl tpA)), (fZone, .inr (8, [.int zVer, .int zTic, .int zTyc, .int zLec, .int zStc, .int zUtc, .ref zTi, .ref zTt, .ref zOf, .ref zDs, .ref zIx, .ref zSd, .ref zUt, .ref zCh, .ref zLt, .ref zLo, .ref zRu])), (zSd, .inl (cAzSd, 40, .inl zSdA)), (zUt, .inl (cAzUt, 40, .inl (upd w5_a x1.toNatClampNeg x2)))] H := hP
    have hD : va_D A [(h0, .inr (3, [.int w0_0, .int w0_1, .ref fTape, .ref fZone, .ref fCounts, .int w0_5, .int fText])), (fTape, .inr (0, [.ref q2, .int tpS])), (q2, .inl (nA2, tpN, .inl tpA)), (fZone, .inr (8, [.int zVer, .int zTic, .int zTyc, .int zLec, .int zStc, .int zUtc, .ref zTi, .ref zTt, .ref zOf, .ref zDs, .ref zIx, .ref zSd, .ref zUt, .ref zCh, .ref zLt, .ref zLo, .ref zRu])), (zSd, .inl (cAzSd, 40, .inl zSdA)), (zUt, .inl (cAzUt, 40, .inl (upd w5_a x1.toNatClampNeg x2)))] := hD
    refine lv_aload_n hx hb d_FP_readUts_92 rfl (lv_at hl 3 rfl) ?_
    refine lv_dup hx hb d_FP_readUts_93 rfl ?_
    refine va_get (D := (dC, dI)) (ci := 3) (v := .int w0_5) (C := RFileParser) (T := TFileParser) (N := 7) hx hb hts in_FileParser hown hK hP 0 rfl rfl 5 (by decide) (hts (.fieldLink "ZoneFiles$FileParser" 44 "ZoneFiles$FileParser" "pos" "I") m_3_163) (fun _ h9 => h9) rfl d_FP_readUts_94 ?_
    refine lv_iconst (v := 1) hx hb d_FP_readUts_97 (by decide) ?_
    refine lv_iadd hx hb d_FP_readUts_98 ?_
    refine va_put (D := (dC, dI)) (ci := 3) (v := .int (w0_5 + 1)) (ty := .int) (C := RFileParser) (T := TFileParser) (N := 7) hx hb hts in_FileParser tyFileParser ty_FileParser nm_FileParser hown hK hP hD hS 0 rfl rfl 5 (by decide) (hts (.fieldLink "ZoneFiles$FileParser" 44 "ZoneFiles$FileParser" "pos" "I") m_3_163) (fun _ h9 => h9) rfl (by decide +kernel) rfl rfl (Nat.le_of_ble_eq_true rfl) d_FP_readUts_99 (fun H locs hP hD hS => ?_)
    have hP : va_P (dC, dI) classes [(h0, .inr (3, [.int w0_0, .int w0_1, .ref fTape, .ref fZone, .ref fCounts, .int (w0_5 + 1), .int fText])), (fTape, .inr (0, [.ref q2, .int tpS])), (q2, .inl (nA2, tpN, .inl tpA)), (fZone, .inr (8, [.int zVer, .int zTic, .int zTyc, .int zLec, .int zStc, .int zUtc, .ref zTi, .ref zTt, .ref zOf, .ref zDs, .ref zIx, .ref zSd, .ref zUt, .ref zCh, .ref zLt, .ref zLo, .ref zRu])), (zSd, .inl (cAzSd, 40, .inl zSdA)), (zUt, .inl (cAzUt, 40, .inl (upd w5_a x1.toNatClampNeg x2)))] H := hP
    have hD : va_D A [(h0, .inr (3, [.int w0_0, .int w0_1, .ref fTape, .ref fZone, .ref fCounts, .int (w0_5 + 1), .int fText])), (fTape, .inr (0, [.ref q2, .int tpS])), (q2, .inl (nA2, tpN, .inl tpA)), (fZone, .inr (8, [.int zVer, .int zTic, .int zTyc, .int zLec, .int zStc, .int zUtc, .ref zTi, .ref zTt, .ref zOf, .ref zDs, .ref zIx, .ref zSd, .ref zUt, .ref zCh, .ref zLt, .ref zLo, .ref zRu])), (zSd, .inl (cAzSd, 40, .inl zSdA)), (zUt, .inl (cAzUt, 40, .inl (upd w5_a x1.toNatClampNeg x2)))] := hD
    refine lv_iinc (v := x1 + 1) (lv' := [(1, .int (x1 + 1)), (3, .int s0), (2, .int x2), (0, .ref h0)]) hx hb d_FP_readUts_102 hl (k := 2) rfl rfl (by decide) rfl (fun ls hl => ?_)
    refine lv_goto (tgt := 18) hx hb d_FP_readUts_105 (by decide) ?_
    exact hK18 hf hK hP hD hS (lv_sub hl [0, 3] rfl)
  · have hf := it_f c_8 hf
    refine lv_aload_n hx hb d_FP_readUts_71 rfl (lv_at hl 3 rfl) ?_
    refine lv_bipush (v := 13) hx hb d_FP_readUts_72 (by decide) ?_
    refine lv_aload_n hx hb d_FP_readUts_74 rfl (lv_at hl 3 rfl) ?_
    refine va_get (D := (dC, dI)) (ci := 3) (v := .int w0_5) (C := RFileParser) (T := TFileParser) (N := 7) hx hb hts in_FileParser hown hK hP 0 rfl rfl 5 (by decide) (hts (.fieldLink "ZoneFiles$FileParser" 44 "ZoneFiles$FileParser" "pos" "I") m_3_163) (fun _ h9 => h9) rfl d_FP_readUts_75 ?_
    obtain ⟨⟨z_10, z_11, z_12⟩, hc, hf⟩ := ob hf
    have hPc := hP.sub (ws' := [(h0, .inr (3, [.int w0_0, .int w0_1, .ref fTape, .ref fZone, .ref fCounts, .int w0_5, .int fText]))]) [0] rfl
    have hDc := hD.sub (ws' := [(h0, .inr (3, [.int w0_0, .int w0_1, .ref fTape, .ref fZone, .ref fCounts, .int w0_5, .int fText]))]) [0] (by decide) rfl
    have hKc := hK.sub (tys' := []) [] rfl
    have hFc := va_free (wc := [(h0, .inr (3, [.int w0_0, .int w0_1, .ref fTape, .ref fZone, .ref fCounts, .int w0_5, .int fText]))]) hD hS hA [0] rfl
    refine cl_M (v := (some (.int z_10))) (st1 := [.int z_10]) (va_runV (As := [.int 13, .int w0_5]) (rest := []) ⟨hx, hb, hml, hown, hts⟩ (c_FP_fail l dC dI h0 fTape fZone fCounts H.size nf 13 w0_5 w0_0 w0_1 w0_5 fText hc) (cwV 2 hts (gdV m_3_191 m_3_193 msel_16 m_1_16 m_3_194) rfl rfl rfl (by decide +kernel) ⟨Nat.le_trans (Nat.le_of_ble_eq_true rfl) hRf, Nat.le_trans (Nat.le_of_ble_eq_true rfl) hRl⟩) ((MU.pre hPc hKc hDc (hST.mu hS hFc)).vir (va_recv hKc hPc (ci := 3) (q0 := 0) rfl rfl)) rfl rfl hl.1 rfl (lv_room (Nat.le_of_ble_eq_true rfl)) d_FP_readUts_78 ⟨Nat.zero_le _, Nat.zero_le _⟩) rfl hS (fun q _ h => hFc q h) hFc (fun t H1 locs ht hvm hB hz1 hk1 hS => ?_)
    obtain ⟨hP1, hK1, hD1⟩ := hB
    rw [ht] at hP1
    have hK1 := va_K.moved hvm.symm hK1
    obtain ⟨hP, hD⟩ := va_join (wr := [(fTape, .inr (0, [.ref q2, .int tpS])), (q2, .inl (nA2, tpN, .inl tpA)), (fZone, .inr (8, [.int zVer, .int zTic, .int zTyc, .int zLec, .int zStc, .int zUtc, .ref zTi, .ref zTt, .ref zOf, .ref zDs, .ref zIx, .ref zSd, .ref zUt, .ref zCh, .ref zLt, .ref zLo, .ref zRu])), (zSd, .inl (cAzSd, 40, .inl zSdA)), (zUt, .inl (cAzUt, 40, .inl w5_a))]) (w1 := [(h0, .inr (3, [.int z_11, .int z_12, .ref fTape, .ref fZone, .ref fCounts, .int w0_5, .int fText]))]) hP hD [0] [1, 2, 3, 4, 5] rfl rfl (by decide) (by decide) hk1 hFc hP1 hD1
    have hK := (hK.sub (tys' := [(nA2, .byte), (cAzSd, .int), (cAzUt, .int)]) [0, 1, 2] rfl).app hK1
    generalize H1 = H at hP hS ⊢
    have hP := hP.sub (ws' := [(h0, .inr (3, [.int z_11, .int z_12, .ref fTape, .ref fZone, .ref fCounts, .int w0_5, .int fText])), (fTape, .inr (0, [.ref q2, .int tpS])), (q2, .inl (nA2, tpN, .inl tpA)), (fZone, .inr (8, [.int zVer, .int zTic, .int zTyc, .int zLec, .int zStc, .int zUtc, .ref zTi, .ref zTt, .ref zOf, .ref zDs, .ref zIx, .ref zSd, .ref zUt, .ref zCh, .ref zLt, .ref zLo, .ref zRu])), (zSd, .inl (cAzSd, 40, .inl zSdA)), (zUt, .inl (cAzUt, 40, .inl w5_a))]) [5, 0, 1, 2, 3, 4] rfl
    have hD := hD.sub (ws' := [(h0, .inr (3, [.int z_11, .int z_12, .ref fTape, .ref fZone, .ref fCounts, .int w0_5, .int fText])), (fTape, .inr (0, [.ref q2, .int tpS])), (q2, .inl (nA2, tpN, .inl tpA)), (fZone, .inr (8, [.int zVer, .int zTic, .int zTyc, .int zLec, .int zStc, .int zUtc, .ref zTi, .ref zTt, .ref zOf, .ref zDs, .ref zIx, .ref zSd, .ref zUt, .ref zCh, .ref zLt, .ref zLo, .ref zRu])), (zSd, .inl (cAzSd, 40, .inl zSdA)), (zUt, .inl (cAzUt, 40, .inl w5_a))]) [5, 0, 1, 2, 3, 4] (by decide) rfl
    have hK := hK.sub (tys' := [(nA2, .byte), (cAzSd, .int), (cAzUt, .int)]) [0, 1, 2] rfl
    obtain ⟨c_13, hf⟩ := it_g hf
    cases rs hf
    exact hE _ _ _ _ d_FP_readUts_81 (nb_of c_13) hP hD hS hK
set_option maxHeartbeats 400000 in
set_option maxRecDepth 100000 in
theorem k_FP_readUts_18 (C0 : Cx p s m meth c args R b_FP_readUts "ZoneFiles$FileParser" 4 (some .boolean) 2 43) (hST : ST A s s.heap) (hA : ∀ q, s.heap.size ≤ q → A q) (hE : ∀ (pc : Nat) (ls : Array Slot) {q2 : Nat} {nA2 : ClassId} (H : Heap) (locs : List Loc), decode b_FP_readUts pc = .ok (.ireturn, 1) → narrow .boolean (.int r0) = .int r0 → va_P (dC, dI) classes [(h0, .inr (3, [.int v0_0, .int v0_1, .ref fTape, .ref fZone, .ref fCounts, .int v0_5, .int fText])), (fTape, .inr (0, [.ref q2, .int tpS])), (q2, .inl (nA2, tpN, .inl tpA)), (fZone, .inr (8, [.int zVer, .int zTic, .int zTyc, .int zLec, .int zStc, .int zUtc, .ref zTi, .ref zTt, .ref zOf, .ref zDs, .ref zIx, .ref zSd, .ref zUt, .ref zCh, .ref zLt, .ref zLo, .ref zRu])), (zSd, .inl (cAzSd, 40, .inl zSdA)), (zUt, .inl (cAzUt, 40, .inl v5_a))] H → va_D A [(h0, .inr (3, [.int v0_0, .int v0_1, .ref fTape, .ref fZone, .ref fCounts, .int v0_5, .int fText])), (fTape, .inr (0, [.ref q2, .int tpS])), (q2, .inl (nA2, tpN, .inl tpA)), (fZone, .inr (8, [.int zVer, .int zTic, .int zTyc, .int zLec, .int zStc, .int zUtc, .ref zTi, .ref zTt, .ref zOf, .ref zDs, .ref zIx, .ref zSd, .ref zUt, .ref zCh, .ref zLt, .ref zLo, .ref zRu])), (zSd, .inl (cAzSd, 40, .inl zSdA)), (zUt, .inl (cAzUt, 40, .inl v5_a))] → va_S A s.heap H locs → va_K (dC, dI) classes [(nA2, .byte), (cAzSd, .int), (cAzUt, .int)] s → W p l e R s m args below meth c H locs 0 0 Q (F0 m pc ls [.int r0])) : ∀ (n : Nat) {x1 : Int32} {w0_0 : Int32} {w0_1 : Int32} {w0_5 : Int32} {w5_a : Nat → Int32}, f_FP_readUts_18 nf tpS tpN tpA zStc zUtc zSdA n x1 w0_0 w0_1 w0_5 w5_a = some (r0, v0_0, v0_1, v0_5, v5_a) → ∀ {q2 : Nat} {nA2 : ClassId} {H : Heap} {locs : List Loc} {ls : Array Slot}, va_K (dC, dI) classes [(nA2, .byte), (cAzSd, .int), (cAzUt, .int)] s → va_P (dC, dI) classes [(h0, .inr (3, [.int w0_0, .int w0_1, .ref fTape, .ref fZone, .ref fCounts, .int w0_5, .int fText])), (fTape, .inr (0, [.ref q2, .int tpS])), (q2, .inl (nA2, tpN, .inl tpA)), (fZone, .inr (8, [.int zVer, .int zTic, .int zTyc, .int zLec, .int zStc, .int zUtc, .ref zTi, .ref zTt, .ref zOf, .ref zDs, .ref zIx, .ref zSd, .ref zUt, .ref zCh, .ref zLt, .ref zLo, .ref zRu])), (zSd, .inl (cAzSd, 40, .inl zSdA)), (zUt, .inl (cAzUt, 40, .inl w5_a))] H → va_D A [(h0, .inr (3, [.int w0_0, .int w0_1, .ref fTape, .ref fZone, .ref fCounts, .int w0_5, .int fText])), (fTape, .inr (0, [.ref q2, .int tpS])), (q2, .inl (nA2, tpN, .inl tpA)), (fZone, .inr (8, [.int zVer, .int zTic, .int zTyc, .int zLec, .int zStc, .int zUtc, .ref zTi, .ref zTt, .ref zOf, .ref zDs, .ref zIx, .ref zSd, .ref zUt, .ref zCh, .ref zLt, .ref zLo, .ref zRu])), (zSd, .inl (cAzSd, 40, .inl zSdA)), (zUt, .inl (cAzUt, 40, .inl w5_a))] → va_S A s.heap H locs → lv_has ls 4 [(1, .int x1), (0, .ref h0)] → W p l e R s m args below meth c H locs 0 0 Q (F0 m 18 ls []) := by
  obtain ⟨hx, hb, hr, hml, hown, hts, hlocks, hRf, hRl⟩ := id C0
  obtain ⟨tms, hZms, hTms, tmg, hZmg, hTmg, hNW⟩ := id hST
  intro n
  induction n with
  | zero =>
    intro x1 w0_0 w0_1 w0_5 w5_a hf
    exact absurd hf (by simp [f_FP_readUts_18])
  | succ n ih =>
    intro x1 w0_0 w0_1 w0_5 w5_a hf q2 nA2 H locs ls hK hP hD hS hl
    unfold f_FP_readUts_18 at hf
    refine lv_iload_n hx hb d_FP_readUts_18 rfl (lv_at hl 0 rfl) ?_
    refine lv_aload_n hx hb d_FP_readUts_19 rfl (lv_at hl 1 rfl) ?_
    refine va_get (D := (dC, dI)) (ci := 3) (v := .ref fZone) (C := RFileParser) (T := TFileParser) (N := 7) hx hb hts in_FileParser hown hK hP 0 rfl rfl 3 (by decide) (hts (.fieldLink "ZoneFiles$FileParser" 15 "ZoneFiles$FileParser" "zone" "LZoneFiles$Zone;") m_3_161) (fun _ h9 => h9) rfl d_FP_readUts_20 ?_
    refine va_get (D := (dC, dI)) (ci := 8) (v := .int zUtc) (C := RZone) (T := TZone) (N := 17) hx hb hts in_Zone hown hK hP 3 rfl rfl 5 (by decide) (hts (.fieldLink "ZoneFiles$FileParser" 135 "ZoneFiles$Zone" "utCount" "I") m_1_185) (fun _ h9 => h9) rfl d_FP_readUts_23 ?_
    refine lv_icmp_ge (tgt := 108) hx hb d_FP_readUts_26 (by decide) (fun c_5 => ?_) (fun c_5 => ?_)
    · have hf := it_t c_5 hf
      refine lv_iconst (v := 1) hx hb d_FP_readUts_108 (by decide) ?_
      cases rs hf
      exact hE _ _ _ _ d_FP_readUts_109 rfl hP hD hS hK
    · have hf := it_f c_5 hf
      refine lv_aload_n hx hb d_FP_readUts_29 rfl (lv_at hl 1 rfl) ?_
      refine va_get (D := (dC, dI)) (ci := 3) (v := .ref fTape) (C := RFileParser) (T := TFileParser) (N := 7) hx hb hts in_FileParser hown hK hP 0 rfl rfl 2 (by decide) (hts (.fieldLink "ZoneFiles$FileParser" 9 "ZoneFiles$FileParser" "tape" "LZoneFiles$Bytes;") m_3_160) (fun _ h9 => h9) rfl d_FP_readUts_30 ?_
      refine lv_aload_n hx hb d_FP_readUts_33 rfl (lv_at hl 1 rfl) ?_
      refine va_get (D := (dC, dI)) (ci := 3) (v := .int w0_5) (C := RFileParser) (T := TFileParser) (N := 7) hx hb hts in_FileParser hown hK hP 0 rfl rfl 5 (by decide) (hts (.fieldLink "ZoneFiles$FileParser" 44 "ZoneFiles$FileParser" "pos" "I") m_3_163) (fun _ h9 => h9) rfl d_FP_readUts_34 ?_
      obtain ⟨r_6, hc, hf⟩ := ob hf
      refine cl_S (v := (some (.int r_6))) (st1 := [.int r_6]) (va_runV (As := [.int w0_5]) (rest := []) ⟨hx, hb, hml, hown, hts⟩ (c_By_get l dC dI fTape q2 nA2 nf w0_5 tpS tpN tpA hc) (cwV 1 hts (gdV m_3_190 m_2_71 m_2_72 m_1_2 m_2_73) rfl rfl rfl (by decide +kernel) ⟨Nat.le_trans (Nat.le_of_ble_eq_true rfl) hRf, Nat.le_trans (Nat.le_of_ble_eq_true rfl) hRl⟩) ((RO.pre (hP.sub (ws' := [(fTape, .inr (0, [.ref q2, .int tpS])), (q2, .inl (nA2, tpN, .inl tpA))]) [1, 2] rfl) (hK.sub (tys' := [(nA2, .byte)]) [0] rfl) (hST.ro hS)).vir (va_recv (hK.sub (tys' := [(nA2, .byte)]) [0] rfl) (hP.sub (ws' := [(fTape, .inr (0, [.ref q2, .int tpS])), (q2, .inl (nA2, tpN, .inl tpA))]) [1, 2] rfl) (ci := 0) (q0 := 0) rfl rfl)) rfl rfl hl.1 rfl (lv_room (Nat.le_of_ble_eq_true rfl)) d_FP_readUts_37 ⟨Nat.zero_le _, Nat.zero_le _⟩) rfl ?_
      refine lv_istore_n (lv' := [(2, .int r_6), (1, .int x1), (0, .ref h0)]) hx hb d_FP_readUts_40 rfl hl (by decide) rfl (fun ls hl => ?_)
      refine lv_iload_n hx hb d_FP_readUts_41 rfl (lv_at hl 1 rfl) ?_
      refine lv_aload_n hx hb d_FP_readUts_42 rfl (lv_at hl 2 rfl) ?_
      refine va_get (D := (dC, dI)) (ci := 3) (v := .ref fZone) (C := RFileParser) (T := TFileParser) (N := 7) hx hb hts in_FileParser hown hK hP 0 rfl rfl 3 (by decide) (hts (.fieldLink "ZoneFiles$FileParser" 15 "ZoneFiles$FileParser" "zone" "LZoneFiles$Zone;") m_3_161) (fun _ h9 => h9) rfl d_FP_readUts_43 ?_
      refine va_get (D := (dC, dI)) (ci := 8) (v := .int zStc) (C := RZone) (T := TZone) (N := 17) hx hb hts in_Zone hown hK hP 3 rfl rfl 4 (by decide) (hts (.fieldLink "ZoneFiles$FileParser" 132 "ZoneFiles$Zone" "stdCount" "I") m_1_181) (fun _ h9 => h9) rfl d_FP_readUts_46 ?_
      refine lv_icmp_ge (tgt := 64) hx hb d_FP_readUts_49 (by decide) (fun c_7 => ?_) (fun c_7 => ?_)
      · have hf := it_t c_7 hf
        refine lv_iconst (v := 0) hx hb d_FP_readUts_64 (by decide) ?_
        exact k_FP_readUts_65 C0 hST hA hE (fun hf => ih hf) hf hK hP hD hS (lv_sub hl [0, 1, 2] rfl)
      · have hf := it_f c_7 hf
        refine lv_aload_n hx hb d_FP_readUts_52 rfl (lv_at hl 2 rfl) ?_
        refine va_get (D := (dC, dI)) (ci := 3) (v := .ref fZone) (C := RFileParser) (T := TFileParser) (N := 7) hx hb hts in_FileParser hown hK hP 0 rfl rfl 3 (by decide) (hts (.fieldLink "ZoneFiles$FileParser" 15 "ZoneFiles$FileParser" "zone" "LZoneFiles$Zone;") m_3_161) (fun _ h9 => h9) rfl d_FP_readUts_53 ?_
        refine va_get (D := (dC, dI)) (ci := 8) (v := .ref zSd) (C := RZone) (T := TZone) (N := 17) hx hb hts in_Zone hown hK hP 3 rfl rfl 11 (by decide) (hts (.fieldLink "ZoneFiles$FileParser" 213 "ZoneFiles$Zone" "stds" "[I") m_1_209) (fun _ h9 => h9) rfl d_FP_readUts_56 ?_
        refine lv_iload_n hx hb d_FP_readUts_59 rfl (lv_at hl 1 rfl) ?_
        obtain ⟨c_14, hf⟩ := it_n hf
        refine va_iald hx hb hK hP 4 1 rfl rfl c_14 d_FP_readUts_60 ?_
        refine lv_goto (tgt := 65) hx hb d_FP_readUts_61 (by decide) ?_
        exact k_FP_readUts_65 C0 hST hA hE (fun hf => ih hf) hf hK hP hD hS (lv_sub hl [0, 1, 2] rfl)
set_option maxHeartbeats 400000 in
set_option maxRecDepth 100000 in
theorem k_FP_readUts_0 (C0 : Cx p s m meth c args R b_FP_readUts "ZoneFiles$FileParser" 4 (some .boolean) 2 43) (hST : ST A s s.heap) (hA : ∀ q, s.heap.size ≤ q → A q) (hE : ∀ (pc : Nat) (ls : Array Slot) {q2 : Nat} {nA2 : ClassId} (H : Heap) (locs : List Loc), decode b_FP_readUts pc = .ok (.ireturn, 1) → narrow .boolean (.int r0) = .int r0 → va_P (dC, dI) classes [(h0, .inr (3, [.int v0_0, .int v0_1, .ref fTape, .ref fZone, .ref fCounts, .int v0_5, .int fText])), (fTape, .inr (0, [.ref q2, .int tpS])), (q2, .inl (nA2, tpN, .inl tpA)), (fZone, .inr (8, [.int zVer, .int zTic, .int zTyc, .int zLec, .int zStc, .int zUtc, .ref zTi, .ref zTt, .ref zOf, .ref zDs, .ref zIx, .ref zSd, .ref zUt, .ref zCh, .ref zLt, .ref zLo, .ref zRu])), (zSd, .inl (cAzSd, 40, .inl zSdA)), (zUt, .inl (cAzUt, 40, .inl v5_a))] H → va_D A [(h0, .inr (3, [.int v0_0, .int v0_1, .ref fTape, .ref fZone, .ref fCounts, .int v0_5, .int fText])), (fTape, .inr (0, [.ref q2, .int tpS])), (q2, .inl (nA2, tpN, .inl tpA)), (fZone, .inr (8, [.int zVer, .int zTic, .int zTyc, .int zLec, .int zStc, .int zUtc, .ref zTi, .ref zTt, .ref zOf, .ref zDs, .ref zIx, .ref zSd, .ref zUt, .ref zCh, .ref zLt, .ref zLo, .ref zRu])), (zSd, .inl (cAzSd, 40, .inl zSdA)), (zUt, .inl (cAzUt, 40, .inl v5_a))] → va_S A s.heap H locs → va_K (dC, dI) classes [(nA2, .byte), (cAzSd, .int), (cAzUt, .int)] s → W p l e R s m args below meth c H locs 0 0 Q (F0 m pc ls [.int r0])) {w0_0 : Int32} {w0_1 : Int32} {w0_5 : Int32} {w5_a : Nat → Int32} (hf : f_FP_readUts_0 nf tpS tpN tpA zStc zUtc zSdA w0_0 w0_1 w0_5 w5_a = some (r0, v0_0, v0_1, v0_5, v5_a)) {q2 : Nat} {nA2 : ClassId} {H : Heap} {locs : List Loc} {ls : Array Slot} (hK : va_K (dC, dI) classes [(nA2, .byte), (cAzSd, .int), (cAzUt, .int)] s) (hP : va_P (dC, dI) classes [(h0, .inr (3, [.int w0_0, .int w0_1, .ref fTape, .ref fZone, .ref fCounts, .int w0_5, .int fText])), (fTape, .inr (0, [.ref q2, .int tpS])), (q2, .inl (nA2, tpN, .inl tpA)), (fZone, .inr (8, [.int zVer, .int zTic, .int zTyc, .int zLec, .int zStc, .int zUtc, .ref zTi, .ref zTt, .ref zOf, .ref zDs, .ref zIx, .ref zSd, .ref zUt, .ref zCh, .ref zLt, .ref zLo, .ref zRu])), (zSd, .inl (cAzSd, 40, .inl zSdA)), (zUt, .inl (cAzUt, 40, .inl w5_a))] H) (hD : va_D A [(h0, .inr (3, [.int w0_0, .int w0_1, .ref fTape, .ref fZone, .ref fCounts, .int w0_5, .int fText])), (fTape, .inr (0, [.ref q2, .int tpS])), (q2, .inl (nA2, tpN, .inl tpA)), (fZone, .inr (8, [.int zVer, .int zTic, .int zTyc, .int zLec, .int zStc, .int zUtc, .ref zTi, .ref zTt, .ref zOf, .ref zDs, .ref zIx, .ref zSd, .ref zUt, .ref zCh, .ref zLt, .ref zLo, .ref zRu])), (zSd, .inl (cAzSd, 40, .inl zSdA)), (zUt, .inl (cAzUt, 40, .inl w5_a))]) (hS : va_S A s.heap H locs) (hl : lv_has ls 4 [(0, .ref h0)]) : W p l e R s m args below meth c H locs 0 0 Q (F0 m 0 ls []) := by
  obtain ⟨hx, hb, hr, hml, hown, hts, hlocks, hRf, hRl⟩ := id C0
  obtain ⟨tms, hZms, hTms, tmg, hZmg, hTmg, hNW⟩ := id hST
  unfold f_FP_readUts_0 at hf
  refine lv_aload_n hx hb d_FP_readUts_0 rfl (lv_at hl 0 rfl) ?_
  refine lv_aload_n hx hb d_FP_readUts_1 rfl (lv_at hl 0 rfl) ?_
  refine va_get (D := (dC, dI)) (ci := 3) (v := .ref fZone) (C := RFileParser) (T := TFileParser) (N := 7) hx hb hts in_FileParser hown hK hP 0 rfl rfl 3 (by decide) (hts (.fieldLink "ZoneFiles$FileParser" 15 "ZoneFiles$FileParser" "zone" "LZoneFiles$Zone;") m_3_161) (fun _ h9 => h9) rfl d_FP_readUts_2 ?_
  refine va_get (D := (dC, dI)) (ci := 8) (v := .int zUtc) (C := RZone) (T := TZone) (N := 17) hx hb hts in_Zone hown hK hP 3 rfl rfl 5 (by decide) (hts (.fieldLink "ZoneFiles$FileParser" 135 "ZoneFiles$Zone" "utCount" "I") m_1_185) (fun _ h9 => h9) rfl d_FP_readUts_5 ?_
  obtain ⟨⟨z_1, z_2, z_3⟩, hc, hf⟩ := ob hf
  have hPc := hP.sub (ws' := [(h0, .inr (3, [.int w0_0, .int w0_1, .ref fTape, .ref fZone, .ref fCounts, .int w0_5, .int fText])), (fTape, .inr (0, [.ref q2, .int tpS]))]) [0, 1] rfl
  have hDc := hD.sub (ws' := [(h0, .inr (3, [.int w0_0, .int w0_1, .ref fTape, .ref fZone, .ref fCounts, .int w0_5, .int fText])), (fTape, .inr (0, [.ref q2, .int tpS]))]) [0, 1] (by decide) rfl
  have hKc := hK.sub (tys' := []) [] rfl
  have hFc := va_free (wc := [(h0, .inr (3, [.int w0_0, .int w0_1, .ref fTape, .ref fZone, .ref fCounts, .int w0_5, .int fText])), (fTape, .inr (0, [.ref q2, .int tpS]))]) hD hS hA [0, 1] rfl
  refine cl_M (v := (some (.int z_1))) (st1 := [.int z_1]) (va_runV (As := [.int zUtc]) (rest := []) ⟨hx, hb, hml, hown, hts⟩ (c_FP_hasMore l dC dI h0 fTape fZone fCounts q2 H.size nf zUtc w0_0 w0_1 w0_5 fText tpS hc) (cwV 1 hts (gdV m_3_199 m_3_201 msel_18 m_1_16 m_3_202) rfl rfl rfl (by decide +kernel) ⟨Nat.le_trans (Nat.le_of_ble_eq_true rfl) hRf, Nat.le_trans (Nat.le_of_ble_eq_true rfl) hRl⟩) ((MU.pre hPc hKc hDc (hST.mu hS hFc)).vir (va_recv hKc hPc (ci := 3) (q0 := 0) rfl rfl)) rfl rfl hl.1 rfl (lv_room (Nat.le_of_ble_eq_true rfl)) d_FP_readUts_8 ⟨Nat.zero_le _, Nat.zero_le _⟩) rfl hS (fun q _ h => hFc q h) hFc (fun t H1 locs ht hvm hB hz1 hk1 hS => ?_)
  obtain ⟨hP1, hK1, hD1⟩ := hB
  rw [ht] at hP1
  have hK1 := va_K.moved hvm.symm hK1
  obtain ⟨hP, hD⟩ := va_join (wr := [(q2, .inl (nA2, tpN, .inl tpA)), (fZone, .inr (8, [.int zVer, .int zTic, .int zTyc, .int zLec, .int zStc, .int zUtc, .ref zTi, .ref zTt, .ref zOf, .ref zDs, .ref zIx, .ref zSd, .ref zUt, .ref zCh, .ref zLt, .ref zLo, .ref zRu])), (zSd, .inl (cAzSd, 40, .inl zSdA)), (zUt, .inl (cAzUt, 40, .inl w5_a))]) (w1 := [(h0, .inr (3, [.int z_2, .int z_3, .ref fTape, .ref fZone, .ref fCounts, .int w0_5, .int fText])), (fTape, .inr (0, [.ref q2, .int tpS]))]) hP hD [0, 1] [2, 3, 4, 5] rfl rfl (by decide) (by decide) hk1 hFc hP1 hD1
  have hK := (hK.sub (tys' := [(nA2, .byte), (cAzSd, .int), (cAzUt, .int)]) [0, 1, 2] rfl).app hK1
  generalize H1 = H at hP hS ⊢
  have hP := hP.sub (ws' := [(h0, .inr (3, [.int z_2, .int z_3, .ref fTape, .ref fZone, .ref fCounts, .int w0_5, .int fText])), (fTape, .inr (0, [.ref q2, .int tpS])), (q2, .inl (nA2, tpN, .inl tpA)), (fZone, .inr (8, [.int zVer, .int zTic, .int zTyc, .int zLec, .int zStc, .int zUtc, .ref zTi, .ref zTt, .ref zOf, .ref zDs, .ref zIx, .ref zSd, .ref zUt, .ref zCh, .ref zLt, .ref zLo, .ref zRu])), (zSd, .inl (cAzSd, 40, .inl zSdA)), (zUt, .inl (cAzUt, 40, .inl w5_a))]) [4, 5, 0, 1, 2, 3] rfl
  have hD := hD.sub (ws' := [(h0, .inr (3, [.int z_2, .int z_3, .ref fTape, .ref fZone, .ref fCounts, .int w0_5, .int fText])), (fTape, .inr (0, [.ref q2, .int tpS])), (q2, .inl (nA2, tpN, .inl tpA)), (fZone, .inr (8, [.int zVer, .int zTic, .int zTyc, .int zLec, .int zStc, .int zUtc, .ref zTi, .ref zTt, .ref zOf, .ref zDs, .ref zIx, .ref zSd, .ref zUt, .ref zCh, .ref zLt, .ref zLo, .ref zRu])), (zSd, .inl (cAzSd, 40, .inl zSdA)), (zUt, .inl (cAzUt, 40, .inl w5_a))]) [4, 5, 0, 1, 2, 3] (by decide) rfl
  have hK := hK.sub (tys' := [(nA2, .byte), (cAzSd, .int), (cAzUt, .int)]) [0, 1, 2] rfl
  refine lv_if_ne (tgt := 16) hx hb d_FP_readUts_11 (by decide) (fun c_4 => ?_) (fun c_4 => ?_)
  · have hf := it_f c_4 hf
    refine lv_iconst (v := 0) hx hb d_FP_readUts_16 (by decide) ?_
    refine lv_istore_n (lv' := [(1, .int 0), (0, .ref h0)]) hx hb d_FP_readUts_17 rfl hl (by decide) rfl (fun ls hl => ?_)
    exact k_FP_readUts_18 C0 hST hA hE nf hf hK hP hD hS (lv_sub hl [0, 1] rfl)
  · have hf := it_t c_4 hf
    refine lv_iconst (v := 0) hx hb d_FP_readUts_14 (by decide) ?_
    cases rs hf
    exact hE _ _ _ _ d_FP_readUts_15 rfl hP hD hS hK
end
set_option maxHeartbeats 400000 in
set_option maxRecDepth 100000 in
theorem c_FP_readUts (l : Launch) (dC : Nat → ClassId) (dI : Nat → Nat → Nat) (h0 : Nat) (fTape : Nat) (fZone : Nat) (fCounts : Nat) (tpR : Nat) (zTi : Nat) (zTt : Nat) (zOf : Nat) (zDs : Nat) (zIx : Nat) (zSd : Nat) (zUt : Nat) (zCh : Nat) (zLt : Nat) (zLo : Nat) (zRu : Nat) (cAtpR : ClassId) (cAzSd : ClassId) (cAzUt : ClassId) (sz : Nat) (nf : Nat) (fFault : Int32) (fPlace : Int32) (fPos : Int32) (fText : Int32) (tpS : Int32) (tpN : Nat) (tpA : Nat → Int32) (zVer : Int32) (zTic : Int32) (zTyc : Int32) (zLec : Int32) (zStc : Int32) (zUtc : Int32) (zSdA : Nat → Int32) (zUtA : Nat → Int32) {r0 : Int32} {v0_0 : Int32} {v0_1 : Int32} {v0_5 : Int32} {v5_a : Nat → Int32} (hf : f_FP_readUts nf fFault fPlace fPos tpS tpN tpA zStc zUtc zSdA zUtA = some (r0, v0_0, v0_1, v0_5, v5_a)) : Met l y_FP_readUts (wd y_FP_readUts b_FP_readUts 4 (some .boolean)) ({ frames := 2, cells := 0, slots := 0, locals := 43 }) (MU dC dI [(h0, .inr (3, [.int fFault, .int fPlace, .ref fTape, .ref fZone, .ref fCounts, .int fPos, .int fText])), (fTape, .inr (0, [.ref tpR, .int tpS])), (tpR, .inl (cAtpR, tpN, .inl tpA)), (fZone, .inr (8, [.int zVer, .int zTic, .int zTyc, .int zLec, .int zStc, .int zUtc, .ref zTi, .ref zTt, .ref zOf, .ref zDs, .ref zIx, .ref zSd, .ref zUt, .ref zCh, .ref zLt, .ref zLo, .ref zRu])), (zSd, .inl (cAzSd, 40, .inl zSdA)), (zUt, .inl (cAzUt, 40, .inl zUtA))] [(cAtpR, .byte), (cAzSd, .int), (cAzUt, .int)] sz [.ref h0]) (MV (some (.int r0)) (fun t => ∃ (q2 : Nat) (nA2 : ClassId), va_P (dC, dI) classes [(h0, .inr (3, [.int v0_0, .int v0_1, .ref fTape, .ref fZone, .ref fCounts, .int v0_5, .int fText])), (fTape, .inr (0, [.ref q2, .int tpS])), (q2, .inl (nA2, tpN, .inl tpA)), (fZone, .inr (8, [.int zVer, .int zTic, .int zTyc, .int zLec, .int zStc, .int zUtc, .ref zTi, .ref zTt, .ref zOf, .ref zDs, .ref zIx, .ref zSd, .ref zUt, .ref zCh, .ref zLt, .ref zLo, .ref zRu])), (zSd, .inl (cAzSd, 40, .inl zSdA)), (zUt, .inl (cAzUt, 40, .inl v5_a))] t.heap ∧ va_K (dC, dI) classes [(nA2, .byte), (cAzSd, .int), (cAzUt, .int)] t ∧ va_D (va_A [(h0, .inr (3, [.int fFault, .int fPlace, .ref fTape, .ref fZone, .ref fCounts, .int fPos, .int fText])), (fTape, .inr (0, [.ref tpR, .int tpS])), (tpR, .inl (cAtpR, tpN, .inl tpA)), (fZone, .inr (8, [.int zVer, .int zTic, .int zTyc, .int zLec, .int zStc, .int zUtc, .ref zTi, .ref zTt, .ref zOf, .ref zDs, .ref zIx, .ref zSd, .ref zUt, .ref zCh, .ref zLt, .ref zLo, .ref zRu])), (zSd, .inl (cAzSd, 40, .inl zSdA)), (zUt, .inl (cAzUt, 40, .inl zUtA))] sz) [(h0, .inr (3, [.int v0_0, .int v0_1, .ref fTape, .ref fZone, .ref fCounts, .int v0_5, .int fText])), (fTape, .inr (0, [.ref q2, .int tpS])), (q2, .inl (nA2, tpN, .inl tpA)), (fZone, .inr (8, [.int zVer, .int zTic, .int zTyc, .int zLec, .int zStc, .int zUtc, .ref zTi, .ref zTt, .ref zOf, .ref zDs, .ref zIx, .ref zSd, .ref zUt, .ref zCh, .ref zLt, .ref zLo, .ref zRu])), (zSd, .inl (cAzSd, 40, .inl zSdA)), (zUt, .inl (cAzUt, 40, .inl v5_a))]) (va_A [(h0, .inr (3, [.int fFault, .int fPlace, .ref fTape, .ref fZone, .ref fCounts, .int fPos, .int fText])), (fTape, .inr (0, [.ref tpR, .int tpS])), (tpR, .inl (cAtpR, tpN, .inl tpA)), (fZone, .inr (8, [.int zVer, .int zTic, .int zTyc, .int zLec, .int zStc, .int zUtc, .ref zTi, .ref zTt, .ref zOf, .ref zDs, .ref zIx, .ref zSd, .ref zUt, .ref zCh, .ref zLt, .ref zLo, .ref zRu])), (zSd, .inl (cAzSd, 40, .inl zSdA)), (zUt, .inl (cAzUt, 40, .inl zUtA))] sz)) 0 0 (va_A [(h0, .inr (3, [.int fFault, .int fPlace, .ref fTape, .ref fZone, .ref fCounts, .int fPos, .int fText])), (fTape, .inr (0, [.ref tpR, .int tpS])), (tpR, .inl (cAtpR, tpN, .inl tpA)), (fZone, .inr (8, [.int zVer, .int zTic, .int zTyc, .int zLec, .int zStc, .int zUtc, .ref zTi, .ref zTt, .ref zOf, .ref zDs, .ref zIx, .ref zSd, .ref zUt, .ref zCh, .ref zLt, .ref zLo, .ref zRu])), (zSd, .inl (cAzSd, 40, .inl zSdA)), (zUt, .inl (cAzUt, 40, .inl zUtA))] sz) :=
  met_M (plainFor_of_name (by decide)) (Nat.le_of_ble_eq_true rfl) (fun p e R s m args below meth c ls hRc hRs hsz hin C0 hST hK hP hD hl => by
    obtain ⟨hx, hb, hr, hml, hown, hts, hlocks, hRf, hRl⟩ := id C0
    subst hsz
    have hA : ∀ q : Nat, s.heap.size ≤ q → va_A [(h0, .inr (3, [.int fFault, .int fPlace, .ref fTape, .ref fZone, .ref fCounts, .int fPos, .int fText])), (fTape, .inr (0, [.ref tpR, .int tpS])), (tpR, .inl (cAtpR, tpN, .inl tpA)), (fZone, .inr (8, [.int zVer, .int zTic, .int zTyc, .int zLec, .int zStc, .int zUtc, .ref zTi, .ref zTt, .ref zOf, .ref zDs, .ref zIx, .ref zSd, .ref zUt, .ref zCh, .ref zLt, .ref zLo, .ref zRu])), (zSd, .inl (cAzSd, 40, .inl zSdA)), (zUt, .inl (cAzUt, 40, .inl zUtA))] s.heap.size q := fun q h => Or.inr h
    have hS : va_S (va_A [(h0, .inr (3, [.int fFault, .int fPlace, .ref fTape, .ref fZone, .ref fCounts, .int fPos, .int fText])), (fTape, .inr (0, [.ref tpR, .int tpS])), (tpR, .inl (cAtpR, tpN, .inl tpA)), (fZone, .inr (8, [.int zVer, .int zTic, .int zTyc, .int zLec, .int zStc, .int zUtc, .ref zTi, .ref zTt, .ref zOf, .ref zDs, .ref zIx, .ref zSd, .ref zUt, .ref zCh, .ref zLt, .ref zLo, .ref zRu])), (zSd, .inl (cAzSd, 40, .inl zSdA)), (zUt, .inl (cAzUt, 40, .inl zUtA))] s.heap.size) s.heap s.heap [] := va_S.rf
    unfold f_FP_readUts at hf
    exact k_FP_readUts_0 C0 hST hA (fun pc ls {q2} {nA2} H locs hd hn hP hD hS hK => W.zret hx hb hr hn (fun t ht hW => ⟨⟨rfl, ⟨q2, nA2, by rw [ht]; exact hP, va_K.moved hW.alike hK, hD⟩⟩, hS.F ht⟩) hS.2.2 hd) hf hK hP hD hS (lv_sub hl [0] rfl))
