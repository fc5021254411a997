theorem m_1_19 : Cond.initialized "ZoneFiles$TableParser" ∈ T0 := tb_1 19 rfl rfl
theorem m_1_40 : Cond.fieldLink "ZoneFiles$TableParser" 28 "ZoneFiles$Bytes" "size" "I" ∈ T0 := tb_1 40 rfl rfl
theorem m_2_97 : Cond.fieldLink "ZoneFiles$TableParser" 19 "ZoneFiles$LeapTable" "count" "I" ∈ T0 := tb_2 97 rfl rfl
theorem m_2_100 : Cond.fieldLink "ZoneFiles$TableParser" 49 "ZoneFiles$LeapTable" "times" "[J" ∈ T0 := tb_2 100 rfl rfl
theorem m_2_103 : Cond.fieldLink "ZoneFiles$TableParser" 97 "ZoneFiles$LeapTable" "aheads" "[J" ∈ T0 := tb_2 103 rfl rfl
theorem m_2_106 : Cond.fieldLink "ZoneFiles$TableParser" 45 "ZoneFiles$LeapTable" "expires" "J" ∈ T0 := tb_2 106 rfl rfl
theorem m_2_154 : Cond.methodLink "ZoneFiles$TableParser" 3 ⟨"java/lang/Object", "<init>", "()V"⟩ ∈ T0 := tb_2 154 rfl rfl
theorem m_2_155 : Cond.fieldLink "ZoneFiles$TableParser" 53 "ZoneFiles$TableParser" "fault" "I" ∈ T0 := tb_2 155 rfl rfl
theorem m_2_157 : Cond.fieldLink "ZoneFiles$TableParser" 56 "ZoneFiles$TableParser" "place" "I" ∈ T0 := tb_2 157 rfl rfl
theorem m_2_159 : Cond.fieldLink "ZoneFiles$TableParser" 9 "ZoneFiles$TableParser" "tape" "LZoneFiles$Bytes;" ∈ T0 := tb_2 159 rfl rfl
theorem m_2_160 : Cond.fieldLink "ZoneFiles$TableParser" 15 "ZoneFiles$TableParser" "table" "LZoneFiles$LeapTable;" ∈ T0 := tb_2 160 rfl rfl
theorem m_2_161 : Cond.fieldLink "ZoneFiles$TableParser" 25 "ZoneFiles$TableParser" "pos" "I" ∈ T0 := tb_2 161 rfl rfl
theorem m_2_162 : Cond.fieldLink "ZoneFiles$TableParser" 41 "ZoneFiles$TableParser" "hasExpiry" "Z" ∈ T0 := tb_2 162 rfl rfl
theorem m_2_180 : Cond.methodLink "ZoneFiles$TableParser" 33 ⟨"ZoneFiles$TableParser", "readLine", "()Z"⟩ ∈ T0 := tb_2 180 rfl rfl
theorem m_2_182 : Cond.instanceMethod ⟨"ZoneFiles$TableParser", "readLine", "()Z"⟩ ∈ T0 := tb_2 182 rfl rfl
theorem m_2_183 : Cond.code ⟨"ZoneFiles$TableParser", "readLine", "()Z"⟩ prog_11_method_5_code 2 (some .boolean) ∈ T0 := tb_2 183 rfl rfl
theorem m_2_184 : Cond.methodLink "ZoneFiles$TableParser" 59 ⟨"ZoneFiles$Bytes", "get", "(I)I"⟩ ∈ T0 := tb_2 184 rfl rfl
theorem m_2_185 : Cond.methodLink "ZoneFiles$TableParser" 63 ⟨"ZoneFiles$TableParser", "readExpiry", "()Z"⟩ ∈ T0 := tb_2 185 rfl rfl
theorem m_2_187 : Cond.instanceMethod ⟨"ZoneFiles$TableParser", "readExpiry", "()Z"⟩ ∈ T0 := tb_2 187 rfl rfl
theorem m_2_188 : Cond.code ⟨"ZoneFiles$TableParser", "readExpiry", "()Z"⟩ prog_11_method_6_code 4 (some .boolean) ∈ T0 := tb_2 188 rfl rfl
theorem m_2_189 : Cond.methodLink "ZoneFiles$TableParser" 79 ⟨"ZoneFiles$TableParser", "skipBlanks", "()V"⟩ ∈ T0 := tb_2 189 rfl rfl
theorem m_2_191 : Cond.instanceMethod ⟨"ZoneFiles$TableParser", "skipBlanks", "()V"⟩ ∈ T0 := tb_2 191 rfl rfl
theorem m_2_192 : Cond.code ⟨"ZoneFiles$TableParser", "skipBlanks", "()V"⟩ prog_11_method_10_code 1 none ∈ T0 := tb_2 192 rfl rfl
theorem m_2_193 : Cond.methodLink "ZoneFiles$TableParser" 88 ⟨"ZoneFiles$TableParser", "isBlank", "(I)Z"⟩ ∈ T0 := tb_2 193 rfl rfl
theorem m_2_194 : Cond.static ⟨"ZoneFiles$TableParser", "isBlank", "(I)Z"⟩ ∈ T0 := tb_2 194 rfl rfl
theorem m_2_195 : Cond.code ⟨"ZoneFiles$TableParser", "isBlank", "(I)Z"⟩ prog_11_method_13_code 1 (some .boolean) ∈ T0 := tb_2 195 rfl rfl
theorem m_2_196 : Cond.methodLink "ZoneFiles$TableParser" 82 ⟨"ZoneFiles$TableParser", "readNumber", "()J"⟩ ∈ T0 := tb_2 196 rfl rfl
theorem m_2_198 : Cond.instanceMethod ⟨"ZoneFiles$TableParser", "readNumber", "()J"⟩ ∈ T0 := tb_2 198 rfl rfl
theorem m_2_199 : Cond.code ⟨"ZoneFiles$TableParser", "readNumber", "()J"⟩ prog_11_method_9_code 5 (some .long) ∈ T0 := tb_2 199 rfl rfl
theorem m_2_203 : Cond.constantLong "ZoneFiles$TableParser" 106 10 ∈ T0 := tb_2 203 rfl rfl
theorem m_2_204 : Cond.methodLink "ZoneFiles$TableParser" 37 ⟨"ZoneFiles$TableParser", "fail", "(II)Z"⟩ ∈ T0 := tb_2 204 rfl rfl
theorem m_2_206 : Cond.instanceMethod ⟨"ZoneFiles$TableParser", "fail", "(II)Z"⟩ ∈ T0 := tb_2 206 rfl rfl
theorem m_2_207 : Cond.code ⟨"ZoneFiles$TableParser", "fail", "(II)Z"⟩ prog_11_method_4_code 3 (some .boolean) ∈ T0 := tb_2 207 rfl rfl
theorem m_2_208 : Cond.constantLong "ZoneFiles$TableParser" 108 (-1) ∈ T0 := tb_2 208 rfl rfl
theorem m_2_209 : Cond.methodLink "ZoneFiles$TableParser" 69 ⟨"ZoneFiles$TableParser", "passLineEnd", "()Z"⟩ ∈ T0 := tb_2 209 rfl rfl
theorem m_2_211 : Cond.instanceMethod ⟨"ZoneFiles$TableParser", "passLineEnd", "()Z"⟩ ∈ T0 := tb_2 211 rfl rfl
theorem m_2_212 : Cond.code ⟨"ZoneFiles$TableParser", "passLineEnd", "()Z"⟩ prog_11_method_12_code 1 (some .boolean) ∈ T0 := tb_2 212 rfl rfl
theorem m_2_213 : Cond.constantLong "ZoneFiles$TableParser" 86 2208988800 ∈ T0 := tb_2 213 rfl rfl
theorem m_2_214 : Cond.methodLink "ZoneFiles$TableParser" 66 ⟨"ZoneFiles$TableParser", "skipToLineEnd", "()V"⟩ ∈ T0 := tb_2 214 rfl rfl
theorem m_2_216 : Cond.instanceMethod ⟨"ZoneFiles$TableParser", "skipToLineEnd", "()V"⟩ ∈ T0 := tb_2 216 rfl rfl
theorem m_2_217 : Cond.code ⟨"ZoneFiles$TableParser", "skipToLineEnd", "()V"⟩ prog_11_method_11_code 1 none ∈ T0 := tb_2 217 rfl rfl
theorem m_2_218 : Cond.methodLink "ZoneFiles$TableParser" 76 ⟨"ZoneFiles$TableParser", "readRow", "()Z"⟩ ∈ T0 := tb_2 218 rfl rfl
theorem m_2_220 : Cond.instanceMethod ⟨"ZoneFiles$TableParser", "readRow", "()Z"⟩ ∈ T0 := tb_2 220 rfl rfl
theorem m_2_221 : Cond.code ⟨"ZoneFiles$TableParser", "readRow", "()Z"⟩ prog_11_method_7_code 7 (some .boolean) ∈ T0 := tb_2 221 rfl rfl
theorem m_2_222 : Cond.methodLink "ZoneFiles$TableParser" 91 ⟨"ZoneFiles$TableParser", "addRow", "(JIJI)Z"⟩ ∈ T0 := tb_2 222 rfl rfl
theorem m_2_224 : Cond.instanceMethod ⟨"ZoneFiles$TableParser", "addRow", "(JIJI)Z"⟩ ∈ T0 := tb_2 224 rfl rfl
theorem m_2_225 : Cond.code ⟨"ZoneFiles$TableParser", "addRow", "(JIJI)Z"⟩ prog_11_method_8_code 10 (some .boolean) ∈ T0 := tb_2 225 rfl rfl
theorem m_2_226 : Cond.constantLong "ZoneFiles$TableParser" 95 86400 ∈ T0 := tb_2 226 rfl rfl
theorem m_2_227 : Cond.methodLink "ZoneFiles$TableParser" 100 ⟨"java/lang/Math", "abs", "(J)J"⟩ ∈ T0 := tb_2 227 rfl rfl
theorem msel_2 : Cond.selects "ZoneFiles$TableParser" ⟨"ZoneFiles$TableParser", "readLine", "()Z"⟩ ⟨"ZoneFiles$TableParser", "readLine", "()Z"⟩ ∈ T0 := ps_1 (q := (⟨"ZoneFiles$TableParser", "readLine", "()Z"⟩, 6)) 2 rfl
theorem msel_3 : Cond.selects "ZoneFiles$TableParser" ⟨"ZoneFiles$TableParser", "readExpiry", "()Z"⟩ ⟨"ZoneFiles$TableParser", "readExpiry", "()Z"⟩ ∈ T0 := ps_1 (q := (⟨"ZoneFiles$TableParser", "readExpiry", "()Z"⟩, 6)) 3 rfl
theorem msel_4 : Cond.selects "ZoneFiles$TableParser" ⟨"ZoneFiles$TableParser", "skipBlanks", "()V"⟩ ⟨"ZoneFiles$TableParser", "skipBlanks", "()V"⟩ ∈ T0 := ps_1 (q := (⟨"ZoneFiles$TableParser", "skipBlanks", "()V"⟩, 6)) 4 rfl
theorem msel_5 : Cond.selects "ZoneFiles$TableParser" ⟨"ZoneFiles$TableParser", "readNumber", "()J"⟩ ⟨"ZoneFiles$TableParser", "readNumber", "()J"⟩ ∈ T0 := ps_1 (q := (⟨"ZoneFiles$TableParser", "readNumber", "()J"⟩, 6)) 5 rfl
theorem msel_6 : Cond.selects "ZoneFiles$TableParser" ⟨"ZoneFiles$TableParser", "fail", "(II)Z"⟩ ⟨"ZoneFiles$TableParser", "fail", "(II)Z"⟩ ∈ T0 := ps_1 (q := (⟨"ZoneFiles$TableParser", "fail", "(II)Z"⟩, 6)) 6 rfl
theorem msel_7 : Cond.selects "ZoneFiles$TableParser" ⟨"ZoneFiles$TableParser", "passLineEnd", "()Z"⟩ ⟨"ZoneFiles$TableParser", "passLineEnd", "()Z"⟩ ∈ T0 := ps_1 (q := (⟨"ZoneFiles$TableParser", "passLineEnd", "()Z"⟩, 6)) 7 rfl
theorem msel_8 : Cond.selects "ZoneFiles$TableParser" ⟨"ZoneFiles$TableParser", "skipToLineEnd", "()V"⟩ ⟨"ZoneFiles$TableParser", "skipToLineEnd", "()V"⟩ ∈ T0 := ps_1 (q := (⟨"ZoneFiles$TableParser", "skipToLineEnd", "()V"⟩, 6)) 8 rfl
theorem msel_9 : Cond.selects "ZoneFiles$TableParser" ⟨"ZoneFiles$TableParser", "readRow", "()Z"⟩ ⟨"ZoneFiles$TableParser", "readRow", "()Z"⟩ ∈ T0 := ps_1 (q := (⟨"ZoneFiles$TableParser", "readRow", "()Z"⟩, 6)) 9 rfl
theorem msel_10 : Cond.selects "ZoneFiles$TableParser" ⟨"ZoneFiles$TableParser", "addRow", "(JIJI)Z"⟩ ⟨"ZoneFiles$TableParser", "addRow", "(JIJI)Z"⟩ ∈ T0 := ps_1 (q := (⟨"ZoneFiles$TableParser", "addRow", "(JIJI)Z"⟩, 6)) 10 rfl
abbrev b_TP_fail : ByteArray := prog_11_method_4_code
def y_TP_fail : MethodName := ⟨"ZoneFiles$TableParser", "fail", "(II)Z"⟩
theorem d_TP_fail_0 : decode b_TP_fail 0 = .ok (.aload_n 0, 1) := by decide +kernel
theorem d_TP_fail_1 : decode b_TP_fail 1 = .ok (.iload_n 1, 1) := by decide +kernel
theorem d_TP_fail_2 : decode b_TP_fail 2 = .ok (.putfield 53, 3) := by decide +kernel
theorem d_TP_fail_5 : decode b_TP_fail 5 = .ok (.aload_n 0, 1) := by decide +kernel
theorem d_TP_fail_6 : decode b_TP_fail 6 = .ok (.iload_n 2, 1) := by decide +kernel
theorem d_TP_fail_7 : decode b_TP_fail 7 = .ok (.putfield 56, 3) := by decide +kernel
theorem d_TP_fail_10 : decode b_TP_fail 10 = .ok (.iconst 0, 1) := by decide +kernel
theorem d_TP_fail_11 : decode b_TP_fail 11 = .ok (.ireturn, 1) := by decide +kernel
abbrev b_TP_skipBlanks : ByteArray := prog_11_method_10_code
def y_TP_skipBlanks : MethodName := ⟨"ZoneFiles$TableParser", "skipBlanks", "()V"⟩
theorem d_TP_skipBlanks_0 : decode b_TP_skipBlanks 0 = .ok (.aload_n 0, 1) := by decide +kernel
theorem d_TP_skipBlanks_1 : decode b_TP_skipBlanks 1 = .ok (.getfield 25, 3) := by decide +kernel
theorem d_TP_skipBlanks_4 : decode b_TP_skipBlanks 4 = .ok (.aload_n 0, 1) := by decide +kernel
theorem d_TP_skipBlanks_5 : decode b_TP_skipBlanks 5 = .ok (.getfield 9, 3) := by decide +kernel
theorem d_TP_skipBlanks_8 : decode b_TP_skipBlanks 8 = .ok (.getfield 28, 3) := by decide +kernel
theorem d_TP_skipBlanks_11 : decode b_TP_skipBlanks 11 = .ok (.if_icmp .ge 33, 3) := by decide +kernel
theorem d_TP_skipBlanks_14 : decode b_TP_skipBlanks 14 = .ok (.aload_n 0, 1) := by decide +kernel
theorem d_TP_skipBlanks_15 : decode b_TP_skipBlanks 15 = .ok (.getfield 9, 3) := by decide +kernel
theorem d_TP_skipBlanks_18 : decode b_TP_skipBlanks 18 = .ok (.aload_n 0, 1) := by decide +kernel
theorem d_TP_skipBlanks_19 : decode b_TP_skipBlanks 19 = .ok (.getfield 25, 3) := by decide +kernel
theorem d_TP_skipBlanks_22 : decode b_TP_skipBlanks 22 = .ok (.invokevirtual 59, 3) := by decide +kernel
theorem d_TP_skipBlanks_25 : decode b_TP_skipBlanks 25 = .ok (.invokestatic 88, 3) := by decide +kernel
theorem d_TP_skipBlanks_28 : decode b_TP_skipBlanks 28 = .ok (.ifCond .eq 16, 3) := by decide +kernel
theorem d_TP_skipBlanks_31 : decode b_TP_skipBlanks 31 = .ok (.aload_n 0, 1) := by decide +kernel
theorem d_TP_skipBlanks_32 : decode b_TP_skipBlanks 32 = .ok (.dup, 1) := by decide +kernel
theorem d_TP_skipBlanks_33 : decode b_TP_skipBlanks 33 = .ok (.getfield 25, 3) := by decide +kernel
theorem d_TP_skipBlanks_36 : decode b_TP_skipBlanks 36 = .ok (.iconst 1, 1) := by decide +kernel
theorem d_TP_skipBlanks_37 : decode b_TP_skipBlanks 37 = .ok (.iadd, 1) := by decide +kernel
theorem d_TP_skipBlanks_38 : decode b_TP_skipBlanks 38 = .ok (.putfield 25, 3) := by decide +kernel
theorem d_TP_skipBlanks_41 : decode b_TP_skipBlanks 41 = .ok (.goto (-41), 3) := by decide +kernel
theorem d_TP_skipBlanks_44 : decode b_TP_skipBlanks 44 = .ok (.return_, 1) := by decide +kernel
abbrev b_TP_skipToLineEnd : ByteArray := prog_11_method_11_code
def y_TP_skipToLineEnd : MethodName := ⟨"ZoneFiles$TableParser", "skipToLineEnd", "()V"⟩
theorem d_TP_skipToLineEnd_0 : decode b_TP_skipToLineEnd 0 = .ok (.aload_n 0, 1) := by decide +kernel
theorem d_TP_skipToLineEnd_1 : decode b_TP_skipToLineEnd 1 = .ok (.getfield 25, 3) := by decide +kernel
theorem d_TP_skipToLineEnd_4 : decode b_TP_skipToLineEnd 4 = .ok (.aload_n 0, 1) := by decide +kernel
theorem d_TP_skipToLineEnd_5 : decode b_TP_skipToLineEnd 5 = .ok (.getfield 9, 3) := by decide +kernel
theorem d_TP_skipToLineEnd_8 : decode b_TP_skipToLineEnd 8 = .ok (.getfield 28, 3) := by decide +kernel
theorem d_TP_skipToLineEnd_11 : decode b_TP_skipToLineEnd 11 = .ok (.if_icmp .ge 32, 3) := by decide +kernel
theorem d_TP_skipToLineEnd_14 : decode b_TP_skipToLineEnd 14 = .ok (.aload_n 0, 1) := by decide +kernel
theorem d_TP_skipToLineEnd_15 : decode b_TP_skipToLineEnd 15 = .ok (.getfield 9, 3) := by decide +kernel
theorem d_TP_skipToLineEnd_18 : decode b_TP_skipToLineEnd 18 = .ok (.aload_n 0, 1) := by decide +kernel
theorem d_TP_skipToLineEnd_19 : decode b_TP_skipToLineEnd 19 = .ok (.getfield 25, 3) := by decide +kernel
theorem d_TP_skipToLineEnd_22 : decode b_TP_skipToLineEnd 22 = .ok (.invokevirtual 59, 3) := by decide +kernel
theorem d_TP_skipToLineEnd_25 : decode b_TP_skipToLineEnd 25 = .ok (.bipush 10, 2) := by decide +kernel
theorem d_TP_skipToLineEnd_27 : decode b_TP_skipToLineEnd 27 = .ok (.if_icmp .eq 16, 3) := by decide +kernel
theorem d_TP_skipToLineEnd_30 : decode b_TP_skipToLineEnd 30 = .ok (.aload_n 0, 1) := by decide +kernel
theorem d_TP_skipToLineEnd_31 : decode b_TP_skipToLineEnd 31 = .ok (.dup, 1) := by decide +kernel
theorem d_TP_skipToLineEnd_32 : decode b_TP_skipToLineEnd 32 = .ok (.getfield 25, 3) := by decide +kernel
theorem d_TP_skipToLineEnd_35 : decode b_TP_skipToLineEnd 35 = .ok (.iconst 1, 1) := by decide +kernel
theorem d_TP_skipToLineEnd_36 : decode b_TP_skipToLineEnd 36 = .ok (.iadd, 1) := by decide +kernel
theorem d_TP_skipToLineEnd_37 : decode b_TP_skipToLineEnd 37 = .ok (.putfield 25, 3) := by decide +kernel
theorem d_TP_skipToLineEnd_40 : decode b_TP_skipToLineEnd 40 = .ok (.goto (-40), 3) := by decide +kernel
theorem d_TP_skipToLineEnd_43 : decode b_TP_skipToLineEnd 43 = .ok (.return_, 1) := by decide +kernel
abbrev b_TP_passLineEnd : ByteArray := prog_11_method_12_code
def y_TP_passLineEnd : MethodName := ⟨"ZoneFiles$TableParser", "passLineEnd", "()Z"⟩
theorem d_TP_passLineEnd_0 : decode b_TP_passLineEnd 0 = .ok (.aload_n 0, 1) := by decide +kernel
theorem d_TP_passLineEnd_1 : decode b_TP_passLineEnd 1 = .ok (.getfield 9, 3) := by decide +kernel
theorem d_TP_passLineEnd_4 : decode b_TP_passLineEnd 4 = .ok (.aload_n 0, 1) := by decide +kernel
theorem d_TP_passLineEnd_5 : decode b_TP_passLineEnd 5 = .ok (.getfield 25, 3) := by decide +kernel
theorem d_TP_passLineEnd_8 : decode b_TP_passLineEnd 8 = .ok (.invokevirtual 59, 3) := by decide +kernel
theorem d_TP_passLineEnd_11 : decode b_TP_passLineEnd 11 = .ok (.bipush 10, 2) := by decide +kernel
theorem d_TP_passLineEnd_13 : decode b_TP_passLineEnd 13 = .ok (.if_icmp .eq 13, 3) := by decide +kernel
theorem d_TP_passLineEnd_16 : decode b_TP_passLineEnd 16 = .ok (.aload_n 0, 1) := by decide +kernel
theorem d_TP_passLineEnd_17 : decode b_TP_passLineEnd 17 = .ok (.iconst 1, 1) := by decide +kernel
theorem d_TP_passLineEnd_18 : decode b_TP_passLineEnd 18 = .ok (.aload_n 0, 1) := by decide +kernel
theorem d_TP_passLineEnd_19 : decode b_TP_passLineEnd 19 = .ok (.getfield 25, 3) := by decide +kernel
theorem d_TP_passLineEnd_22 : decode b_TP_passLineEnd 22 = .ok (.invokevirtual 37, 3) := by decide +kernel
theorem d_TP_passLineEnd_25 : decode b_TP_passLineEnd 25 = .ok (.ireturn, 1) := by decide +kernel
theorem d_TP_passLineEnd_26 : decode b_TP_passLineEnd 26 = .ok (.aload_n 0, 1) := by decide +kernel
theorem d_TP_passLineEnd_27 : decode b_TP_passLineEnd 27 = .ok (.dup, 1) := by decide +kernel
theorem d_TP_passLineEnd_28 : decode b_TP_passLineEnd 28 = .ok (.getfield 25, 3) := by decide +kernel
theorem d_TP_passLineEnd_31 : decode b_TP_passLineEnd 31 = .ok (.iconst 1, 1) := by decide +kernel
theorem d_TP_passLineEnd_32 : decode b_TP_passLineEnd 32 = .ok (.iadd, 1) := by decide +kernel
theorem d_TP_passLineEnd_33 : decode b_TP_passLineEnd 33 = .ok (.putfield 25, 3) := by decide +kernel
theorem d_TP_passLineEnd_36 : decode b_TP_passLineEnd 36 = .ok (.iconst 1, 1) := by decide +kernel
theorem d_TP_passLineEnd_37 : decode b_TP_passLineEnd 37 = .ok (.ireturn, 1) := by decide +kernel
abbrev b_TP_readNumber : ByteArray := prog_11_method_9_code
def y_TP_readNumber : MethodName := ⟨"ZoneFiles$TableParser", "readNumber", "()J"⟩
theorem d_TP_readNumber_0 : decode b_TP_readNumber 0 = .ok (.aload_n 0, 1) := by decide +kernel
theorem d_TP_readNumber_1 : decode b_TP_readNumber 1 = .ok (.getfield 25, 3) := by decide +kernel
theorem d_TP_readNumber_4 : decode b_TP_readNumber 4 = .ok (.istore_n 1, 1) := by decide +kernel
theorem d_TP_readNumber_5 : decode b_TP_readNumber 5 = .ok (.lconst 0, 1) := by decide +kernel
theorem d_TP_readNumber_6 : decode b_TP_readNumber 6 = .ok (.lstore_n 2, 1) := by decide +kernel
theorem d_TP_readNumber_7 : decode b_TP_readNumber 7 = .ok (.iconst 0, 1) := by decide +kernel
theorem d_TP_readNumber_8 : decode b_TP_readNumber 8 = .ok (.istore 4, 2) := by decide +kernel
theorem d_TP_readNumber_10 : decode b_TP_readNumber 10 = .ok (.iload 4, 2) := by decide +kernel
theorem d_TP_readNumber_12 : decode b_TP_readNumber 12 = .ok (.bipush 10, 2) := by decide +kernel
theorem d_TP_readNumber_14 : decode b_TP_readNumber 14 = .ok (.if_icmp .ge 58, 3) := by decide +kernel
theorem d_TP_readNumber_17 : decode b_TP_readNumber 17 = .ok (.aload_n 0, 1) := by decide +kernel
theorem d_TP_readNumber_18 : decode b_TP_readNumber 18 = .ok (.getfield 9, 3) := by decide +kernel
theorem d_TP_readNumber_21 : decode b_TP_readNumber 21 = .ok (.aload_n 0, 1) := by decide +kernel
theorem d_TP_readNumber_22 : decode b_TP_readNumber 22 = .ok (.getfield 25, 3) := by decide +kernel
theorem d_TP_readNumber_25 : decode b_TP_readNumber 25 = .ok (.invokevirtual 59, 3) := by decide +kernel
theorem d_TP_readNumber_28 : decode b_TP_readNumber 28 = .ok (.invokestatic 72, 3) := by decide +kernel
theorem d_TP_readNumber_31 : decode b_TP_readNumber 31 = .ok (.ifCond .eq 41, 3) := by decide +kernel
theorem d_TP_readNumber_34 : decode b_TP_readNumber 34 = .ok (.ldc2_w 106, 3) := by decide +kernel
theorem d_TP_readNumber_37 : decode b_TP_readNumber 37 = .ok (.lload_n 2, 1) := by decide +kernel
theorem d_TP_readNumber_38 : decode b_TP_readNumber 38 = .ok (.lmul, 1) := by decide +kernel
theorem d_TP_readNumber_39 : decode b_TP_readNumber 39 = .ok (.aload_n 0, 1) := by decide +kernel
theorem d_TP_readNumber_40 : decode b_TP_readNumber 40 = .ok (.getfield 9, 3) := by decide +kernel
theorem d_TP_readNumber_43 : decode b_TP_readNumber 43 = .ok (.aload_n 0, 1) := by decide +kernel
theorem d_TP_readNumber_44 : decode b_TP_readNumber 44 = .ok (.getfield 25, 3) := by decide +kernel
theorem d_TP_readNumber_47 : decode b_TP_readNumber 47 = .ok (.invokevirtual 59, 3) := by decide +kernel
theorem d_TP_readNumber_50 : decode b_TP_readNumber 50 = .ok (.bipush 48, 2) := by decide +kernel
theorem d_TP_readNumber_52 : decode b_TP_readNumber 52 = .ok (.isub, 1) := by decide +kernel
theorem d_TP_readNumber_53 : decode b_TP_readNumber 53 = .ok (.i2l, 1) := by decide +kernel
theorem d_TP_readNumber_54 : decode b_TP_readNumber 54 = .ok (.ladd, 1) := by decide +kernel
theorem d_TP_readNumber_55 : decode b_TP_readNumber 55 = .ok (.lstore_n 2, 1) := by decide +kernel
theorem d_TP_readNumber_56 : decode b_TP_readNumber 56 = .ok (.aload_n 0, 1) := by decide +kernel
theorem d_TP_readNumber_57 : decode b_TP_readNumber 57 = .ok (.dup, 1) := by decide +kernel
theorem d_TP_readNumber_58 : decode b_TP_readNumber 58 = .ok (.getfield 25, 3) := by decide +kernel
theorem d_TP_readNumber_61 : decode b_TP_readNumber 61 = .ok (.iconst 1, 1) := by decide +kernel
theorem d_TP_readNumber_62 : decode b_TP_readNumber 62 = .ok (.iadd, 1) := by decide +kernel
theorem d_TP_readNumber_63 : decode b_TP_readNumber 63 = .ok (.putfield 25, 3) := by decide +kernel
theorem d_TP_readNumber_66 : decode b_TP_readNumber 66 = .ok (.iinc 4 1, 3) := by decide +kernel
theorem d_TP_readNumber_69 : decode b_TP_readNumber 69 = .ok (.goto (-59), 3) := by decide +kernel
theorem d_TP_readNumber_72 : decode b_TP_readNumber 72 = .ok (.aload_n 0, 1) := by decide +kernel
theorem d_TP_readNumber_73 : decode b_TP_readNumber 73 = .ok (.getfield 25, 3) := by decide +kernel
theorem d_TP_readNumber_76 : decode b_TP_readNumber 76 = .ok (.iload_n 1, 1) := by decide +kernel
theorem d_TP_readNumber_77 : decode b_TP_readNumber 77 = .ok (.if_icmp .eq 20, 3) := by decide +kernel
theorem d_TP_readNumber_80 : decode b_TP_readNumber 80 = .ok (.aload_n 0, 1) := by decide +kernel
theorem d_TP_readNumber_81 : decode b_TP_readNumber 81 = .ok (.getfield 9, 3) := by decide +kernel
theorem d_TP_readNumber_84 : decode b_TP_readNumber 84 = .ok (.aload_n 0, 1) := by decide +kernel
theorem d_TP_readNumber_85 : decode b_TP_readNumber 85 = .ok (.getfield 25, 3) := by decide +kernel
theorem d_TP_readNumber_88 : decode b_TP_readNumber 88 = .ok (.invokevirtual 59, 3) := by decide +kernel
theorem d_TP_readNumber_91 : decode b_TP_readNumber 91 = .ok (.invokestatic 72, 3) := by decide +kernel
theorem d_TP_readNumber_94 : decode b_TP_readNumber 94 = .ok (.ifCond .eq 17, 3) := by decide +kernel
theorem d_TP_readNumber_97 : decode b_TP_readNumber 97 = .ok (.aload_n 0, 1) := by decide +kernel
theorem d_TP_readNumber_98 : decode b_TP_readNumber 98 = .ok (.iconst 1, 1) := by decide +kernel
theorem d_TP_readNumber_99 : decode b_TP_readNumber 99 = .ok (.aload_n 0, 1) := by decide +kernel
theorem d_TP_readNumber_100 : decode b_TP_readNumber 100 = .ok (.getfield 25, 3) := by decide +kernel
theorem d_TP_readNumber_103 : decode b_TP_readNumber 103 = .ok (.invokevirtual 37, 3) := by decide +kernel
theorem d_TP_readNumber_106 : decode b_TP_readNumber 106 = .ok (.pop, 1) := by decide +kernel
theorem d_TP_readNumber_107 : decode b_TP_readNumber 107 = .ok (.ldc2_w 108, 3) := by decide +kernel
theorem d_TP_readNumber_110 : decode b_TP_readNumber 110 = .ok (.lreturn, 1) := by decide +kernel
theorem d_TP_readNumber_111 : decode b_TP_readNumber 111 = .ok (.lload_n 2, 1) := by decide +kernel
theorem d_TP_readNumber_112 : decode b_TP_readNumber 112 = .ok (.lreturn, 1) := by decide +kernel
abbrev b_TP_addRow : ByteArray := prog_11_method_8_code
def y_TP_addRow : MethodName := ⟨"ZoneFiles$TableParser", "addRow", "(JIJI)Z"⟩
theorem d_TP_addRow_0 : decode b_TP_addRow 0 = .ok (.aload_n 0, 1) := by decide +kernel
theorem d_TP_addRow_1 : decode b_TP_addRow 1 = .ok (.getfield 15, 3) := by decide +kernel
theorem d_TP_addRow_4 : decode b_TP_addRow 4 = .ok (.getfield 19, 3) := by decide +kernel
theorem d_TP_addRow_7 : decode b_TP_addRow 7 = .ok (.iconst 1, 1) := by decide +kernel
theorem d_TP_addRow_8 : decode b_TP_addRow 8 = .ok (.isub, 1) := by decide +kernel
theorem d_TP_addRow_9 : decode b_TP_addRow 9 = .ok (.istore 7, 2) := by decide +kernel
theorem d_TP_addRow_11 : decode b_TP_addRow 11 = .ok (.lload_n 1, 1) := by decide +kernel
theorem d_TP_addRow_12 : decode b_TP_addRow 12 = .ok (.ldc2_w 86, 3) := by decide +kernel
theorem d_TP_addRow_15 : decode b_TP_addRow 15 = .ok (.lsub, 1) := by decide +kernel
theorem d_TP_addRow_16 : decode b_TP_addRow 16 = .ok (.lstore 8, 2) := by decide +kernel
theorem d_TP_addRow_18 : decode b_TP_addRow 18 = .ok (.lload_n 1, 1) := by decide +kernel
theorem d_TP_addRow_19 : decode b_TP_addRow 19 = .ok (.ldc2_w 95, 3) := by decide +kernel
theorem d_TP_addRow_22 : decode b_TP_addRow 22 = .ok (.lrem, 1) := by decide +kernel
theorem d_TP_addRow_23 : decode b_TP_addRow 23 = .ok (.lconst 0, 1) := by decide +kernel
theorem d_TP_addRow_24 : decode b_TP_addRow 24 = .ok (.lcmp, 1) := by decide +kernel
theorem d_TP_addRow_25 : decode b_TP_addRow 25 = .ok (.ifCond .ne 24, 3) := by decide +kernel
theorem d_TP_addRow_28 : decode b_TP_addRow 28 = .ok (.iload 7, 2) := by decide +kernel
theorem d_TP_addRow_30 : decode b_TP_addRow 30 = .ok (.ifCond .lt 26, 3) := by decide +kernel
theorem d_TP_addRow_33 : decode b_TP_addRow 33 = .ok (.lload 8, 2) := by decide +kernel
theorem d_TP_addRow_35 : decode b_TP_addRow 35 = .ok (.aload_n 0, 1) := by decide +kernel
theorem d_TP_addRow_36 : decode b_TP_addRow 36 = .ok (.getfield 15, 3) := by decide +kernel
theorem d_TP_addRow_39 : decode b_TP_addRow 39 = .ok (.getfield 49, 3) := by decide +kernel
theorem d_TP_addRow_42 : decode b_TP_addRow 42 = .ok (.iload 7, 2) := by decide +kernel
theorem d_TP_addRow_44 : decode b_TP_addRow 44 = .ok (.laload, 1) := by decide +kernel
theorem d_TP_addRow_45 : decode b_TP_addRow 45 = .ok (.lcmp, 1) := by decide +kernel
theorem d_TP_addRow_46 : decode b_TP_addRow 46 = .ok (.ifCond .gt 10, 3) := by decide +kernel
theorem d_TP_addRow_49 : decode b_TP_addRow 49 = .ok (.aload_n 0, 1) := by decide +kernel
theorem d_TP_addRow_50 : decode b_TP_addRow 50 = .ok (.iconst 2, 1) := by decide +kernel
theorem d_TP_addRow_51 : decode b_TP_addRow 51 = .ok (.iload_n 3, 1) := by decide +kernel
theorem d_TP_addRow_52 : decode b_TP_addRow 52 = .ok (.invokevirtual 37, 3) := by decide +kernel
theorem d_TP_addRow_55 : decode b_TP_addRow 55 = .ok (.ireturn, 1) := by decide +kernel
theorem d_TP_addRow_56 : decode b_TP_addRow 56 = .ok (.iload 7, 2) := by decide +kernel
theorem d_TP_addRow_58 : decode b_TP_addRow 58 = .ok (.ifCond .lt 32, 3) := by decide +kernel
theorem d_TP_addRow_61 : decode b_TP_addRow 61 = .ok (.lload 4, 2) := by decide +kernel
theorem d_TP_addRow_63 : decode b_TP_addRow 63 = .ok (.aload_n 0, 1) := by decide +kernel
theorem d_TP_addRow_64 : decode b_TP_addRow 64 = .ok (.getfield 15, 3) := by decide +kernel
theorem d_TP_addRow_67 : decode b_TP_addRow 67 = .ok (.getfield 97, 3) := by decide +kernel
theorem d_TP_addRow_70 : decode b_TP_addRow 70 = .ok (.iload 7, 2) := by decide +kernel
theorem d_TP_addRow_72 : decode b_TP_addRow 72 = .ok (.laload, 1) := by decide +kernel
theorem d_TP_addRow_73 : decode b_TP_addRow 73 = .ok (.lsub, 1) := by decide +kernel
theorem d_TP_addRow_74 : decode b_TP_addRow 74 = .ok (.invokestatic 100, 3) := by decide +kernel
theorem d_TP_addRow_77 : decode b_TP_addRow 77 = .ok (.lconst 1, 1) := by decide +kernel
theorem d_TP_addRow_78 : decode b_TP_addRow 78 = .ok (.lcmp, 1) := by decide +kernel
theorem d_TP_addRow_79 : decode b_TP_addRow 79 = .ok (.ifCond .eq 11, 3) := by decide +kernel
theorem d_TP_addRow_82 : decode b_TP_addRow 82 = .ok (.aload_n 0, 1) := by decide +kernel
theorem d_TP_addRow_83 : decode b_TP_addRow 83 = .ok (.iconst 3, 1) := by decide +kernel
theorem d_TP_addRow_84 : decode b_TP_addRow 84 = .ok (.iload 6, 2) := by decide +kernel
theorem d_TP_addRow_86 : decode b_TP_addRow 86 = .ok (.invokevirtual 37, 3) := by decide +kernel
theorem d_TP_addRow_89 : decode b_TP_addRow 89 = .ok (.ireturn, 1) := by decide +kernel
theorem d_TP_addRow_90 : decode b_TP_addRow 90 = .ok (.aload_n 0, 1) := by decide +kernel
theorem d_TP_addRow_91 : decode b_TP_addRow 91 = .ok (.getfield 15, 3) := by decide +kernel
theorem d_TP_addRow_94 : decode b_TP_addRow 94 = .ok (.getfield 19, 3) := by decide +kernel
theorem d_TP_addRow_97 : decode b_TP_addRow 97 = .ok (.bipush 60, 2) := by decide +kernel
theorem d_TP_addRow_99 : decode b_TP_addRow 99 = .ok (.if_icmp .lt 10, 3) := by decide +kernel
theorem d_TP_addRow_102 : decode b_TP_addRow 102 = .ok (.aload_n 0, 1) := by decide +kernel
theorem d_TP_addRow_103 : decode b_TP_addRow 103 = .ok (.iconst 4, 1) := by decide +kernel
theorem d_TP_addRow_104 : decode b_TP_addRow 104 = .ok (.iload_n 3, 1) := by decide +kernel
theorem d_TP_addRow_105 : decode b_TP_addRow 105 = .ok (.invokevirtual 37, 3) := by decide +kernel
theorem d_TP_addRow_108 : decode b_TP_addRow 108 = .ok (.ireturn, 1) := by decide +kernel
theorem d_TP_addRow_109 : decode b_TP_addRow 109 = .ok (.aload_n 0, 1) := by decide +kernel
theorem d_TP_addRow_110 : decode b_TP_addRow 110 = .ok (.getfield 15, 3) := by decide +kernel
theorem d_TP_addRow_113 : decode b_TP_addRow 113 = .ok (.getfield 49, 3) := by decide +kernel
theorem d_TP_addRow_116 : decode b_TP_addRow 116 = .ok (.aload_n 0, 1) := by decide +kernel
theorem d_TP_addRow_117 : decode b_TP_addRow 117 = .ok (.getfield 15, 3) := by decide +kernel
theorem d_TP_addRow_120 : decode b_TP_addRow 120 = .ok (.getfield 19, 3) := by decide +kernel
theorem d_TP_addRow_123 : decode b_TP_addRow 123 = .ok (.lload 8, 2) := by decide +kernel
theorem d_TP_addRow_125 : decode b_TP_addRow 125 = .ok (.lastore, 1) := by decide +kernel
theorem d_TP_addRow_126 : decode b_TP_addRow 126 = .ok (.aload_n 0, 1) := by decide +kernel
theorem d_TP_addRow_127 : decode b_TP_addRow 127 = .ok (.getfield 15, 3) := by decide +kernel
theorem d_TP_addRow_130 : decode b_TP_addRow 130 = .ok (.getfield 97, 3) := by decide +kernel
theorem d_TP_addRow_133 : decode b_TP_addRow 133 = .ok (.aload_n 0, 1) := by decide +kernel
theorem d_TP_addRow_134 : decode b_TP_addRow 134 = .ok (.getfield 15, 3) := by decide +kernel
theorem d_TP_addRow_137 : decode b_TP_addRow 137 = .ok (.getfield 19, 3) := by decide +kernel
theorem d_TP_addRow_140 : decode b_TP_addRow 140 = .ok (.lload 4, 2) := by decide +kernel
theorem d_TP_addRow_142 : decode b_TP_addRow 142 = .ok (.lastore, 1) := by decide +kernel
theorem d_TP_addRow_143 : decode b_TP_addRow 143 = .ok (.aload_n 0, 1) := by decide +kernel
theorem d_TP_addRow_144 : decode b_TP_addRow 144 = .ok (.getfield 15, 3) := by decide +kernel
theorem d_TP_addRow_147 : decode b_TP_addRow 147 = .ok (.dup, 1) := by decide +kernel
theorem d_TP_addRow_148 : decode b_TP_addRow 148 = .ok (.getfield 19, 3) := by decide +kernel
theorem d_TP_addRow_151 : decode b_TP_addRow 151 = .ok (.iconst 1, 1) := by decide +kernel
theorem d_TP_addRow_152 : decode b_TP_addRow 152 = .ok (.iadd, 1) := by decide +kernel
theorem d_TP_addRow_153 : decode b_TP_addRow 153 = .ok (.putfield 19, 3) := by decide +kernel
theorem d_TP_addRow_156 : decode b_TP_addRow 156 = .ok (.iconst 1, 1) := by decide +kernel
theorem d_TP_addRow_157 : decode b_TP_addRow 157 = .ok (.ireturn, 1) := by decide +kernel
abbrev b_TP_readRow : ByteArray := prog_11_method_7_code
def y_TP_readRow : MethodName := ⟨"ZoneFiles$TableParser", "readRow", "()Z"⟩
theorem d_TP_readRow_0 : decode b_TP_readRow 0 = .ok (.aload_n 0, 1) := by decide +kernel
theorem d_TP_readRow_1 : decode b_TP_readRow 1 = .ok (.getfield 25, 3) := by decide +kernel
theorem d_TP_readRow_4 : decode b_TP_readRow 4 = .ok (.istore_n 1, 1) := by decide +kernel
theorem d_TP_readRow_5 : decode b_TP_readRow 5 = .ok (.aload_n 0, 1) := by decide +kernel
theorem d_TP_readRow_6 : decode b_TP_readRow 6 = .ok (.invokevirtual 82, 3) := by decide +kernel
theorem d_TP_readRow_9 : decode b_TP_readRow 9 = .ok (.lstore_n 2, 1) := by decide +kernel
theorem d_TP_readRow_10 : decode b_TP_readRow 10 = .ok (.lload_n 2, 1) := by decide +kernel
theorem d_TP_readRow_11 : decode b_TP_readRow 11 = .ok (.lconst 0, 1) := by decide +kernel
theorem d_TP_readRow_12 : decode b_TP_readRow 12 = .ok (.lcmp, 1) := by decide +kernel
theorem d_TP_readRow_13 : decode b_TP_readRow 13 = .ok (.ifCond .ge 5, 3) := by decide +kernel
theorem d_TP_readRow_16 : decode b_TP_readRow 16 = .ok (.iconst 0, 1) := by decide +kernel
theorem d_TP_readRow_17 : decode b_TP_readRow 17 = .ok (.ireturn, 1) := by decide +kernel
theorem d_TP_readRow_18 : decode b_TP_readRow 18 = .ok (.aload_n 0, 1) := by decide +kernel
theorem d_TP_readRow_19 : decode b_TP_readRow 19 = .ok (.getfield 9, 3) := by decide +kernel
theorem d_TP_readRow_22 : decode b_TP_readRow 22 = .ok (.aload_n 0, 1) := by decide +kernel
theorem d_TP_readRow_23 : decode b_TP_readRow 23 = .ok (.getfield 25, 3) := by decide +kernel
theorem d_TP_readRow_26 : decode b_TP_readRow 26 = .ok (.invokevirtual 59, 3) := by decide +kernel
theorem d_TP_readRow_29 : decode b_TP_readRow 29 = .ok (.invokestatic 88, 3) := by decide +kernel
theorem d_TP_readRow_32 : decode b_TP_readRow 32 = .ok (.ifCond .ne 13, 3) := by decide +kernel
theorem d_TP_readRow_35 : decode b_TP_readRow 35 = .ok (.aload_n 0, 1) := by decide +kernel
theorem d_TP_readRow_36 : decode b_TP_readRow 36 = .ok (.iconst 1, 1) := by decide +kernel
theorem d_TP_readRow_37 : decode b_TP_readRow 37 = .ok (.aload_n 0, 1) := by decide +kernel
theorem d_TP_readRow_38 : decode b_TP_readRow 38 = .ok (.getfield 25, 3) := by decide +kernel
theorem d_TP_readRow_41 : decode b_TP_readRow 41 = .ok (.invokevirtual 37, 3) := by decide +kernel
theorem d_TP_readRow_44 : decode b_TP_readRow 44 = .ok (.ireturn, 1) := by decide +kernel
theorem d_TP_readRow_45 : decode b_TP_readRow 45 = .ok (.aload_n 0, 1) := by decide +kernel
theorem d_TP_readRow_46 : decode b_TP_readRow 46 = .ok (.invokevirtual 79, 3) := by decide +kernel
theorem d_TP_readRow_49 : decode b_TP_readRow 49 = .ok (.aload_n 0, 1) := by decide +kernel
theorem d_TP_readRow_50 : decode b_TP_readRow 50 = .ok (.getfield 25, 3) := by decide +kernel
theorem d_TP_readRow_53 : decode b_TP_readRow 53 = .ok (.istore 4, 2) := by decide +kernel
theorem d_TP_readRow_55 : decode b_TP_readRow 55 = .ok (.aload_n 0, 1) := by decide +kernel
theorem d_TP_readRow_56 : decode b_TP_readRow 56 = .ok (.invokevirtual 82, 3) := by decide +kernel
theorem d_TP_readRow_59 : decode b_TP_readRow 59 = .ok (.lstore 5, 2) := by decide +kernel
theorem d_TP_readRow_61 : decode b_TP_readRow 61 = .ok (.lload 5, 2) := by decide +kernel
theorem d_TP_readRow_63 : decode b_TP_readRow 63 = .ok (.lconst 0, 1) := by decide +kernel
theorem d_TP_readRow_64 : decode b_TP_readRow 64 = .ok (.lcmp, 1) := by decide +kernel
theorem d_TP_readRow_65 : decode b_TP_readRow 65 = .ok (.ifCond .ge 5, 3) := by decide +kernel
theorem d_TP_readRow_68 : decode b_TP_readRow 68 = .ok (.iconst 0, 1) := by decide +kernel
theorem d_TP_readRow_69 : decode b_TP_readRow 69 = .ok (.ireturn, 1) := by decide +kernel
theorem d_TP_readRow_70 : decode b_TP_readRow 70 = .ok (.aload_n 0, 1) := by decide +kernel
theorem d_TP_readRow_71 : decode b_TP_readRow 71 = .ok (.invokevirtual 79, 3) := by decide +kernel
theorem d_TP_readRow_74 : decode b_TP_readRow 74 = .ok (.aload_n 0, 1) := by decide +kernel
theorem d_TP_readRow_75 : decode b_TP_readRow 75 = .ok (.getfield 9, 3) := by decide +kernel
theorem d_TP_readRow_78 : decode b_TP_readRow 78 = .ok (.aload_n 0, 1) := by decide +kernel
theorem d_TP_readRow_79 : decode b_TP_readRow 79 = .ok (.getfield 25, 3) := by decide +kernel
theorem d_TP_readRow_82 : decode b_TP_readRow 82 = .ok (.invokevirtual 59, 3) := by decide +kernel
theorem d_TP_readRow_85 : decode b_TP_readRow 85 = .ok (.bipush 35, 2) := by decide +kernel
theorem d_TP_readRow_87 : decode b_TP_readRow 87 = .ok (.if_icmp .ne 7, 3) := by decide +kernel
theorem d_TP_readRow_90 : decode b_TP_readRow 90 = .ok (.aload_n 0, 1) := by decide +kernel
theorem d_TP_readRow_91 : decode b_TP_readRow 91 = .ok (.invokevirtual 66, 3) := by decide +kernel
theorem d_TP_readRow_94 : decode b_TP_readRow 94 = .ok (.aload_n 0, 1) := by decide +kernel
theorem d_TP_readRow_95 : decode b_TP_readRow 95 = .ok (.invokevirtual 69, 3) := by decide +kernel
theorem d_TP_readRow_98 : decode b_TP_readRow 98 = .ok (.ifCond .eq 20, 3) := by decide +kernel
theorem d_TP_readRow_101 : decode b_TP_readRow 101 = .ok (.aload_n 0, 1) := by decide +kernel
theorem d_TP_readRow_102 : decode b_TP_readRow 102 = .ok (.lload_n 2, 1) := by decide +kernel
theorem d_TP_readRow_103 : decode b_TP_readRow 103 = .ok (.iload_n 1, 1) := by decide +kernel
theorem d_TP_readRow_104 : decode b_TP_readRow 104 = .ok (.lload 5, 2) := by decide +kernel
theorem d_TP_readRow_106 : decode b_TP_readRow 106 = .ok (.iload 4, 2) := by decide +kernel
theorem d_TP_readRow_108 : decode b_TP_readRow 108 = .ok (.invokevirtual 91, 3) := by decide +kernel
theorem d_TP_readRow_111 : decode b_TP_readRow 111 = .ok (.ifCond .eq 7, 3) := by decide +kernel
theorem d_TP_readRow_114 : decode b_TP_readRow 114 = .ok (.iconst 1, 1) := by decide +kernel
theorem d_TP_readRow_115 : decode b_TP_readRow 115 = .ok (.goto 4, 3) := by decide +kernel
theorem d_TP_readRow_118 : decode b_TP_readRow 118 = .ok (.iconst 0, 1) := by decide +kernel
theorem d_TP_readRow_119 : decode b_TP_readRow 119 = .ok (.ireturn, 1) := by decide +kernel
abbrev b_TP_readExpiry : ByteArray := prog_11_method_6_code
def y_TP_readExpiry : MethodName := ⟨"ZoneFiles$TableParser", "readExpiry", "()Z"⟩
theorem d_TP_readExpiry_0 : decode b_TP_readExpiry 0 = .ok (.aload_n 0, 1) := by decide +kernel
theorem d_TP_readExpiry_1 : decode b_TP_readExpiry 1 = .ok (.dup, 1) := by decide +kernel
theorem d_TP_readExpiry_2 : decode b_TP_readExpiry 2 = .ok (.getfield 25, 3) := by decide +kernel
theorem d_TP_readExpiry_5 : decode b_TP_readExpiry 5 = .ok (.iconst 2, 1) := by decide +kernel
theorem d_TP_readExpiry_6 : decode b_TP_readExpiry 6 = .ok (.iadd, 1) := by decide +kernel
theorem d_TP_readExpiry_7 : decode b_TP_readExpiry 7 = .ok (.putfield 25, 3) := by decide +kernel
theorem d_TP_readExpiry_10 : decode b_TP_readExpiry 10 = .ok (.aload_n 0, 1) := by decide +kernel
theorem d_TP_readExpiry_11 : decode b_TP_readExpiry 11 = .ok (.invokevirtual 79, 3) := by decide +kernel
theorem d_TP_readExpiry_14 : decode b_TP_readExpiry 14 = .ok (.aload_n 0, 1) := by decide +kernel
theorem d_TP_readExpiry_15 : decode b_TP_readExpiry 15 = .ok (.getfield 25, 3) := by decide +kernel
theorem d_TP_readExpiry_18 : decode b_TP_readExpiry 18 = .ok (.istore_n 1, 1) := by decide +kernel
theorem d_TP_readExpiry_19 : decode b_TP_readExpiry 19 = .ok (.aload_n 0, 1) := by decide +kernel
theorem d_TP_readExpiry_20 : decode b_TP_readExpiry 20 = .ok (.invokevirtual 82, 3) := by decide +kernel
theorem d_TP_readExpiry_23 : decode b_TP_readExpiry 23 = .ok (.lstore_n 2, 1) := by decide +kernel
theorem d_TP_readExpiry_24 : decode b_TP_readExpiry 24 = .ok (.lload_n 2, 1) := by decide +kernel
theorem d_TP_readExpiry_25 : decode b_TP_readExpiry 25 = .ok (.lconst 0, 1) := by decide +kernel
theorem d_TP_readExpiry_26 : decode b_TP_readExpiry 26 = .ok (.lcmp, 1) := by decide +kernel
theorem d_TP_readExpiry_27 : decode b_TP_readExpiry 27 = .ok (.ifCond .ge 5, 3) := by decide +kernel
theorem d_TP_readExpiry_30 : decode b_TP_readExpiry 30 = .ok (.iconst 0, 1) := by decide +kernel
theorem d_TP_readExpiry_31 : decode b_TP_readExpiry 31 = .ok (.ireturn, 1) := by decide +kernel
theorem d_TP_readExpiry_32 : decode b_TP_readExpiry 32 = .ok (.aload_n 0, 1) := by decide +kernel
theorem d_TP_readExpiry_33 : decode b_TP_readExpiry 33 = .ok (.invokevirtual 79, 3) := by decide +kernel
theorem d_TP_readExpiry_36 : decode b_TP_readExpiry 36 = .ok (.aload_n 0, 1) := by decide +kernel
theorem d_TP_readExpiry_37 : decode b_TP_readExpiry 37 = .ok (.invokevirtual 69, 3) := by decide +kernel
theorem d_TP_readExpiry_40 : decode b_TP_readExpiry 40 = .ok (.ifCond .ne 5, 3) := by decide +kernel
theorem d_TP_readExpiry_43 : decode b_TP_readExpiry 43 = .ok (.iconst 0, 1) := by decide +kernel
theorem d_TP_readExpiry_44 : decode b_TP_readExpiry 44 = .ok (.ireturn, 1) := by decide +kernel
theorem d_TP_readExpiry_45 : decode b_TP_readExpiry 45 = .ok (.aload_n 0, 1) := by decide +kernel
theorem d_TP_readExpiry_46 : decode b_TP_readExpiry 46 = .ok (.getfield 41, 3) := by decide +kernel
theorem d_TP_readExpiry_49 : decode b_TP_readExpiry 49 = .ok (.ifCond .eq 10, 3) := by decide +kernel
theorem d_TP_readExpiry_52 : decode b_TP_readExpiry 52 = .ok (.aload_n 0, 1) := by decide +kernel
theorem d_TP_readExpiry_53 : decode b_TP_readExpiry 53 = .ok (.iconst 5, 1) := by decide +kernel
theorem d_TP_readExpiry_54 : decode b_TP_readExpiry 54 = .ok (.iload_n 1, 1) := by decide +kernel
theorem d_TP_readExpiry_55 : decode b_TP_readExpiry 55 = .ok (.invokevirtual 37, 3) := by decide +kernel
theorem d_TP_readExpiry_58 : decode b_TP_readExpiry 58 = .ok (.ireturn, 1) := by decide +kernel
theorem d_TP_readExpiry_59 : decode b_TP_readExpiry 59 = .ok (.aload_n 0, 1) := by decide +kernel
theorem d_TP_readExpiry_60 : decode b_TP_readExpiry 60 = .ok (.iconst 1, 1) := by decide +kernel
theorem d_TP_readExpiry_61 : decode b_TP_readExpiry 61 = .ok (.putfield 41, 3) := by decide +kernel
theorem d_TP_readExpiry_64 : decode b_TP_readExpiry 64 = .ok (.aload_n 0, 1) := by decide +kernel
theorem d_TP_readExpiry_65 : decode b_TP_readExpiry 65 = .ok (.getfield 15, 3) := by decide +kernel
theorem d_TP_readExpiry_68 : decode b_TP_readExpiry 68 = .ok (.lload_n 2, 1) := by decide +kernel
theorem d_TP_readExpiry_69 : decode b_TP_readExpiry 69 = .ok (.ldc2_w 86, 3) := by decide +kernel
theorem d_TP_readExpiry_72 : decode b_TP_readExpiry 72 = .ok (.lsub, 1) := by decide +kernel
theorem d_TP_readExpiry_73 : decode b_TP_readExpiry 73 = .ok (.putfield 45, 3) := by decide +kernel
theorem d_TP_readExpiry_76 : decode b_TP_readExpiry 76 = .ok (.iconst 1, 1) := by decide +kernel
theorem d_TP_readExpiry_77 : decode b_TP_readExpiry 77 = .ok (.ireturn, 1) := by decide +kernel
abbrev b_TP_readLine : ByteArray := prog_11_method_5_code
def y_TP_readLine : MethodName := ⟨"ZoneFiles$TableParser", "readLine", "()Z"⟩
theorem d_TP_readLine_0 : decode b_TP_readLine 0 = .ok (.aload_n 0, 1) := by decide +kernel
theorem d_TP_readLine_1 : decode b_TP_readLine 1 = .ok (.getfield 9, 3) := by decide +kernel
theorem d_TP_readLine_4 : decode b_TP_readLine 4 = .ok (.aload_n 0, 1) := by decide +kernel
theorem d_TP_readLine_5 : decode b_TP_readLine 5 = .ok (.getfield 25, 3) := by decide +kernel
theorem d_TP_readLine_8 : decode b_TP_readLine 8 = .ok (.invokevirtual 59, 3) := by decide +kernel
theorem d_TP_readLine_11 : decode b_TP_readLine 11 = .ok (.istore_n 1, 1) := by decide +kernel
theorem d_TP_readLine_12 : decode b_TP_readLine 12 = .ok (.iload_n 1, 1) := by decide +kernel
theorem d_TP_readLine_13 : decode b_TP_readLine 13 = .ok (.bipush 35, 2) := by decide +kernel
theorem d_TP_readLine_15 : decode b_TP_readLine 15 = .ok (.if_icmp .ne 35, 3) := by decide +kernel
theorem d_TP_readLine_18 : decode b_TP_readLine 18 = .ok (.aload_n 0, 1) := by decide +kernel
theorem d_TP_readLine_19 : decode b_TP_readLine 19 = .ok (.getfield 9, 3) := by decide +kernel
theorem d_TP_readLine_22 : decode b_TP_readLine 22 = .ok (.aload_n 0, 1) := by decide +kernel
theorem d_TP_readLine_23 : decode b_TP_readLine 23 = .ok (.getfield 25, 3) := by decide +kernel
theorem d_TP_readLine_26 : decode b_TP_readLine 26 = .ok (.iconst 1, 1) := by decide +kernel
theorem d_TP_readLine_27 : decode b_TP_readLine 27 = .ok (.iadd, 1) := by decide +kernel
theorem d_TP_readLine_28 : decode b_TP_readLine 28 = .ok (.invokevirtual 59, 3) := by decide +kernel
theorem d_TP_readLine_31 : decode b_TP_readLine 31 = .ok (.bipush 64, 2) := by decide +kernel
theorem d_TP_readLine_33 : decode b_TP_readLine 33 = .ok (.if_icmp .ne 8, 3) := by decide +kernel
theorem d_TP_readLine_36 : decode b_TP_readLine 36 = .ok (.aload_n 0, 1) := by decide +kernel
theorem d_TP_readLine_37 : decode b_TP_readLine 37 = .ok (.invokevirtual 63, 3) := by decide +kernel
theorem d_TP_readLine_40 : decode b_TP_readLine 40 = .ok (.ireturn, 1) := by decide +kernel
theorem d_TP_readLine_41 : decode b_TP_readLine 41 = .ok (.aload_n 0, 1) := by decide +kernel
theorem d_TP_readLine_42 : decode b_TP_readLine 42 = .ok (.invokevirtual 66, 3) := by decide +kernel
theorem d_TP_readLine_45 : decode b_TP_readLine 45 = .ok (.aload_n 0, 1) := by decide +kernel
theorem d_TP_readLine_46 : decode b_TP_readLine 46 = .ok (.invokevirtual 69, 3) := by decide +kernel
theorem d_TP_readLine_49 : decode b_TP_readLine 49 = .ok (.ireturn, 1) := by decide +kernel
theorem d_TP_readLine_50 : decode b_TP_readLine 50 = .ok (.iload_n 1, 1) := by decide +kernel
theorem d_TP_readLine_51 : decode b_TP_readLine 51 = .ok (.invokestatic 72, 3) := by decide +kernel
theorem d_TP_readLine_54 : decode b_TP_readLine 54 = .ok (.ifCond .eq 8, 3) := by decide +kernel
theorem d_TP_readLine_57 : decode b_TP_readLine 57 = .ok (.aload_n 0, 1) := by decide +kernel
theorem d_TP_readLine_58 : decode b_TP_readLine 58 = .ok (.invokevirtual 76, 3) := by decide +kernel
theorem d_TP_readLine_61 : decode b_TP_readLine 61 = .ok (.ireturn, 1) := by decide +kernel
theorem d_TP_readLine_62 : decode b_TP_readLine 62 = .ok (.aload_n 0, 1) := by decide +kernel
theorem d_TP_readLine_63 : decode b_TP_readLine 63 = .ok (.invokevirtual 79, 3) := by decide +kernel
theorem d_TP_readLine_66 : decode b_TP_readLine 66 = .ok (.aload_n 0, 1) := by decide +kernel
theorem d_TP_readLine_67 : decode b_TP_readLine 67 = .ok (.invokevirtual 69, 3) := by decide +kernel
theorem d_TP_readLine_70 : decode b_TP_readLine 70 = .ok (.ireturn, 1) := by decide +kernel
abbrev b_TP_readLines : ByteArray := prog_11_method_2_code
def y_TP_readLines : MethodName := ⟨"ZoneFiles$TableParser", "readLines", "()Z"⟩
theorem d_TP_readLines_0 : decode b_TP_readLines 0 = .ok (.aload_n 0, 1) := by decide +kernel
theorem d_TP_readLines_1 : decode b_TP_readLines 1 = .ok (.getfield 15, 3) := by decide +kernel
theorem d_TP_readLines_4 : decode b_TP_readLines 4 = .ok (.iconst 0, 1) := by decide +kernel
theorem d_TP_readLines_5 : decode b_TP_readLines 5 = .ok (.putfield 19, 3) := by decide +kernel
theorem d_TP_readLines_8 : decode b_TP_readLines 8 = .ok (.iconst 0, 1) := by decide +kernel
theorem d_TP_readLines_9 : decode b_TP_readLines 9 = .ok (.istore_n 1, 1) := by decide +kernel
theorem d_TP_readLines_10 : decode b_TP_readLines 10 = .ok (.iload_n 1, 1) := by decide +kernel
theorem d_TP_readLines_11 : decode b_TP_readLines 11 = .ok (.sipush 6000, 3) := by decide +kernel
theorem d_TP_readLines_14 : decode b_TP_readLines 14 = .ok (.if_icmp .ge 32, 3) := by decide +kernel
theorem d_TP_readLines_17 : decode b_TP_readLines 17 = .ok (.aload_n 0, 1) := by decide +kernel
theorem d_TP_readLines_18 : decode b_TP_readLines 18 = .ok (.getfield 25, 3) := by decide +kernel
theorem d_TP_readLines_21 : decode b_TP_readLines 21 = .ok (.aload_n 0, 1) := by decide +kernel
theorem d_TP_readLines_22 : decode b_TP_readLines 22 = .ok (.getfield 9, 3) := by decide +kernel
theorem d_TP_readLines_25 : decode b_TP_readLines 25 = .ok (.getfield 28, 3) := by decide +kernel
theorem d_TP_readLines_28 : decode b_TP_readLines 28 = .ok (.if_icmp .ge 18, 3) := by decide +kernel
theorem d_TP_readLines_31 : decode b_TP_readLines 31 = .ok (.aload_n 0, 1) := by decide +kernel
theorem d_TP_readLines_32 : decode b_TP_readLines 32 = .ok (.invokevirtual 33, 3) := by decide +kernel
theorem d_TP_readLines_35 : decode b_TP_readLines 35 = .ok (.ifCond .ne 5, 3) := by decide +kernel
theorem d_TP_readLines_38 : decode b_TP_readLines 38 = .ok (.iconst 0, 1) := by decide +kernel
theorem d_TP_readLines_39 : decode b_TP_readLines 39 = .ok (.ireturn, 1) := by decide +kernel
theorem d_TP_readLines_40 : decode b_TP_readLines 40 = .ok (.iinc 1 1, 3) := by decide +kernel
theorem d_TP_readLines_43 : decode b_TP_readLines 43 = .ok (.goto (-33), 3) := by decide +kernel
theorem d_TP_readLines_46 : decode b_TP_readLines 46 = .ok (.iconst 1, 1) := by decide +kernel
theorem d_TP_readLines_47 : decode b_TP_readLines 47 = .ok (.ireturn, 1) := by decide +kernel
abbrev b_TP_readEnd : ByteArray := prog_11_method_3_code
def y_TP_readEnd : MethodName := ⟨"ZoneFiles$TableParser", "readEnd", "()Z"⟩
theorem d_TP_readEnd_0 : decode b_TP_readEnd 0 = .ok (.aload_n 0, 1) := by decide +kernel
theorem d_TP_readEnd_1 : decode b_TP_readEnd 1 = .ok (.getfield 15, 3) := by decide +kernel
theorem d_TP_readEnd_4 : decode b_TP_readEnd 4 = .ok (.getfield 19, 3) := by decide +kernel
theorem d_TP_readEnd_7 : decode b_TP_readEnd 7 = .ok (.ifCond .ne 17, 3) := by decide +kernel
theorem d_TP_readEnd_10 : decode b_TP_readEnd 10 = .ok (.aload_n 0, 1) := by decide +kernel
theorem d_TP_readEnd_11 : decode b_TP_readEnd 11 = .ok (.bipush 6, 2) := by decide +kernel
theorem d_TP_readEnd_13 : decode b_TP_readEnd 13 = .ok (.aload_n 0, 1) := by decide +kernel
theorem d_TP_readEnd_14 : decode b_TP_readEnd 14 = .ok (.getfield 9, 3) := by decide +kernel
theorem d_TP_readEnd_17 : decode b_TP_readEnd 17 = .ok (.getfield 28, 3) := by decide +kernel
theorem d_TP_readEnd_20 : decode b_TP_readEnd 20 = .ok (.invokevirtual 37, 3) := by decide +kernel
theorem d_TP_readEnd_23 : decode b_TP_readEnd 23 = .ok (.ireturn, 1) := by decide +kernel
theorem d_TP_readEnd_24 : decode b_TP_readEnd 24 = .ok (.aload_n 0, 1) := by decide +kernel
theorem d_TP_readEnd_25 : decode b_TP_readEnd 25 = .ok (.getfield 41, 3) := by decide +kernel
theorem d_TP_readEnd_28 : decode b_TP_readEnd 28 = .ok (.ifCond .ne 17, 3) := by decide +kernel
theorem d_TP_readEnd_31 : decode b_TP_readEnd 31 = .ok (.aload_n 0, 1) := by decide +kernel
theorem d_TP_readEnd_32 : decode b_TP_readEnd 32 = .ok (.bipush 7, 2) := by decide +kernel
theorem d_TP_readEnd_34 : decode b_TP_readEnd 34 = .ok (.aload_n 0, 1) := by decide +kernel
theorem d_TP_readEnd_35 : decode b_TP_readEnd 35 = .ok (.getfield 9, 3) := by decide +kernel
theorem d_TP_readEnd_38 : decode b_TP_readEnd 38 = .ok (.getfield 28, 3) := by decide +kernel
theorem d_TP_readEnd_41 : decode b_TP_readEnd 41 = .ok (.invokevirtual 37, 3) := by decide +kernel
theorem d_TP_readEnd_44 : decode b_TP_readEnd 44 = .ok (.ireturn, 1) := by decide +kernel
theorem d_TP_readEnd_45 : decode b_TP_readEnd 45 = .ok (.aload_n 0, 1) := by decide +kernel
theorem d_TP_readEnd_46 : decode b_TP_readEnd 46 = .ok (.getfield 15, 3) := by decide +kernel
theorem d_TP_readEnd_49 : decode b_TP_readEnd 49 = .ok (.getfield 45, 3) := by decide +kernel
theorem d_TP_readEnd_52 : decode b_TP_readEnd 52 = .ok (.aload_n 0, 1) := by decide +kernel
theorem d_TP_readEnd_53 : decode b_TP_readEnd 53 = .ok (.getfield 15, 3) := by decide +kernel
theorem d_TP_readEnd_56 : decode b_TP_readEnd 56 = .ok (.getfield 49, 3) := by decide +kernel
theorem d_TP_readEnd_59 : decode b_TP_readEnd 59 = .ok (.aload_n 0, 1) := by decide +kernel
theorem d_TP_readEnd_60 : decode b_TP_readEnd 60 = .ok (.getfield 15, 3) := by decide +kernel
theorem d_TP_readEnd_63 : decode b_TP_readEnd 63 = .ok (.getfield 19, 3) := by decide +kernel
theorem d_TP_readEnd_66 : decode b_TP_readEnd 66 = .ok (.iconst 1, 1) := by decide +kernel
theorem d_TP_readEnd_67 : decode b_TP_readEnd 67 = .ok (.isub, 1) := by decide +kernel
theorem d_TP_readEnd_68 : decode b_TP_readEnd 68 = .ok (.laload, 1) := by decide +kernel
theorem d_TP_readEnd_69 : decode b_TP_readEnd 69 = .ok (.lcmp, 1) := by decide +kernel
theorem d_TP_readEnd_70 : decode b_TP_readEnd 70 = .ok (.ifCond .gt 19, 3) := by decide +kernel
theorem d_TP_readEnd_73 : decode b_TP_readEnd 73 = .ok (.aload_n 0, 1) := by decide +kernel
theorem d_TP_readEnd_74 : decode b_TP_readEnd 74 = .ok (.bipush 8, 2) := by decide +kernel
theorem d_TP_readEnd_76 : decode b_TP_readEnd 76 = .ok (.aload_n 0, 1) := by decide +kernel
theorem d_TP_readEnd_77 : decode b_TP_readEnd 77 = .ok (.getfield 9, 3) := by decide +kernel
theorem d_TP_readEnd_80 : decode b_TP_readEnd 80 = .ok (.getfield 28, 3) := by decide +kernel
theorem d_TP_readEnd_83 : decode b_TP_readEnd 83 = .ok (.invokevirtual 37, 3) := by decide +kernel
theorem d_TP_readEnd_86 : decode b_TP_readEnd 86 = .ok (.ifCond .eq 7, 3) := by decide +kernel
theorem d_TP_readEnd_89 : decode b_TP_readEnd 89 = .ok (.iconst 1, 1) := by decide +kernel
theorem d_TP_readEnd_90 : decode b_TP_readEnd 90 = .ok (.goto 4, 3) := by decide +kernel
theorem d_TP_readEnd_93 : decode b_TP_readEnd 93 = .ok (.iconst 0, 1) := by decide +kernel
theorem d_TP_readEnd_94 : decode b_TP_readEnd 94 = .ok (.ireturn, 1) := by decide +kernel
abbrev b_TP_init : ByteArray := prog_11_method_1_code
def y_TP_init : MethodName := ⟨"ZoneFiles$TableParser", "<init>", "(LZoneFiles$Bytes;LZoneFiles$LeapTable;)V"⟩
theorem d_TP_init_0 : decode b_TP_init 0 = .ok (.aload_n 0, 1) := by decide +kernel
theorem d_TP_init_1 : decode b_TP_init 1 = .ok (.invokespecial 3, 3) := by decide +kernel
theorem d_TP_init_4 : decode b_TP_init 4 = .ok (.aload_n 0, 1) := by decide +kernel
theorem d_TP_init_5 : decode b_TP_init 5 = .ok (.aload_n 1, 1) := by decide +kernel
theorem d_TP_init_6 : decode b_TP_init 6 = .ok (.putfield 9, 3) := by decide +kernel
theorem d_TP_init_9 : decode b_TP_init 9 = .ok (.aload_n 0, 1) := by decide +kernel
theorem d_TP_init_10 : decode b_TP_init 10 = .ok (.aload_n 2, 1) := by decide +kernel
theorem d_TP_init_11 : decode b_TP_init 11 = .ok (.putfield 15, 3) := by decide +kernel
theorem d_TP_init_14 : decode b_TP_init 14 = .ok (.return_, 1) := by decide +kernel
-- ZoneFiles$TableParser.fail(II)Z
def f_TP_fail_0 (nf : Nat) (x1 : Int32) (x2 : Int32) (w0_0 : Int32) (w0_1 : Int32) : Option (Int32 × Int32 × Int32) :=
  some (0, x1, x2)
def f_TP_fail (nf : Nat) (p0 : Int32) (p1 : Int32) (tFault : Int32) (tPlace : Int32) : Option (Int32 × Int32 × Int32) :=
  f_TP_fail_0 nf p0 p1 tFault tPlace
section
variable {p : Program} {l : Launch} {e : Env} {R : Room} {s : State} {m : MethodId} {args : Array Value} {below : List Frame} {meth : Method} {c : Code} {Q : State → Prop} {dC : Nat → ClassId} {dI : Nat → Nat → Nat} {nf : Nat} {A : Nat → Prop}
variable {h0 : Nat} {tTape : Nat} {tTable : Nat} {tFault : Int32} {tPlace : Int32} {tPos : Int32} {tHas : Int32} {r0 : Int32} {v0_0 : Int32} {v0_1 : Int32}
set_option maxHeartbeats 400000 in
set_option maxRecDepth 100000 in
theorem k_TP_fail_0 (C0 : Cx p s m meth c args R b_TP_fail "ZoneFiles$TableParser" 3 (some .boolean) 0 0) (hST : ST A s s.heap) (hA : ∀ q, s.heap.size ≤ q → A q) (hE : ∀ (pc : Nat) (ls : Array Slot) (H : Heap) (locs : List Loc), decode b_TP_fail pc = .ok (.ireturn, 1) → narrow .boolean (.int r0) = .int r0 → va_P (dC, dI) classes [(h0, .inr (7, [.int v0_0, .int v0_1, .ref tTape, .ref tTable, .int tPos, .int tHas]))] H → va_D A [(h0, .inr (7, [.int v0_0, .int v0_1, .ref tTape, .ref tTable, .int tPos, .int tHas]))] → va_S A s.heap H locs → va_K (dC, dI) classes [] s → W p l e R s m args below meth c H locs 0 0 Q (F0 m pc ls [.int r0])) {x1 : Int32} {x2 : Int32} {w0_0 : Int32} {w0_1 : Int32} (hf : f_TP_fail_0 nf x1 x2 w0_0 w0_1 = some (r0, v0_0, v0_1)) {H : Heap} {locs : List Loc} {ls : Array Slot} (hK : va_K (dC, dI) classes [] s) (hP : va_P (dC, dI) classes [(h0, .inr (7, [.int w0_0, .int w0_1, .ref tTape, .ref tTable, .int tPos, .int tHas]))] H) (hD : va_D A [(h0, .inr (7, [.int w0_0, .int w0_1, .ref tTape, .ref tTable, .int tPos, .int tHas]))]) (hS : va_S A s.heap H locs) (hl : lv_has ls 3 [(0, .ref h0), (1, .int x1), (2, .int x2)]) : W p l e R s m args below meth c H locs 0 0 Q (F0 m 0 ls []) := by
  obtain ⟨hx, hb, hr, hml, hown, hts, hlocks, hRf, hRl⟩ := id C0
  obtain ⟨tms, hZms, hTms, tmg, hZmg, hTmg, hNW⟩ := id hST
  unfold f_TP_fail_0 at hf
  refine lv_aload_n hx hb d_TP_fail_0 rfl (lv_at hl 0 rfl) ?_
  refine lv_iload_n hx hb d_TP_fail_1 rfl (lv_at hl 1 rfl) ?_
  refine va_put (D := (dC, dI)) (ci := 7) (v := .int x1) (ty := .int) (C := RTableParser) (T := TTableParser) (N := 6) hx hb hts in_TableParser tyTableParser ty_TableParser nm_TableParser hown hK hP hD hS 0 rfl rfl 0 (by decide) (hts (.fieldLink "ZoneFiles$TableParser" 53 "ZoneFiles$TableParser" "fault" "I") m_2_155) (fun _ h9 => h9) rfl (by decide +kernel) rfl rfl (Nat.le_of_ble_eq_true rfl) d_TP_fail_2 (fun H locs hP hD hS => ?_)
  have hP : va_P (dC, dI) classes [(h0, .inr (7, [.int x1, .int w0_1, .ref tTape, .ref tTable, .int tPos, .int tHas]))] H := hP
  have hD : va_D A [(h0, .inr (7, [.int x1, .int w0_1, .ref tTape, .ref tTable, .int tPos, .int tHas]))] := hD
  refine lv_aload_n hx hb d_TP_fail_5 rfl (lv_at hl 0 rfl) ?_
  refine lv_iload_n hx hb d_TP_fail_6 rfl (lv_at hl 2 rfl) ?_
  refine va_put (D := (dC, dI)) (ci := 7) (v := .int x2) (ty := .int) (C := RTableParser) (T := TTableParser) (N := 6) hx hb hts in_TableParser tyTableParser ty_TableParser nm_TableParser hown hK hP hD hS 0 rfl rfl 1 (by decide) (hts (.fieldLink "ZoneFiles$TableParser" 56 "ZoneFiles$TableParser" "place" "I") m_2_157) (fun _ h9 => h9) rfl (by decide +kernel) rfl rfl (Nat.le_of_ble_eq_true rfl) d_TP_fail_7 (fun H locs hP hD hS => ?_)
  have hP : va_P (dC, dI) classes [(h0, .inr (7, [.int x1, .int x2, .ref tTape, .ref tTable, .int tPos, .int tHas]))] H := hP
  have hD : va_D A [(h0, .inr (7, [.int x1, .int x2, .ref tTape, .ref tTable, .int tPos, .int tHas]))] := hD
  refine lv_iconst (v := 0) hx hb d_TP_fail_10 (by decide) ?_
  cases rs hf
  exact hE _ _ _ _ d_TP_fail_11 rfl hP hD hS hK
end
set_option maxHeartbeats 400000 in
set_option maxRecDepth 100000 in
theorem c_TP_fail (l : Launch) (dC : Nat → ClassId) (dI : Nat → Nat → Nat) (h0 : Nat) (tTape : Nat) (tTable : Nat) (sz : Nat) (nf : Nat) (p0 : Int32) (p1 : Int32) (tFault : Int32) (tPlace : Int32) (tPos : Int32) (tHas : Int32) {r0 : Int32} {v0_0 : Int32} {v0_1 : Int32} (hf : f_TP_fail nf p0 p1 tFault tPlace = some (r0, v0_0, v0_1)) : Met l y_TP_fail (wd y_TP_fail b_TP_fail 3 (some .boolean)) ({ frames := 0, cells := 0, slots := 0, locals := 0 }) (MU dC dI [(h0, .inr (7, [.int tFault, .int tPlace, .ref tTape, .ref tTable, .int tPos, .int tHas]))] [] sz [.ref h0, .int p0, .int p1]) (MV (some (.int r0)) (fun t => va_P (dC, dI) classes [(h0, .inr (7, [.int v0_0, .int v0_1, .ref tTape, .ref tTable, .int tPos, .int tHas]))] t.heap ∧ va_K (dC, dI) classes [] t ∧ va_D (va_A [(h0, .inr (7, [.int tFault, .int tPlace, .ref tTape, .ref tTable, .int tPos, .int tHas]))] sz) [(h0, .inr (7, [.int v0_0, .int v0_1, .ref tTape, .ref tTable, .int tPos, .int tHas]))]) (va_A [(h0, .inr (7, [.int tFault, .int tPlace, .ref tTape, .ref tTable, .int tPos, .int tHas]))] sz)) 0 0 (va_A [(h0, .inr (7, [.int tFault, .int tPlace, .ref tTape, .ref tTable, .int tPos, .int tHas]))] sz) :=
  met_M (plainFor_of_name (by decide)) (Nat.le_of_ble_eq_true rfl) (fun p e R s m args below meth c ls hRc hRs hsz hin C0 hST hK hP hD hl => by
    obtain ⟨hx, hb, hr, hml, hown, hts, hlocks, hRf, hRl⟩ := id C0
    subst hsz
    have hA : ∀ q : Nat, s.heap.size ≤ q → va_A [(h0, .inr (7, [.int tFault, .int tPlace, .ref tTape, .ref tTable, .int tPos, .int tHas]))] s.heap.size q := fun q h => Or.inr h
    have hS : va_S (va_A [(h0, .inr (7, [.int tFault, .int tPlace, .ref tTape, .ref tTable, .int tPos, .int tHas]))] s.heap.size) s.heap s.heap [] := va_S.rf
    unfold f_TP_fail at hf
    exact k_TP_fail_0 C0 hST hA (fun pc ls H locs hd hn hP hD hS hK => W.zret hx hb hr hn (fun t ht hW => ⟨⟨rfl, ⟨by rw [ht]; exact hP, va_K.moved hW.alike hK, hD⟩⟩, hS.F ht⟩) hS.2.2 hd) hf hK hP hD hS (lv_sub hl [0, 1, 2] rfl))
-- ZoneFiles$TableParser.skipBlanks()V
def f_TP_skipBlanks_44 (nf : Nat) (w0_4 : Int32) : Option (Int32) :=
  some w0_4
def f_TP_skipBlanks_0 (nf : Nat) (tpS : Int32) (tpN : Nat) (tpA : Nat → Int32) : Nat → Int32 → Option (Int32)
  | 0, _ => none
  | n + 1, w0_4 =>
    if tpS ≤ w0_4 then
    f_TP_skipBlanks_44 nf w0_4
    else
    (f_By_get nf w0_4 tpS tpN tpA).bind fun r_2 =>
      (f_TP_isBlank nf r_2).bind fun r_3 =>
      if r_3 = 0 then
      f_TP_skipBlanks_44 nf w0_4
      else
      f_TP_skipBlanks_0 nf tpS tpN tpA n (w0_4 + 1)
def f_TP_skipBlanks (nf : Nat) (tPos : Int32) (tpS : Int32) (tpN : Nat) (tpA : Nat → Int32) : Option (Int32) :=
  f_TP_skipBlanks_0 nf tpS tpN tpA nf tPos
section
variable {p : Program} {l : Launch} {e : Env} {R : Room} {s : State} {m : MethodId} {args : Array Value} {below : List Frame} {meth : Method} {c : Code} {Q : State → Prop} {dC : Nat → ClassId} {dI : Nat → Nat → Nat} {nf : Nat} {A : Nat → Prop}
variable {h0 : Nat} {tTape : Nat} {tTable : Nat} {tpR : Nat} {cAtpR : ClassId} {tFault : Int32} {tPlace : Int32} {tPos : Int32} {tHas : Int32} {tpS : Int32} {tpN : Nat} {tpA : Nat → Int32} {v0_4 : Int32}
set_option maxHeartbeats 400000 in
set_option maxRecDepth 100000 in
theorem k_TP_skipBlanks_44 (C0 : Cx p s m meth c args R b_TP_skipBlanks "ZoneFiles$TableParser" 1 none 1 21) (hST : ST A s s.heap) (hA : ∀ q, s.heap.size ≤ q → A q) (hE : ∀ (pc : Nat) (ls : Array Slot) {q2 : Nat} {nA2 : ClassId} (H : Heap) (locs : List Loc), decode b_TP_skipBlanks pc = .ok (.return_, 1) → va_P (dC, dI) classes [(h0, .inr (7, [.int tFault, .int tPlace, .ref tTape, .ref tTable, .int v0_4, .int tHas])), (tTape, .inr (0, [.ref q2, .int tpS])), (q2, .inl (nA2, tpN, .inl tpA))] H → va_D A [(h0, .inr (7, [.int tFault, .int tPlace, .ref tTape, .ref tTable, .int v0_4, .int tHas])), (tTape, .inr (0, [.ref q2, .int tpS])), (q2, .inl (nA2, tpN, .inl tpA))] → va_S A s.heap H locs → va_K (dC, dI) classes [(nA2, .byte)] s → W p l e R s m args below meth c H locs 0 0 Q (F0 m pc ls [])) {w0_4 : Int32} (hf : f_TP_skipBlanks_44 nf w0_4 = some v0_4) {q2 : Nat} {nA2 : ClassId} {H : Heap} {locs : List Loc} {ls : Array Slot} (hK : va_K (dC, dI) classes [(nA2, .byte)] s) (hP : va_P (dC, dI) classes [(h0, .inr (7, [.int tFault, .int tPlace, .ref tTape, .ref tTable, .int w0_4, .int tHas])), (tTape, .inr (0, [.ref q2, .int tpS])), (q2, .inl (nA2, tpN, .inl tpA))] H) (hD : va_D A [(h0, .inr (7, [.int tFault, .int tPlace, .ref tTape, .ref tTable, .int w0_4, .int tHas])), (tTape, .inr (0, [.ref q2, .int tpS])), (q2, .inl (nA2, tpN, .inl tpA))]) (hS : va_S A s.heap H locs) (hl : lv_has ls 1 []) : W p l e R s m args below meth c H locs 0 0 Q (F0 m 44 ls []) := by
  obtain ⟨hx, hb, hr, hml, hown, hts, hlocks, hRf, hRl⟩ := id C0
  obtain ⟨tms, hZms, hTms, tmg, hZmg, hTmg, hNW⟩ := id hST
  unfold f_TP_skipBlanks_44 at hf
  cases rs hf
  exact hE _ _ _ _ d_TP_skipBlanks_44 hP hD hS hK
set_option maxHeartbeats 400000 in
set_option maxRecDepth 100000 in
theorem k_TP_skipBlanks_0 (C0 : Cx p s m meth c args R b_TP_skipBlanks "ZoneFiles$TableParser" 1 none 1 21) (hST : ST A s s.heap) (hA : ∀ q, s.heap.size ≤ q → A q) (hE : ∀ (pc : Nat) (ls : Array Slot) {q2 : Nat} {nA2 : ClassId} (H : Heap) (locs : List Loc), decode b_TP_skipBlanks pc = .ok (.return_, 1) → va_P (dC, dI) classes [(h0, .inr (7, [.int tFault, .int tPlace, .ref tTape, .ref tTable, .int v0_4, .int tHas])), (tTape, .inr (0, [.ref q2, .int tpS])), (q2, .inl (nA2, tpN, .inl tpA))] H → va_D A [(h0, .inr (7, [.int tFault, .int tPlace, .ref tTape, .ref tTable, .int v0_4, .int tHas])), (tTape, .inr (0, [.ref q2, .int tpS])), (q2, .inl (nA2, tpN, .inl tpA))] → va_S A s.heap H locs → va_K (dC, dI) classes [(nA2, .byte)] s → W p l e R s m args below meth c H locs 0 0 Q (F0 m pc ls [])) : ∀ (n : Nat) {w0_4 : Int32}, f_TP_skipBlanks_0 nf tpS tpN tpA n w0_4 = some v0_4 → ∀ {q2 : Nat} {nA2 : ClassId} {H : Heap} {locs : List Loc} {ls : Array Slot}, va_K (dC, dI) classes [(nA2, .byte)] s → va_P (dC, dI) classes [(h0, .inr (7, [.int tFault, .int tPlace, .ref tTape, .ref tTable, .int w0_4, .int tHas])), (tTape, .inr (0, [.ref q2, .int tpS])), (q2, .inl (nA2, tpN, .inl tpA))] H → va_D A [(h0, .inr (7, [.int tFault, .int tPlace, .ref tTape, .ref tTable, .int w0_4, .int tHas])), (tTape, .inr (0, [.ref q2, .int tpS])), (q2, .inl (nA2, tpN, .inl tpA))] → va_S A s.heap H locs → lv_has ls 1 [(0, .ref h0)] → W p l e R s m args below meth c H locs 0 0 Q (F0 m 0 ls []) := by
  obtain ⟨hx, hb, hr, hml, hown, hts, hlocks, hRf, hRl⟩ := id C0
  obtain ⟨tms, hZms, hTms, tmg, hZmg, hTmg, hNW⟩ := id hST
  intro n
  induction n with
  | zero =>
    intro w0_4 hf
    exact absurd hf (by simp [f_TP_skipBlanks_0])
  | succ n ih =>
    intro w0_4 hf q2 nA2 H locs ls hK hP hD hS hl
    unfold f_TP_skipBlanks_0 at hf
    refine lv_aload_n hx hb d_TP_skipBlanks_0 rfl (lv_at hl 0 rfl) ?_
    refine va_get (D := (dC, dI)) (ci := 7) (v := .int w0_4) (C := RTableParser) (T := TTableParser) (N := 6) hx hb hts in_TableParser hown hK hP 0 rfl rfl 4 (by decide) (hts (.fieldLink "ZoneFiles$TableParser" 25 "ZoneFiles$TableParser" "pos" "I") m_2_161) (fun _ h9 => h9) rfl d_TP_skipBlanks_1 ?_
    refine lv_aload_n hx hb d_TP_skipBlanks_4 rfl (lv_at hl 0 rfl) ?_
    refine va_get (D := (dC, dI)) (ci := 7) (v := .ref tTape) (C := RTableParser) (T := TTableParser) (N := 6) hx hb hts in_TableParser hown hK hP 0 rfl rfl 2 (by decide) (hts (.fieldLink "ZoneFiles$TableParser" 9 "ZoneFiles$TableParser" "tape" "LZoneFiles$Bytes;") m_2_159) (fun _ h9 => h9) rfl d_TP_skipBlanks_5 ?_
    refine va_get (D := (dC, dI)) (ci := 0) (v := .int tpS) (C := RBytes) (T := TBytes) (N := 2) hx hb hts in_Bytes hown hK hP 1 rfl rfl 1 (by decide) (hts (.fieldLink "ZoneFiles$TableParser" 28 "ZoneFiles$Bytes" "size" "I") m_1_40) (fun _ h9 => h9) rfl d_TP_skipBlanks_8 ?_
    refine lv_icmp_ge (tgt := 44) hx hb d_TP_skipBlanks_11 (by decide) (fun c_1 => ?_) (fun c_1 => ?_)
    · have hf := it_t c_1 hf
      exact k_TP_skipBlanks_44 C0 hST hA hE hf hK hP hD hS (lv_sub hl [] rfl)
    · have hf := it_f c_1 hf
      refine lv_aload_n hx hb d_TP_skipBlanks_14 rfl (lv_at hl 0 rfl) ?_
      refine va_get (D := (dC, dI)) (ci := 7) (v := .ref tTape) (C := RTableParser) (T := TTableParser) (N := 6) hx hb hts in_TableParser hown hK hP 0 rfl rfl 2 (by decide) (hts (.fieldLink "ZoneFiles$TableParser" 9 "ZoneFiles$TableParser" "tape" "LZoneFiles$Bytes;") m_2_159) (fun _ h9 => h9) rfl d_TP_skipBlanks_15 ?_
      refine lv_aload_n hx hb d_TP_skipBlanks_18 rfl (lv_at hl 0 rfl) ?_
      refine va_get (D := (dC, dI)) (ci := 7) (v := .int w0_4) (C := RTableParser) (T := TTableParser) (N := 6) hx hb hts in_TableParser hown hK hP 0 rfl rfl 4 (by decide) (hts (.fieldLink "ZoneFiles$TableParser" 25 "ZoneFiles$TableParser" "pos" "I") m_2_161) (fun _ h9 => h9) rfl d_TP_skipBlanks_19 ?_
      obtain ⟨r_2, hc, hf⟩ := ob hf
      refine cl_S (v := (some (.int r_2))) (st1 := [.int r_2]) (va_runV (As := [.int w0_4]) (rest := []) ⟨hx, hb, hml, hown, hts⟩ (c_By_get l dC dI tTape q2 nA2 nf w0_4 tpS tpN tpA hc) (cwV 1 hts (gdV m_2_184 m_2_71 m_2_72 m_1_2 m_2_73) rfl rfl rfl (by decide +kernel) ⟨Nat.le_trans (Nat.le_of_ble_eq_true rfl) hRf, Nat.le_trans (Nat.le_of_ble_eq_true rfl) hRl⟩) ((RO.pre (hP.sub (ws' := [(tTape, .inr (0, [.ref q2, .int tpS])), (q2, .inl (nA2, tpN, .inl tpA))]) [1, 2] rfl) (hK.sub (tys' := [(nA2, .byte)]) [0] rfl) (hST.ro hS)).vir (va_recv (hK.sub (tys' := [(nA2, .byte)]) [0] rfl) (hP.sub (ws' := [(tTape, .inr (0, [.ref q2, .int tpS])), (q2, .inl (nA2, tpN, .inl tpA))]) [1, 2] rfl) (ci := 0) (q0 := 0) rfl rfl)) rfl rfl hl.1 rfl (lv_room (Nat.le_of_ble_eq_true rfl)) d_TP_skipBlanks_22 ⟨Nat.zero_le _, Nat.zero_le _⟩) rfl ?_
      obtain ⟨r_3, hc, hf⟩ := ob hf
      refine cl_S (v := (some (.int r_3))) (st1 := [.int r_3]) (va_runS (As := [.int r_2]) (rest := []) ⟨hx, hb, hml, hown, hts⟩ (c_TP_isBlank l dC dI nf r_2 hc) (va_cwS 1 hts (gdS m_2_193 m_2_194 m_1_19 m_2_195) rfl rfl rfl (by decide +kernel) ⟨Nat.le_trans (Nat.le_of_ble_eq_true rfl) hRf, Nat.le_trans (Nat.le_of_ble_eq_true rfl) hRl⟩) (RO.pre0 hK (hST.ro hS)).sta rfl rfl hl.1 rfl (lv_room (Nat.le_of_ble_eq_true rfl)) d_TP_skipBlanks_25 ⟨Nat.zero_le _, Nat.zero_le _⟩) rfl ?_
      refine lv_if_eq (tgt := 44) hx hb d_TP_skipBlanks_28 (by decide) (fun c_4 => ?_) (fun c_4 => ?_)
      · have hf := it_t c_4 hf
        exact k_TP_skipBlanks_44 C0 hST hA hE hf hK hP hD hS (lv_sub hl [] rfl)
      · have hf := it_f c_4 hf
        refine lv_aload_n hx hb d_TP_skipBlanks_31 rfl (lv_at hl 0 rfl) ?_
        refine lv_dup hx hb d_TP_skipBlanks_32 rfl ?_
        refine va_get (D := (dC, dI)) (ci := 7) (v := .int w0_4) (C := RTableParser) (T := TTableParser) (N := 6) hx hb hts in_TableParser hown hK hP 0 rfl rfl 4 (by decide) (hts (.fieldLink "ZoneFiles$TableParser" 25 "ZoneFiles$TableParser" "pos" "I") m_2_161) (fun _ h9 => h9) rfl d_TP_skipBlanks_33 ?_
        refine lv_iconst (v := 1) hx hb d_TP_skipBlanks_36 (by decide) ?_
        refine lv_iadd hx hb d_TP_skipBlanks_37 ?_
        refine va_put (D := (dC, dI)) (ci := 7) (v := .int (w0_4 + 1)) (ty := .int) (C := RTableParser) (T := TTableParser) (N := 6) hx hb hts in_TableParser tyTableParser ty_TableParser nm_TableParser hown hK hP hD hS 0 rfl rfl 4 (by decide) (hts (.fieldLink "ZoneFiles$TableParser" 25 "ZoneFiles$TableParser" "pos" "I") m_2_161) (fun _ h9 => h9) rfl (by decide +kernel) rfl rfl (Nat.le_of_ble_eq_true rfl) d_TP_skipBlanks_38 (fun H locs hP hD hS => ?_)
        have hP : va_P (dC, dI) classes [(h0, .inr (7, [.int tFault, .int tPlace, .ref tTape, .ref tTable, .int (w0_4 + 1), .int tHas])), (tTape, .inr (0, [.ref q2, .int tpS])), (q2, .inl (nA2, tpN, .inl tpA))] H := hP
        have hD : va_D A [(h0, .inr (7, [.int tFault, .int tPlace, .ref tTape, .ref tTable, .int (w0_4 + 1), .int tHas])), (tTape, .inr (0, [.ref q2, .int tpS])), (q2, .inl (nA2, tpN, .inl tpA))] := hD
        refine lv_goto (tgt := 0) hx hb d_TP_skipBlanks_41 (by decide) ?_
        exact ih hf hK hP hD hS (lv_sub hl [0] rfl)
end
set_option maxHeartbeats 400000 in
set_option maxRecDepth 100000 in
theorem c_TP_skipBlanks (l : Launch) (dC : Nat → ClassId) (dI : Nat → Nat → Nat) (h0 : Nat) (tTape : Nat) (tTable : Nat) (tpR : Nat) (cAtpR : ClassId) (sz : Nat) (nf : Nat) (tFault : Int32) (tPlace : Int32) (tPos : Int32) (tHas : Int32) (tpS : Int32) (tpN : Nat) (tpA : Nat → Int32) {v0_4 : Int32} (hf : f_TP_skipBlanks nf tPos tpS tpN tpA = some v0_4) : Met l y_TP_skipBlanks (wd y_TP_skipBlanks b_TP_skipBlanks 1 none) ({ frames := 1, cells := 0, slots := 0, locals := 21 }) (MU dC dI [(h0, .inr (7, [.int tFault, .int tPlace, .ref tTape, .ref tTable, .int tPos, .int tHas])), (tTape, .inr (0, [.ref tpR, .int tpS])), (tpR, .inl (cAtpR, tpN, .inl tpA))] [(cAtpR, .byte)] sz [.ref h0]) (MV none (fun t => ∃ (q2 : Nat) (nA2 : ClassId), va_P (dC, dI) classes [(h0, .inr (7, [.int tFault, .int tPlace, .ref tTape, .ref tTable, .int v0_4, .int tHas])), (tTape, .inr (0, [.ref q2, .int tpS])), (q2, .inl (nA2, tpN, .inl tpA))] t.heap ∧ va_K (dC, dI) classes [(nA2, .byte)] t ∧ va_D (va_A [(h0, .inr (7, [.int tFault, .int tPlace, .ref tTape, .ref tTable, .int tPos, .int tHas])), (tTape, .inr (0, [.ref tpR, .int tpS])), (tpR, .inl (cAtpR, tpN, .inl tpA))] sz) [(h0, .inr (7, [.int tFault, .int tPlace, .ref tTape, .ref tTable, .int v0_4, .int tHas])), (tTape, .inr (0, [.ref q2, .int tpS])), (q2, .inl (nA2, tpN, .inl tpA))]) (va_A [(h0, .inr (7, [.int tFault, .int tPlace, .ref tTape, .ref tTable, .int tPos, .int tHas])), (tTape, .inr (0, [.ref tpR, .int tpS])), (tpR, .inl (cAtpR, tpN, .inl tpA))] sz)) 0 0 (va_A [(h0, .inr (7, [.int tFault, .int tPlace, .ref tTape, .ref tTable, .int tPos, .int tHas])), (tTape, .inr (0, [.ref tpR, .int tpS])), (tpR, .inl (cAtpR, tpN, .inl tpA))] sz) :=
  met_M (plainFor_of_name (by decide)) (Nat.le_of_ble_eq_true rfl) (fun p e R s m args below meth c ls hRc hRs hsz hin C0 hST hK hP hD hl => by
    obtain ⟨hx, hb, hr, hml, hown, hts, hlocks, hRf, hRl⟩ := id C0
    subst hsz
    have hA : ∀ q : Nat, s.heap.size ≤ q → va_A [(h0, .inr (7, [.int tFault, .int tPlace, .ref tTape, .ref tTable, .int tPos, .int tHas])), (tTape, .inr (0, [.ref tpR, .int tpS])), (tpR, .inl (cAtpR, tpN, .inl tpA))] s.heap.size q := fun q h => Or.inr h
    have hS : va_S (va_A [(h0, .inr (7, [.int tFault, .int tPlace, .ref tTape, .ref tTable, .int tPos, .int tHas])), (tTape, .inr (0, [.ref tpR, .int tpS])), (tpR, .inl (cAtpR, tpN, .inl tpA))] s.heap.size) s.heap s.heap [] := va_S.rf
    unfold f_TP_skipBlanks at hf
    exact k_TP_skipBlanks_0 C0 hST hA (fun pc ls {q2} {nA2} H locs hd hP hD hS hK => W.vret hx hb hr (fun t ht hW => ⟨⟨rfl, ⟨q2, nA2, by rw [ht]; exact hP, va_K.moved hW.alike hK, hD⟩⟩, hS.F ht⟩) hS.2.2 hd) nf hf hK hP hD hS (lv_sub hl [0] rfl))
-- ZoneFiles$TableParser.skipToLineEnd()V
def f_TP_skipToLineEnd_43 (nf : Nat) (w0_4 : Int32) : Option (Int32) :=
  some w0_4
def f_TP_skipToLineEnd_0 (nf : Nat) (tpS : Int32) (tpN : Nat) (tpA : Nat → Int32) : Nat → Int32 → Option (Int32)
  | 0, _ => none
  | n + 1, w0_4 =>
    if tpS ≤ w0_4 then
    f_TP_skipToLineEnd_43 nf w0_4
    else
    (f_By_get nf w0_4 tpS tpN tpA).bind fun r_2 =>
      if r_2 = (10 : Int32) then
      f_TP_skipToLineEnd_43 nf w0_4
      else
      f_TP_skipToLineEnd_0 nf tpS tpN tpA n (w0_4 + 1)
def f_TP_skipToLineEnd (nf : Nat) (tPos : Int32) (tpS : Int32) (tpN : Nat) (tpA : Nat → Int32) : Option (Int32) :=
  f_TP_skipToLineEnd_0 nf tpS tpN tpA nf tPos
section
variable {p : Program} {l : Launch} {e : Env} {R : Room} {s : State} {m : MethodId} {args : Array Value} {below : List Frame} {meth : Method} {c : Code} {Q : State → Prop} {dC : Nat → ClassId} {dI : Nat → Nat → Nat} {nf : Nat} {A : Nat → Prop}
variable {h0 : Nat} {tTape : Nat} {tTable : Nat} {tpR : Nat} {cAtpR : ClassId} {tFault : Int32} {tPlace : Int32} {tPos : Int32} {tHas : Int32} {tpS : Int32} {tpN : Nat} {tpA : Nat → Int32} {v0_4 : Int32}
set_option maxHeartbeats 400000 in
set_option maxRecDepth 100000 in
theorem k_TP_skipToLineEnd_43 (C0 : Cx p s m meth c args R b_TP_skipToLineEnd "ZoneFiles$TableParser" 1 none 1 21) (hST : ST A s s.heap) (hA : ∀ q, s.heap.size ≤ q → A q) (hE : ∀ (pc : Nat) (ls : Array Slot) {q2 : Nat} {nA2 : ClassId} (H : Heap) (locs : List Loc), decode b_TP_skipToLineEnd pc = .ok (.return_, 1) → va_P (dC, dI) classes [(h0, .inr (7, [.int tFault, .int tPlace, .ref tTape, .ref tTable, .int v0_4, .int tHas])), (tTape, .inr (0, [.ref q2, .int tpS])), (q2, .inl (nA2, tpN, .inl tpA))] H → va_D A [(h0, .inr (7, [.int tFault, .int tPlace, .ref tTape, .ref tTable, .int v0_4, .int tHas])), (tTape, .inr (0, [.ref q2, .int tpS])), (q2, .inl (nA2, tpN, .inl tpA))] → va_S A s.heap H locs → va_K (dC, dI) classes [(nA2, .byte)] s → W p l e R s m args below meth c H locs 0 0 Q (F0 m pc ls [])) {w0_4 : Int32} (hf : f_TP_skipToLineEnd_43 nf w0_4 = some v0_4) {q2 : Nat} {nA2 : ClassId} {H : Heap} {locs : List Loc} {ls : Array Slot} (hK : va_K (dC, dI) classes [(nA2, .byte)] s) (hP : va_P (dC, dI) classes [(h0, .inr (7, [.int tFault, .int tPlace, .ref tTape, .ref tTable, .int w0_4, .int tHas])), (tTape, .inr (0, [.ref q2, .int tpS])), (q2, .inl (nA2, tpN, .inl tpA))] H) (hD : va_D A [(h0, .inr (7, [.int tFault, .int tPlace, .ref tTape, .ref tTable, .int w0_4, .int tHas])), (tTape, .inr (0, [.ref q2, .int tpS])), (q2, .inl (nA2, tpN, .inl tpA))]) (hS : va_S A s.heap H locs) (hl : lv_has ls 1 []) : W p l e R s m args below meth c H locs 0 0 Q (F0 m 43 ls []) := by
  obtain ⟨hx, hb, hr, hml, hown, hts, hlocks, hRf, hRl⟩ := id C0
  obtain ⟨tms, hZms, hTms, tmg, hZmg, hTmg, hNW⟩ := id hST
  unfold f_TP_skipToLineEnd_43 at hf
  cases rs hf
  exact hE _ _ _ _ d_TP_skipToLineEnd_43 hP hD hS hK
set_option maxHeartbeats 400000 in
set_option maxRecDepth 100000 in
theorem k_TP_skipToLineEnd_0 (C0 : Cx p s m meth c args R b_TP_skipToLineEnd "ZoneFiles$TableParser" 1 none 1 21) (hST : ST A s s.heap) (hA : ∀ q, s.heap.size ≤ q → A q) (hE : ∀ (pc : Nat) (ls : Array Slot) {q2 : Nat} {nA2 : ClassId} (H : Heap) (locs : List Loc), decode b_TP_skipToLineEnd pc = .ok (.return_, 1) → va_P (dC, dI) classes [(h0, .inr (7, [.int tFault, .int tPlace, .ref tTape, .ref tTable, .int v0_4, .int tHas])), (tTape, .inr (0, [.ref q2, .int tpS])), (q2, .inl (nA2, tpN, .inl tpA))] H → va_D A [(h0, .inr (7, [.int tFault, .int tPlace, .ref tTape, .ref tTable, .int v0_4, .int tHas])), (tTape, .inr (0, [.ref q2, .int tpS])), (q2, .inl (nA2, tpN, .inl tpA))] → va_S A s.heap H locs → va_K (dC, dI) classes [(nA2, .byte)] s → W p l e R s m args below meth c H locs 0 0 Q (F0 m pc ls [])) : ∀ (n : Nat) {w0_4 : Int32}, f_TP_skipToLineEnd_0 nf tpS tpN tpA n w0_4 = some v0_4 → ∀ {q2 : Nat} {nA2 : ClassId} {H : Heap} {locs : List Loc} {ls : Array Slot}, va_K (dC, dI) classes [(nA2, .byte)] s → va_P (dC, dI) classes [(h0, .inr (7, [.int tFault, .int tPlace, .ref tTape, .ref tTable, .int w0_4, .int tHas])), (tTape, .inr (0, [.ref q2, .int tpS])), (q2, .inl (nA2, tpN, .inl tpA))] H → va_D A [(h0, .inr (7, [.int tFault, .int tPlace, .ref tTape, .ref tTable, .int w0_4, .int tHas])), (tTape, .inr (0, [.ref q2, .int tpS])), (q2, .inl (nA2, tpN, .inl tpA))] → va_S A s.heap H locs → lv_has ls 1 [(0, .ref h0)] → W p l e R s m args below meth c H locs 0 0 Q (F0 m 0 ls []) := by
  obtain ⟨hx, hb, hr, hml, hown, hts, hlocks, hRf, hRl⟩ := id C0
  obtain ⟨tms, hZms, hTms, tmg, hZmg, hTmg, hNW⟩ := id hST
  intro n
  induction n with
  | zero =>
    intro w0_4 hf
    exact absurd hf (by simp [f_TP_skipToLineEnd_0])
  | succ n ih =>
    intro w0_4 hf q2 nA2 H locs ls hK hP hD hS hl
    unfold f_TP_skipToLineEnd_0 at hf
    refine lv_aload_n hx hb d_TP_skipToLineEnd_0 rfl (lv_at hl 0 rfl) ?_
    refine va_get (D := (dC, dI)) (ci := 7) (v := .int w0_4) (C := RTableParser) (T := TTableParser) (N := 6) hx hb hts in_TableParser hown hK hP 0 rfl rfl 4 (by decide) (hts (.fieldLink "ZoneFiles$TableParser" 25 "ZoneFiles$TableParser" "pos" "I") m_2_161) (fun _ h9 => h9) rfl d_TP_skipToLineEnd_1 ?_
    refine lv_aload_n hx hb d_TP_skipToLineEnd_4 rfl (lv_at hl 0 rfl) ?_
    refine va_get (D := (dC, dI)) (ci := 7) (v := .ref tTape) (C := RTableParser) (T := TTableParser) (N := 6) hx hb hts in_TableParser hown hK hP 0 rfl rfl 2 (by decide) (hts (.fieldLink "ZoneFiles$TableParser" 9 "ZoneFiles$TableParser" "tape" "LZoneFiles$Bytes;") m_2_159) (fun _ h9 => h9) rfl d_TP_skipToLineEnd_5 ?_
    refine va_get (D := (dC, dI)) (ci := 0) (v := .int tpS) (C := RBytes) (T := TBytes) (N := 2) hx hb hts in_Bytes hown hK hP 1 rfl rfl 1 (by decide) (hts (.fieldLink "ZoneFiles$TableParser" 28 "ZoneFiles$Bytes" "size" "I") m_1_40) (fun _ h9 => h9) rfl d_TP_skipToLineEnd_8 ?_
    refine lv_icmp_ge (tgt := 43) hx hb d_TP_skipToLineEnd_11 (by decide) (fun c_1 => ?_) (fun c_1 => ?_)
    · have hf := it_t c_1 hf
      exact k_TP_skipToLineEnd_43 C0 hST hA hE hf hK hP hD hS (lv_sub hl [] rfl)
    · have hf := it_f c_1 hf
      refine lv_aload_n hx hb d_TP_skipToLineEnd_14 rfl (lv_at hl 0 rfl) ?_
      refine va_get (D := (dC, dI)) (ci := 7) (v := .ref tTape) (C := RTableParser) (T := TTableParser) (N := 6) hx hb hts in_TableParser hown hK hP 0 rfl rfl 2 (by decide) (hts (.fieldLink "ZoneFiles$TableParser" 9 "ZoneFiles$TableParser" "tape" "LZoneFiles$Bytes;") m_2_159) (fun _ h9 => h9) rfl d_TP_skipToLineEnd_15 ?_
      refine lv_aload_n hx hb d_TP_skipToLineEnd_18 rfl (lv_at hl 0 rfl) ?_
      refine va_get (D := (dC, dI)) (ci := 7) (v := .int w0_4) (C := RTableParser) (T := TTableParser) (N := 6) hx hb hts in_TableParser hown hK hP 0 rfl rfl 4 (by decide) (hts (.fieldLink "ZoneFiles$TableParser" 25 "ZoneFiles$TableParser" "pos" "I") m_2_161) (fun _ h9 => h9) rfl d_TP_skipToLineEnd_19 ?_
      obtain ⟨r_2, hc, hf⟩ := ob hf
      refine cl_S (v := (some (.int r_2))) (st1 := [.int r_2]) (va_runV (As := [.int w0_4]) (rest := []) ⟨hx, hb, hml, hown, hts⟩ (c_By_get l dC dI tTape q2 nA2 nf w0_4 tpS tpN tpA hc) (cwV 1 hts (gdV m_2_184 m_2_71 m_2_72 m_1_2 m_2_73) rfl rfl rfl (by decide +kernel) ⟨Nat.le_trans (Nat.le_of_ble_eq_true rfl) hRf, Nat.le_trans (Nat.le_of_ble_eq_true rfl) hRl⟩) ((RO.pre (hP.sub (ws' := [(tTape, .inr (0, [.ref q2, .int tpS])), (q2, .inl (nA2, tpN, .inl tpA))]) [1, 2] rfl) (hK.sub (tys' := [(nA2, .byte)]) [0] rfl) (hST.ro hS)).vir (va_recv (hK.sub (tys' := [(nA2, .byte)]) [0] rfl) (hP.sub (ws' := [(tTape, .inr (0, [.ref q2, .int tpS])), (q2, .inl (nA2, tpN, .inl tpA))]) [1, 2] rfl) (ci := 0) (q0 := 0) rfl rfl)) rfl rfl hl.1 rfl (lv_room (Nat.le_of_ble_eq_true rfl)) d_TP_skipToLineEnd_22 ⟨Nat.zero_le _, Nat.zero_le _⟩) rfl ?_
      refine lv_bipush (v := 10) hx hb d_TP_skipToLineEnd_25 (by decide) ?_
      refine lv_icmp_eq (tgt := 43) hx hb d_TP_skipToLineEnd_27 (by decide) (fun c_3 => ?_) (fun c_3 => ?_)
      · have hf := it_t c_3 hf
        exact k_TP_skipToLineEnd_43 C0 hST hA hE hf hK hP hD hS (lv_sub hl [] rfl)
      · have hf := it_f c_3 hf
        refine lv_aload_n hx hb d_TP_skipToLineEnd_30 rfl (lv_at hl 0 rfl) ?_
        refine lv_dup hx hb d_TP_skipToLineEnd_31 rfl ?_
        refine va_get (D := (dC, dI)) (ci := 7) (v := .int w0_4) (C := RTableParser) (T := TTableParser) (N := 6) hx hb hts in_TableParser hown hK hP 0 rfl rfl 4 (by decide) (hts (.fieldLink "ZoneFiles$TableParser" 25 "ZoneFiles$TableParser" "pos" "I") m_2_161) (fun _ h9 => h9) rfl d_TP_skipToLineEnd_32 ?_
        refine lv_iconst (v := 1) hx hb d_TP_skipToLineEnd_35 (by decide) ?_
        refine lv_iadd hx hb d_TP_skipToLineEnd_36 ?_
        refine va_put (D := (dC, dI)) (ci := 7) (v := .int (w0_4 + 1)) (ty := .int) (C := RTableParser) (T := TTableParser) (N := 6) hx hb hts in_TableParser tyTableParser ty_TableParser nm_TableParser hown hK hP hD hS 0 rfl rfl 4 (by decide) (hts (.fieldLink "ZoneFiles$TableParser" 25 "ZoneFiles$TableParser" "pos" "I") m_2_161) (fun _ h9 => h9) rfl (by decide +kernel) rfl rfl (Nat.le_of_ble_eq_true rfl) d_TP_skipToLineEnd_37 (fun H locs hP hD hS => ?_)
        have hP : va_P (dC, dI) classes [(h0, .inr (7, [.int tFault, .int tPlace, .ref tTape, .ref tTable, .int (w0_4 + 1), .int tHas])), (tTape, .inr (0, [.ref q2, .int tpS])), (q2, .inl (nA2, tpN, .inl tpA))] H := hP
        have hD : va_D A [(h0, .inr (7, [.int tFault, .int tPlace, .ref tTape, .ref tTable, .int (w0_4 + 1), .int tHas])), (tTape, .inr (0, [.ref q2, .int tpS])), (q2, .inl (nA2, tpN, .inl tpA))] := hD
        refine lv_goto (tgt := 0) hx hb d_TP_skipToLineEnd_40 (by decide) ?_
        exact ih hf hK hP hD hS (lv_sub hl [0] rfl)
end
set_option maxHeartbeats 400000 in
set_option maxRecDepth 100000 in
theorem c_TP_skipToLineEnd (l : Launch) (dC : Nat → ClassId) (dI : Nat → Nat → Nat) (h0 : Nat) (tTape : Nat) (tTable : Nat) (tpR : Nat) (cAtpR : ClassId) (sz : Nat) (nf : Nat) (tFault : Int32) (tPlace : Int32) (tPos : Int32) (tHas : Int32) (tpS : Int32) (tpN : Nat) (tpA : Nat → Int32) {v0_4 : Int32} (hf : f_TP_skipToLineEnd nf tPos tpS tpN tpA = some v0_4) : Met l y_TP_skipToLineEnd (wd y_TP_skipToLineEnd b_TP_skipToLineEnd 1 none) ({ frames := 1, cells := 0, slots := 0, locals := 21 }) (MU dC dI [(h0, .inr (7, [.int tFault, .int tPlace, .ref tTape, .ref tTable, .int tPos, .int tHas])), (tTape, .inr (0, [.ref tpR, .int tpS])), (tpR, .inl (cAtpR, tpN, .inl tpA))] [(cAtpR, .byte)] sz [.ref h0]) (MV none (fun t => ∃ (q2 : Nat) (nA2 : ClassId), va_P (dC, dI) classes [(h0, .inr (7, [.int tFault, .int tPlace, .ref tTape, .ref tTable, .int v0_4, .int tHas])), (tTape, .inr (0, [.ref q2, .int tpS])), (q2, .inl (nA2, tpN, .inl tpA))] t.heap ∧ va_K (dC, dI) classes [(nA2, .byte)] t ∧ va_D (va_A [(h0, .inr (7, [.int tFault, .int tPlace, .ref tTape, .ref tTable, .int tPos, .int tHas])), (tTape, .inr (0, [.ref tpR, .int tpS])), (tpR, .inl (cAtpR, tpN, .inl tpA))] sz) [(h0, .inr (7, [.int tFault, .int tPlace, .ref tTape, .ref tTable, .int v0_4, .int tHas])), (tTape, .inr (0, [.ref q2, .int tpS])), (q2, .inl (nA2, tpN, .inl tpA))]) (va_A [(h0, .inr (7, [.int tFault, .int tPlace, .ref tTape, .ref tTable, .int tPos, .int tHas])), (tTape, .inr (0, [.ref tpR, .int tpS])), (tpR, .inl (cAtpR, tpN, .inl tpA))] sz)) 0 0 (va_A [(h0, .inr (7, [.int tFault, .int tPlace, .ref tTape, .ref tTable, .int tPos, .int tHas])), (tTape, .inr (0, [.ref tpR, .int tpS])), (tpR, .inl (cAtpR, tpN, .inl tpA))] sz) :=
  met_M (plainFor_of_name (by decide)) (Nat.le_of_ble_eq_true rfl) (fun p e R s m args below meth c ls hRc hRs hsz hin C0 hST hK hP hD hl => by
    obtain ⟨hx, hb, hr, hml, hown, hts, hlocks, hRf, hRl⟩ := id C0
    subst hsz
    have hA : ∀ q : Nat, s.heap.size ≤ q → va_A [(h0, .inr (7, [.int tFault, .int tPlace, .ref tTape, .ref tTable, .int tPos, .int tHas])), (tTape, .inr (0, [.ref tpR, .int tpS])), (tpR, .inl (cAtpR, tpN, .inl tpA))] s.heap.size q := fun q h => Or.inr h
    have hS : va_S (va_A [(h0, .inr (7, [.int tFault, .int tPlace, .ref tTape, .ref tTable, .int tPos, .int tHas])), (tTape, .inr (0, [.ref tpR, .int tpS])), (tpR, .inl (cAtpR, tpN, .inl tpA))] s.heap.size) s.heap s.heap [] := va_S.rf
    unfold f_TP_skipToLineEnd at hf
    exact k_TP_skipToLineEnd_0 C0 hST hA (fun pc ls {q2} {nA2} H locs hd hP hD hS hK => W.vret hx hb hr (fun t ht hW => ⟨⟨rfl, ⟨q2, nA2, by rw [ht]; exact hP, va_K.moved hW.alike hK, hD⟩⟩, hS.F ht⟩) hS.2.2 hd) nf hf hK hP hD hS (lv_sub hl [0] rfl))
-- ZoneFiles$TableParser.passLineEnd()Z
def f_TP_passLineEnd_0 (nf : Nat) (tpS : Int32) (tpN : Nat) (tpA : Nat → Int32) (w0_0 : Int32) (w0_1 : Int32) (w0_4 : Int32) : Option (Int32 × Int32 × Int32 × Int32) :=
  (f_By_get nf w0_4 tpS tpN tpA).bind fun r_1 =>
  if r_1 = (10 : Int32) then
  some (1, w0_0, w0_1, w0_4 + 1)
  else
  (f_TP_fail nf 1 w0_4 w0_0 w0_1).bind fun (z_3, z_4, z_5) =>
    if z_3 = 0 ∨ z_3 = 1 then some (z_3, z_4, z_5, w0_4) else none
def f_TP_passLineEnd (nf : Nat) (tFault : Int32) (tPlace : Int32) (tPos : Int32) (tpS : Int32) (tpN : Nat) (tpA : Nat → Int32) : Option (Int32 × Int32 × Int32 × Int32) :=
  f_TP_passLineEnd_0 nf tpS tpN tpA tFault tPlace tPos
section
variable {p : Program} {l : Launch} {e : Env} {R : Room} {s : State} {m : MethodId} {args : Array Value} {below : List Frame} {meth : Method} {c : Code} {Q : State → Prop} {dC : Nat → ClassId} {dI : Nat → Nat → Nat} {nf : Nat} {A : Nat → Prop}
variable {h0 : Nat} {tTape : Nat} {tTable : Nat} {tpR : Nat} {cAtpR : ClassId} {tFault : Int32} {tPlace : Int32} {tPos : Int32} {tHas : Int32} {tpS : Int32} {tpN : Nat} {tpA : Nat → Int32} {r0 : Int32} {v0_0 : Int32} {v0_1 : Int32} {v0_4 : Int32}
set_option maxHeartbeats 400000 in
set_option maxRecDepth 100000 in
theorem k_TP_passLineEnd_0 (C0 : Cx p s m meth c args R b_TP_passLineEnd "ZoneFiles$TableParser" 1 (some .boolean) 1 22) (hST : ST A s s.heap) (hA : ∀ q, s.heap.size ≤ q → A q) (hE : ∀ (pc : Nat) (ls : Array Slot) {q2 : Nat} {nA2 : ClassId} (H : Heap) (locs : List Loc), decode b_TP_passLineEnd pc = .ok (.ireturn, 1) → narrow .boolean (.int r0) = .int r0 → va_P (dC, dI) classes [(h0, .inr (7, [.int v0_0, .int v0_1, .ref tTape, .ref tTable, .int v0_4, .int tHas])), (tTape, .inr (0, [.ref q2, .int tpS])), (q2, .inl (nA2, tpN, .inl tpA))] H → va_D A [(h0, .inr (7, [.int v0_0, .int v0_1, .ref tTape, .ref tTable, .int v0_4, .int tHas])), (tTape, .inr (0, [.ref q2, .int tpS])), (q2, .inl (nA2, tpN, .inl tpA))] → va_S A s.heap H locs → va_K (dC, dI) classes [(nA2, .byte)] s → W p l e R s m args below meth c H locs 0 0 Q (F0 m pc ls [.int r0])) {w0_0 : Int32} {w0_1 : Int32} {w0_4 : Int32} (hf : f_TP_passLineEnd_0 nf tpS tpN tpA w0_0 w0_1 w0_4 = some (r0, v0_0, v0_1, v0_4)) {q2 : Nat} {nA2 : ClassId} {H : Heap} {locs : List Loc} {ls : Array Slot} (hK : va_K (dC, dI) classes [(nA2, .byte)] s) (hP : va_P (dC, dI) classes [(h0, .inr (7, [.int w0_0, .int w0_1, .ref tTape, .ref tTable, .int w0_4, .int tHas])), (tTape, .inr (0, [.ref q2, .int tpS])), (q2, .inl (nA2, tpN, .inl tpA))] H) (hD : va_D A [(h0, .inr (7, [.int w0_0, .int w0_1, .ref tTape, .ref tTable, .int w0_4, .int tHas])), (tTape, .inr (0, [.ref q2, .int tpS])), (q2, .inl (nA2, tpN, .inl tpA))]) (hS : va_S A s.heap H locs) (hl : lv_has ls 1 [(0, .ref h0)]) : W p l e R s m args below meth c H locs 0 0 Q (F0 m 0 ls []) := by
  obtain ⟨hx, hb, hr, hml, hown, hts, hlocks, hRf, hRl⟩ := id C0
  obtain ⟨tms, hZms, hTms, tmg, hZmg, hTmg, hNW⟩ := id hST
  unfold f_TP_passLineEnd_0 at hf
  refine lv_aload_n hx hb d_TP_passLineEnd_0 rfl (lv_at hl 0 rfl) ?_
  refine va_get (D := (dC, dI)) (ci := 7) (v := .ref tTape) (C := RTableParser) (T := TTableParser) (N := 6) hx hb hts in_TableParser hown hK hP 0 rfl rfl 2 (by decide) (hts (.fieldLink "ZoneFiles$TableParser" 9 "ZoneFiles$TableParser" "tape" "LZoneFiles$Bytes;") m_2_159) (fun _ h9 => h9) rfl d_TP_passLineEnd_1 ?_
  refine lv_aload_n hx hb d_TP_passLineEnd_4 rfl (lv_at hl 0 rfl) ?_
  refine va_get (D := (dC, dI)) (ci := 7) (v := .int w0_4) (C := RTableParser) (T := TTableParser) (N := 6) hx hb hts in_TableParser hown hK hP 0 rfl rfl 4 (by decide) (hts (.fieldLink "ZoneFiles$TableParser" 25 "ZoneFiles$TableParser" "pos" "I") m_2_161) (fun _ h9 => h9) rfl d_TP_passLineEnd_5 ?_
  obtain ⟨r_1, hc, hf⟩ := ob hf
  refine cl_S (v := (some (.int r_1))) (st1 := [.int r_1]) (va_runV (As := [.int w0_4]) (rest := []) ⟨hx, hb, hml, hown, hts⟩ (c_By_get l dC dI tTape q2 nA2 nf w0_4 tpS tpN tpA hc) (cwV 1 hts (gdV m_2_184 m_2_71 m_2_72 m_1_2 m_2_73) rfl rfl rfl (by decide +kernel) ⟨Nat.le_trans (Nat.le_of_ble_eq_true rfl) hRf, Nat.le_trans (Nat.le_of_ble_eq_true rfl) hRl⟩) ((RO.pre (hP.sub (ws' := [(tTape, .inr (0, [.ref q2, .int tpS])), (q2, .inl (nA2, tpN, .inl tpA))]) [1, 2] rfl) (hK.sub (tys' := [(nA2, .byte)]) [0] rfl) (hST.ro hS)).vir (va_recv (hK.sub (tys' := [(nA2, .byte)]) [0] rfl) (hP.sub (ws' := [(tTape, .inr (0, [.ref q2, .int tpS])), (q2, .inl (nA2, tpN, .inl tpA))]) [1, 2] rfl) (ci := 0) (q0 := 0) rfl rfl)) rfl rfl hl.1 rfl (lv_room (Nat.le_of_ble_eq_true rfl)) d_TP_passLineEnd_8 ⟨Nat.zero_le _, Nat.zero_le _⟩) rfl ?_
  refine lv_bipush (v := 10) hx hb d_TP_passLineEnd_11 (by decide) ?_
  refine lv_icmp_eq (tgt := 26) hx hb d_TP_passLineEnd_13 (by decide) (fun c_2 => ?_) (fun c_2 => ?_)
  · have hf := it_t c_2 hf
    refine lv_aload_n hx hb d_TP_passLineEnd_26 rfl (lv_at hl 0 rfl) ?_
    refine lv_dup hx hb d_TP_passLineEnd_27 rfl ?_
    refine va_get (D := (dC, dI)) (ci := 7) (v := .int w0_4) (C := RTableParser) (T := TTableParser) (N := 6) hx hb hts in_TableParser hown hK hP 0 rfl rfl 4 (by decide) (hts (.fieldLink "ZoneFiles$TableParser" 25 "ZoneFiles$TableParser" "pos" "I") m_2_161) (fun _ h9 => h9) rfl d_TP_passLineEnd_28 ?_
    refine lv_iconst (v := 1) hx hb d_TP_passLineEnd_31 (by decide) ?_
    refine lv_iadd hx hb d_TP_passLineEnd_32 ?_
    refine va_put (D := (dC, dI)) (ci := 7) (v := .int (w0_4 + 1)) (ty := .int) (C := RTableParser) (T := TTableParser) (N := 6) hx hb hts in_TableParser tyTableParser ty_TableParser nm_TableParser hown hK hP hD hS 0 rfl rfl 4 (by decide) (hts (.fieldLink "ZoneFiles$TableParser" 25 "ZoneFiles$TableParser" "pos" "I") m_2_161) (fun _ h9 => h9) rfl (by decide +kernel) rfl rfl (Nat.le_of_ble_eq_true rfl) d_TP_passLineEnd_33 (fun H locs hP hD hS => ?_)
    have hP : va_P (dC, dI) classes [(h0, .inr (7, [.int w0_0, .int w0_1, .ref tTape, .ref tTable, .int (w0_4 + 1), .int tHas])), (tTape, .inr (0, [.ref q2, .int tpS])), (q2, .inl (nA2, tpN, .inl tpA))] H := hP
    have hD : va_D A [(h0, .inr (7, [.int w0_0, .int w0_1, .ref tTape, .ref tTable, .int (w0_4 + 1), .int tHas])), (tTape, .inr (0, [.ref q2, .int tpS])), (q2, .inl (nA2, tpN, .inl tpA))] := hD
    refine lv_iconst (v := 1) hx hb d_TP_passLineEnd_36 (by decide) ?_
    cases rs hf
    exact hE _ _ _ _ d_TP_passLineEnd_37 rfl hP hD hS hK
  · have hf := it_f c_2 hf
    refine lv_aload_n hx hb d_TP_passLineEnd_16 rfl (lv_at hl 0 rfl) ?_
    refine lv_iconst (v := 1) hx hb d_TP_passLineEnd_17 (by decide) ?_
    refine lv_aload_n hx hb d_TP_passLineEnd_18 rfl (lv_at hl 0 rfl) ?_
    refine va_get (D := (dC, dI)) (ci := 7) (v := .int w0_4) (C := RTableParser) (T := TTableParser) (N := 6) hx hb hts in_TableParser hown hK hP 0 rfl rfl 4 (by decide) (hts (.fieldLink "ZoneFiles$TableParser" 25 "ZoneFiles$TableParser" "pos" "I") m_2_161) (fun _ h9 => h9) rfl d_TP_passLineEnd_19 ?_
    obtain ⟨⟨z_3, z_4, z_5⟩, hc, hf⟩ := ob hf
    have hPc := hP.sub (ws' := [(h0, .inr (7, [.int w0_0, .int w0_1, .ref tTape, .ref tTable, .int w0_4, .int tHas]))]) [0] rfl
    have hDc := hD.sub (ws' := [(h0, .inr (7, [.int w0_0, .int w0_1, .ref tTape, .ref tTable, .int w0_4, .int tHas]))]) [0] (by decide) rfl
    have hKc := hK.sub (tys' := []) [] rfl
    have hFc := va_free (wc := [(h0, .inr (7, [.int w0_0, .int w0_1, .ref tTape, .ref tTable, .int w0_4, .int tHas]))]) hD hS hA [0] rfl
    refine cl_M (v := (some (.int z_3))) (st1 := [.int z_3]) (va_runV (As := [.int 1, .int w0_4]) (rest := []) ⟨hx, hb, hml, hown, hts⟩ (c_TP_fail l dC dI h0 tTape tTable H.size nf 1 w0_4 w0_0 w0_1 w0_4 tHas hc) (cwV 2 hts (gdV m_2_204 m_2_206 msel_6 m_1_19 m_2_207) rfl rfl rfl (by decide +kernel) ⟨Nat.le_trans (Nat.le_of_ble_eq_true rfl) hRf, Nat.le_trans (Nat.le_of_ble_eq_true rfl) hRl⟩) ((MU.pre hPc hKc hDc (hST.mu hS hFc)).vir (va_recv hKc hPc (ci := 7) (q0 := 0) rfl rfl)) rfl rfl hl.1 rfl (lv_room (Nat.le_of_ble_eq_true rfl)) d_TP_passLineEnd_22 ⟨Nat.zero_le _, Nat.zero_le _⟩) rfl hS (fun q _ h => hFc q h) hFc (fun t H1 locs ht hvm hB hz1 hk1 hS => ?_)
    obtain ⟨hP1, hK1, hD1⟩ := hB
    rw [ht] at hP1
    have hK1 := va_K.moved hvm.symm hK1
    obtain ⟨hP, hD⟩ := va_join (wr := [(tTape, .inr (0, [.ref q2, .int tpS])), (q2, .inl (nA2, tpN, .inl tpA))]) (w1 := [(h0, .inr (7, [.int z_4, .int z_5, .ref tTape, .ref tTable, .int w0_4, .int tHas]))]) hP hD [0] [1, 2] rfl rfl (by decide) (by decide) hk1 hFc hP1 hD1
    have hK := (hK.sub (tys' := [(nA2, .byte)]) [0] rfl).app hK1
    generalize H1 = H at hP hS ⊢
    have hP := hP.sub (ws' := [(h0, .inr (7, [.int z_4, .int z_5, .ref tTape, .ref tTable, .int w0_4, .int tHas])), (tTape, .inr (0, [.ref q2, .int tpS])), (q2, .inl (nA2, tpN, .inl tpA))]) [2, 0, 1] rfl
    have hD := hD.sub (ws' := [(h0, .inr (7, [.int z_4, .int z_5, .ref tTape, .ref tTable, .int w0_4, .int tHas])), (tTape, .inr (0, [.ref q2, .int tpS])), (q2, .inl (nA2, tpN, .inl tpA))]) [2, 0, 1] (by decide) rfl
    have hK := hK.sub (tys' := [(nA2, .byte)]) [0] rfl
    obtain ⟨c_6, hf⟩ := it_g hf
    cases rs hf
    exact hE _ _ _ _ d_TP_passLineEnd_25 (nb_of c_6) hP hD hS hK
end
set_option maxHeartbeats 400000 in
set_option maxRecDepth 100000 in
theorem c_TP_passLineEnd (l : Launch) (dC : Nat → ClassId) (dI : Nat → Nat → Nat) (h0 : Nat) (tTape : Nat) (tTable : Nat) (tpR : Nat) (cAtpR : ClassId) (sz : Nat) (nf : Nat) (tFault : Int32) (tPlace : Int32) (tPos : Int32) (tHas : Int32) (tpS : Int32) (tpN : Nat) (tpA : Nat → Int32) {r0 : Int32} {v0_0 : Int32} {v0_1 : Int32} {v0_4 : Int32} (hf : f_TP_passLineEnd nf tFault tPlace tPos tpS tpN tpA = some (r0, v0_0, v0_1, v0_4)) : Met l y_TP_passLineEnd (wd y_TP_passLineEnd b_TP_passLineEnd 1 (some .boolean)) ({ frames := 1, cells := 0, slots := 0, locals := 22 }) (MU dC dI [(h0, .inr (7, [.int tFault, .int tPlace, .ref tTape, .ref tTable, .int tPos, .int tHas])), (tTape, .inr (0, [.ref tpR, .int tpS])), (tpR, .inl (cAtpR, tpN, .inl tpA))] [(cAtpR, .byte)] sz [.ref h0]) (MV (some (.int r0)) (fun t => ∃ (q2 : Nat) (nA2 : ClassId), va_P (dC, dI) classes [(h0, .inr (7, [.int v0_0, .int v0_1, .ref tTape, .ref tTable, .int v0_4, .int tHas])), (tTape, .inr (0, [.ref q2, .int tpS])), (q2, .inl (nA2, tpN, .inl tpA))] t.heap ∧ va_K (dC, dI) classes [(nA2, .byte)] t ∧ va_D (va_A [(h0, .inr (7, [.int tFault, .int tPlace, .ref tTape, .ref tTable, .int tPos, .int tHas])), (tTape, .inr (0, [.ref tpR, .int tpS])), (tpR, .inl (cAtpR, tpN, .inl tpA))] sz) [(h0, .inr (7, [.int v0_0, .int v0_1, .ref tTape, .ref tTable, .int v0_4, .int tHas])), (tTape, .inr (0, [.ref q2, .int tpS])), (q2, .inl (nA2, tpN, .inl tpA))]) (va_A [(h0, .inr (7, [.int tFault, .int tPlace, .ref tTape, .ref tTable, .int tPos, .int tHas])), (tTape, .inr (0, [.ref tpR, .int tpS])), (tpR, .inl (cAtpR, tpN, .inl tpA))] sz)) 0 0 (va_A [(h0, .inr (7, [.int tFault, .int tPlace, .ref tTape, .ref tTable, .int tPos, .int tHas])), (tTape, .inr (0, [.ref tpR, .int tpS])), (tpR, .inl (cAtpR, tpN, .inl tpA))] sz) :=
  met_M (plainFor_of_name (by decide)) (Nat.le_of_ble_eq_true rfl) (fun p e R s m args below meth c ls hRc hRs hsz hin C0 hST hK hP hD hl => by
    obtain ⟨hx, hb, hr, hml, hown, hts, hlocks, hRf, hRl⟩ := id C0
    subst hsz
    have hA : ∀ q : Nat, s.heap.size ≤ q → va_A [(h0, .inr (7, [.int tFault, .int tPlace, .ref tTape, .ref tTable, .int tPos, .int tHas])), (tTape, .inr (0, [.ref tpR, .int tpS])), (tpR, .inl (cAtpR, tpN, .inl tpA))] s.heap.size q := fun q h => Or.inr h
    have hS : va_S (va_A [(h0, .inr (7, [.int tFault, .int tPlace, .ref tTape, .ref tTable, .int tPos, .int tHas])), (tTape, .inr (0, [.ref tpR, .int tpS])), (tpR, .inl (cAtpR, tpN, .inl tpA))] s.heap.size) s.heap s.heap [] := va_S.rf
    unfold f_TP_passLineEnd at hf
    exact k_TP_passLineEnd_0 C0 hST hA (fun pc ls {q2} {nA2} H locs hd hn hP hD hS hK => W.zret hx hb hr hn (fun t ht hW => ⟨⟨rfl, ⟨q2, nA2, by rw [ht]; exact hP, va_K.moved hW.alike hK, hD⟩⟩, hS.F ht⟩) hS.2.2 hd) hf hK hP hD hS (lv_sub hl [0] rfl))
-- ZoneFiles$TableParser.readNumber()J
def f_TP_readNumber_97 (nf : Nat) (w0_0 : Int32) (w0_1 : Int32) (w0_4 : Int32) : Option (Int64 × Int32 × Int32 × Int32) :=
  (f_TP_fail nf 1 w0_4 w0_0 w0_1).bind fun (z_3, z_4, z_5) =>
  some ((-1), z_4, z_5, w0_4)
def f_TP_readNumber_72 (nf : Nat) (tpS : Int32) (tpN : Nat) (tpA : Nat → Int32) (x2 : Int64) (x1 : Int32) (w0_0 : Int32) (w0_1 : Int32) (w0_4 : Int32) : Option (Int64 × Int32 × Int32 × Int32) :=
  if w0_4 = x1 then
  f_TP_readNumber_97 nf w0_0 w0_1 w0_4
  else
  (f_By_get nf w0_4 tpS tpN tpA).bind fun r_6 =>
    (f_ZF_isDigit nf r_6).bind fun r_7 =>
    if r_7 = 0 then
    some (x2, w0_0, w0_1, w0_4)
    else
    f_TP_readNumber_97 nf w0_0 w0_1 w0_4
def f_TP_readNumber_10 (nf : Nat) (tpS : Int32) (tpN : Nat) (tpA : Nat → Int32) : Nat → Int32 → Int64 → Int32 → Int32 → Int32 → Int32 → Option (Int64 × Int32 × Int32 × Int32)
  | 0, _, _, _, _, _, _ => none
  | n + 1, x4, x2, x1, w0_0, w0_1, w0_4 =>
    if (10 : Int32) ≤ x4 then
    f_TP_readNumber_72 nf tpS tpN tpA x2 x1 w0_0 w0_1 w0_4
    else
    (f_By_get nf w0_4 tpS tpN tpA).bind fun r_9 =>
      (f_ZF_isDigit nf r_9).bind fun r_10 =>
      if r_10 = 0 then
      f_TP_readNumber_72 nf tpS tpN tpA x2 x1 w0_0 w0_1 w0_4
      else
      (f_By_get nf w0_4 tpS tpN tpA).bind fun r_12 =>
        f_TP_readNumber_10 nf tpS tpN tpA n (x4 + 1) ((10 * x2) + ((r_12 - 48).toInt64)) x1 w0_0 w0_1 (w0_4 + 1)
def f_TP_readNumber_0 (nf : Nat) (tpS : Int32) (tpN : Nat) (tpA : Nat → Int32) (w0_0 : Int32) (w0_1 : Int32) (w0_4 : Int32) : Option (Int64 × Int32 × Int32 × Int32) :=
  f_TP_readNumber_10 nf tpS tpN tpA nf 0 0 w0_4 w0_0 w0_1 w0_4
def f_TP_readNumber (nf : Nat) (tFault : Int32) (tPlace : Int32) (tPos : Int32) (tpS : Int32) (tpN : Nat) (tpA : Nat → Int32) : Option (Int64 × Int32 × Int32 × Int32) :=
  f_TP_readNumber_0 nf tpS tpN tpA tFault tPlace tPos
section
variable {p : Program} {l : Launch} {e : Env} {R : Room} {s : State} {m : MethodId} {args : Array Value} {below : List Frame} {meth : Method} {c : Code} {Q : State → Prop} {dC : Nat → ClassId} {dI : Nat → Nat → Nat} {nf : Nat} {A : Nat → Prop}
variable {h0 : Nat} {tTape : Nat} {tTable : Nat} {tpR : Nat} {cAtpR : ClassId} {tFault : Int32} {tPlace : Int32} {tPos : Int32} {tHas : Int32} {tpS : Int32} {tpN : Nat} {tpA : Nat → Int32} {r0 : Int64} {v0_0 : Int32} {v0_1 : Int32} {v0_4 : Int32}
set_option maxHeartbeats 400000 in
set_option maxRecDepth 100000 in
theorem k_TP_readNumber_97 (C0 : Cx p s m meth c args R b_TP_readNumber "ZoneFiles$TableParser" 5 (some .long) 1 22) (hST : ST A s s.heap) (hA : ∀ q, s.heap.size ≤ q → A q) (hE : ∀ (pc : Nat) (ls : Array Slot) {q2 : Nat} {nA2 : ClassId} (H : Heap) (locs : List Loc), decode b_TP_readNumber pc = .ok (.lreturn, 1) → va_P (dC, dI) classes [(h0, .inr (7, [.int v0_0, .int v0_1, .ref tTape, .ref tTable, .int v0_4, .int tHas])), (tTape, .inr (0, [.ref q2, .int tpS])), (q2, .inl (nA2, tpN, .inl tpA))] H → va_D A [(h0, .inr (7, [.int v0_0, .int v0_1, .ref tTape, .ref tTable, .int v0_4, .int tHas])), (tTape, .inr (0, [.ref q2, .int tpS])), (q2, .inl (nA2, tpN, .inl tpA))] → va_S A s.heap H locs → va_K (dC, dI) classes [(nA2, .byte)] s → W p l e R s m args below meth c H locs 0 0 Q (F0 m pc ls [.long r0])) {w0_0 : Int32} {w0_1 : Int32} {w0_4 : Int32} (hf : f_TP_readNumber_97 nf w0_0 w0_1 w0_4 = some (r0, v0_0, v0_1, v0_4)) {q2 : Nat} {nA2 : ClassId} {H : Heap} {locs : List Loc} {ls : Array Slot} (hK : va_K (dC, dI) classes [(nA2, .byte)] s) (hP : va_P (dC, dI) classes [(h0, .inr (7, [.int w0_0, .int w0_1, .ref tTape, .ref tTable, .int w0_4, .int tHas])), (tTape, .inr (0, [.ref q2, .int tpS])), (q2, .inl (nA2, tpN, .inl tpA))] H) (hD : va_D A [(h0, .inr (7, [.int w0_0, .int w0_1, .ref tTape, .ref tTable, .int w0_4, .int tHas])), (tTape, .inr (0, [.ref q2, .int tpS])), (q2, .inl (nA2, tpN, .inl tpA))]) (hS : va_S A s.heap H locs) (hl : lv_has ls 5 [(0, .ref h0)]) : W p l e R s m args below meth c H locs 0 0 Q (F0 m 97 ls []) := by
  obtain ⟨hx, hb, hr, hml, hown, hts, hlocks, hRf, hRl⟩ := id C0
  obtain ⟨tms, hZms, hTms, tmg, hZmg, hTmg, hNW⟩ := id hST
  unfold f_TP_readNumber_97 at hf
  refine lv_aload_n hx hb d_TP_readNumber_97 rfl (lv_at hl 0 rfl) ?_
  refine lv_iconst (v := 1) hx hb d_TP_readNumber_98 (by decide) ?_
  refine lv_aload_n hx hb d_TP_readNumber_99 rfl (lv_at hl 0 rfl) ?_
  refine va_get (D := (dC, dI)) (ci := 7) (v := .int w0_4) (C := RTableParser) (T := TTableParser) (N := 6) hx hb hts in_TableParser hown hK hP 0 rfl rfl 4 (by decide) (hts (.fieldLink "ZoneFiles$TableParser" 25 "ZoneFiles$TableParser" "pos" "I") m_2_161) (fun _ h9 => h9) rfl d_TP_readNumber_100 ?_
  obtain ⟨⟨z_3, z_4, z_5⟩, hc, hf⟩ := ob hf
  have hPc := hP.sub (ws' := [(h0, .inr (7, [.int w0_0, .int w0_1, .ref tTape, .ref tTable, .int w0_4, .int tHas]))]) [0] rfl
  have hDc := hD.sub (ws' := [(h0, .inr (7, [.int w0_0, .int w0_1, .ref tTape, .ref tTable, .int w0_4, .int tHas]))]) [0] (by decide) rfl
  have hKc := hK.sub (tys' := []) [] rfl
  have hFc := va_free (wc := [(h0, .inr (7, [.int w0_0, .int w0_1, .ref tTape, .ref tTable, .int w0_4, .int tHas]))]) hD hS hA [0] rfl
  refine cl_M (v := (some (.int z_3))) (st1 := [.int z_3]) (va_runV (As := [.int 1, .int w0_4]) (rest := []) ⟨hx, hb, hml, hown, hts⟩ (c_TP_fail l dC dI h0 tTape tTable H.size nf 1 w0_4 w0_0 w0_1 w0_4 tHas hc) (cwV 2 hts (gdV m_2_204 m_2_206 msel_6 m_1_19 m_2_207) rfl rfl rfl (by decide +kernel) ⟨Nat.le_trans (Nat.le_of_ble_eq_true rfl) hRf, Nat.le_trans (Nat.le_of_ble_eq_true rfl) hRl⟩) ((MU.pre hPc hKc hDc (hST.mu hS hFc)).vir (va_recv hKc hPc (ci := 7) (q0 := 0) rfl rfl)) rfl rfl hl.1 rfl (lv_room (Nat.le_of_ble_eq_true rfl)) d_TP_readNumber_103 ⟨Nat.zero_le _, Nat.zero_le _⟩) rfl hS (fun q _ h => hFc q h) hFc (fun t H1 locs ht hvm hB hz1 hk1 hS => ?_)
  obtain ⟨hP1, hK1, hD1⟩ := hB
  rw [ht] at hP1
  have hK1 := va_K.moved hvm.symm hK1
  obtain ⟨hP, hD⟩ := va_join (wr := [(tTape, .inr (0, [.ref q2, .int tpS])), (q2, .inl (nA2, tpN, .inl tpA))]) (w1 := [(h0, .inr (7, [.int z_4, .int z_5, .ref tTape, .ref tTable, .int w0_4, .int tHas]))]) hP hD [0] [1, 2] rfl rfl (by decide) (by decide) hk1 hFc hP1 hD1
  have hK := (hK.sub (tys' := [(nA2, .byte)]) [0] rfl).app hK1
  generalize H1 = H at hP hS ⊢
  have hP := hP.sub (ws' := [(h0, .inr (7, [.int z_4, .int z_5, .ref tTape, .ref tTable, .int w0_4, .int tHas])), (tTape, .inr (0, [.ref q2, .int tpS])), (q2, .inl (nA2, tpN, .inl tpA))]) [2, 0, 1] rfl
  have hD := hD.sub (ws' := [(h0, .inr (7, [.int z_4, .int z_5, .ref tTape, .ref tTable, .int w0_4, .int tHas])), (tTape, .inr (0, [.ref q2, .int tpS])), (q2, .inl (nA2, tpN, .inl tpA))]) [2, 0, 1] (by decide) rfl
  have hK := hK.sub (tys' := [(nA2, .byte)]) [0] rfl
  refine lv_pop hx hb d_TP_readNumber_106 rfl ?_
  refine lv_ldc2 (v := (-1)) hx hb hown (hts (.constantLong "ZoneFiles$TableParser" 108 (-1)) m_2_208) d_TP_readNumber_107 ?_
  cases rs hf
  exact hE _ _ _ _ d_TP_readNumber_110 hP hD hS hK
set_option maxHeartbeats 400000 in
set_option maxRecDepth 100000 in
theorem k_TP_readNumber_72 (C0 : Cx p s m meth c args R b_TP_readNumber "ZoneFiles$TableParser" 5 (some .long) 1 22) (hST : ST A s s.heap) (hA : ∀ q, s.heap.size ≤ q → A q) (hE : ∀ (pc : Nat) (ls : Array Slot) {q2 : Nat} {nA2 : ClassId} (H : Heap) (locs : List Loc), decode b_TP_readNumber pc = .ok (.lreturn, 1) → va_P (dC, dI) classes [(h0, .inr (7, [.int v0_0, .int v0_1, .ref tTape, .ref tTable, .int v0_4, .int tHas])), (tTape, .inr (0, [.ref q2, .int tpS])), (q2, .inl (nA2, tpN, .inl tpA))] H → va_D A [(h0, .inr (7, [.int v0_0, .int v0_1, .ref tTape, .ref tTable, .int v0_4, .int tHas])), (tTape, .inr (0, [.ref q2, .int tpS])), (q2, .inl (nA2, tpN, .inl tpA))] → va_S A s.heap H locs → va_K (dC, dI) classes [(nA2, .byte)] s → W p l e R s m args below meth c H locs 0 0 Q (F0 m pc ls [.long r0])) {x2 : Int64} {x1 : Int32} {w0_0 : Int32} {w0_1 : Int32} {w0_4 : Int32} (hf : f_TP_readNumber_72 nf tpS tpN tpA x2 x1 w0_0 w0_1 w0_4 = some (r0, v0_0, v0_1, v0_4)) {q2 : Nat} {nA2 : ClassId} {H : Heap} {locs : List Loc} {ls : Array Slot} (hK : va_K (dC, dI) classes [(nA2, .byte)] s) (hP : va_P (dC, dI) classes [(h0, .inr (7, [.int w0_0, .int w0_1, .ref tTape, .ref tTable, .int w0_4, .int tHas])), (tTape, .inr (0, [.ref q2, .int tpS])), (q2, .inl (nA2, tpN, .inl tpA))] H) (hD : va_D A [(h0, .inr (7, [.int w0_0, .int w0_1, .ref tTape, .ref tTable, .int w0_4, .int tHas])), (tTape, .inr (0, [.ref q2, .int tpS])), (q2, .inl (nA2, tpN, .inl tpA))]) (hS : va_S A s.heap H locs) (hl : lv_has ls 5 [(2, .long x2), (1, .int x1), (0, .ref h0)]) : W p l e R s m args below meth c H locs 0 0 Q (F0 m 72 ls []) := by
  obtain ⟨hx, hb, hr, hml, hown, hts, hlocks, hRf, hRl⟩ := id C0
  obtain ⟨tms, hZms, hTms, tmg, hZmg, hTmg, hNW⟩ := id hST
  unfold f_TP_readNumber_72 at hf
  refine lv_aload_n hx hb d_TP_readNumber_72 rfl (lv_at hl 2 rfl) ?_
  refine va_get (D := (dC, dI)) (ci := 7) (v := .int w0_4) (C := RTableParser) (T := TTableParser) (N := 6) hx hb hts in_TableParser hown hK hP 0 rfl rfl 4 (by decide) (hts (.fieldLink "ZoneFiles$TableParser" 25 "ZoneFiles$TableParser" "pos" "I") m_2_161) (fun _ h9 => h9) rfl d_TP_readNumber_73 ?_
  refine lv_iload_n hx hb d_TP_readNumber_76 rfl (lv_at hl 1 rfl) ?_
  refine lv_icmp_eq (tgt := 97) hx hb d_TP_readNumber_77 (by decide) (fun c_2 => ?_) (fun c_2 => ?_)
  · have hf := it_t c_2 hf
    exact k_TP_readNumber_97 C0 hST hA hE hf hK hP hD hS (lv_sub hl [2] rfl)
  · have hf := it_f c_2 hf
    refine lv_aload_n hx hb d_TP_readNumber_80 rfl (lv_at hl 2 rfl) ?_
    refine va_get (D := (dC, dI)) (ci := 7) (v := .ref tTape) (C := RTableParser) (T := TTableParser) (N := 6) hx hb hts in_TableParser hown hK hP 0 rfl rfl 2 (by decide) (hts (.fieldLink "ZoneFiles$TableParser" 9 "ZoneFiles$TableParser" "tape" "LZoneFiles$Bytes;") m_2_159) (fun _ h9 => h9) rfl d_TP_readNumber_81 ?_
    refine lv_aload_n hx hb d_TP_readNumber_84 rfl (lv_at hl 2 rfl) ?_
    refine va_get (D := (dC, dI)) (ci := 7) (v := .int w0_4) (C := RTableParser) (T := TTableParser) (N := 6) hx hb hts in_TableParser hown hK hP 0 rfl rfl 4 (by decide) (hts (.fieldLink "ZoneFiles$TableParser" 25 "ZoneFiles$TableParser" "pos" "I") m_2_161) (fun _ h9 => h9) rfl d_TP_readNumber_85 ?_
    obtain ⟨r_6, hc, hf⟩ := ob hf
    refine cl_S (v := (some (.int r_6))) (st1 := [.int r_6]) (va_runV (As := [.int w0_4]) (rest := []) ⟨hx, hb, hml, hown, hts⟩ (c_By_get l dC dI tTape q2 nA2 nf w0_4 tpS tpN tpA hc) (cwV 1 hts (gdV m_2_184 m_2_71 m_2_72 m_1_2 m_2_73) rfl rfl rfl (by decide +kernel) ⟨Nat.le_trans (Nat.le_of_ble_eq_true rfl) hRf, Nat.le_trans (Nat.le_of_ble_eq_true rfl) hRl⟩) ((RO.pre (hP.sub (ws' := [(tTape, .inr (0, [.ref q2, .int tpS])), (q2, .inl (nA2, tpN, .inl tpA))]) [1, 2] rfl) (hK.sub (tys' := [(nA2, .byte)]) [0] rfl) (hST.ro hS)).vir (va_recv (hK.sub (tys' := [(nA2, .byte)]) [0] rfl) (hP.sub (ws' := [(tTape, .inr (0, [.ref q2, .int tpS])), (q2, .inl (nA2, tpN, .inl tpA))]) [1, 2] rfl) (ci := 0) (q0 := 0) rfl rfl)) rfl rfl hl.1 rfl (lv_room (Nat.le_of_ble_eq_true rfl)) d_TP_readNumber_88 ⟨Nat.zero_le _, Nat.zero_le _⟩) rfl ?_
    obtain ⟨r_7, hc, hf⟩ := ob hf
    refine cl_S (v := (some (.int r_7))) (st1 := [.int r_7]) (va_runSN (As := [.int r_6]) (rest := []) ⟨hx, hb, hml, hown, hts⟩ (c_ZF_isDigit l dC dI nf r_6 hc) ⟨va_cnB 1 hts (gd_of m_2_202) rfl rfl rfl hNW.2.1 (hts _ m_1_1) (by decide +kernel) ⟨Nat.le_trans (Nat.le_of_ble_eq_true rfl) hRf, Nat.le_trans (Nat.le_of_ble_eq_true rfl) hRl⟩, hts _ m_2_201, trivial⟩ (RO.pre0 hK (hST.ro hS)).sta rfl rfl hl.1 rfl (lv_room (Nat.le_of_ble_eq_true rfl)) d_TP_readNumber_91 ⟨Nat.zero_le _, Nat.zero_le _⟩) rfl ?_
    refine lv_if_eq (tgt := 111) hx hb d_TP_readNumber_94 (by decide) (fun c_8 => ?_) (fun c_8 => ?_)
    · have hf := it_t c_8 hf
      refine lv_lload_n hx hb d_TP_readNumber_111 rfl (lv_at hl 0 rfl) ?_
      cases rs hf
      exact hE _ _ _ _ d_TP_readNumber_112 hP hD hS hK
    · have hf := it_f c_8 hf
      exact k_TP_readNumber_97 C0 hST hA hE hf hK hP hD hS (lv_sub hl [2] rfl)
set_option maxHeartbeats 400000 in
set_option maxRecDepth 100000 in
theorem k_TP_readNumber_10 (C0 : Cx p s m meth c args R b_TP_readNumber "ZoneFiles$TableParser" 5 (some .long) 1 22) (hST : ST A s s.heap) (hA : ∀ q, s.heap.size ≤ q → A q) (hE : ∀ (pc : Nat) (ls : Array Slot) {q2 : Nat} {nA2 : ClassId} (H : Heap) (locs : List Loc), decode b_TP_readNumber pc = .ok (.lreturn, 1) → va_P (dC, dI) classes [(h0, .inr (7, [.int v0_0, .int v0_1, .ref tTape, .ref tTable, .int v0_4, .int tHas])), (tTape, .inr (0, [.ref q2, .int tpS])), (q2, .inl (nA2, tpN, .inl tpA))] H → va_D A [(h0, .inr (7, [.int v0_0, .int v0_1, .ref tTape, .ref tTable, .int v0_4, .int tHas])), (tTape, .inr (0, [.ref q2, .int tpS])), (q2, .inl (nA2, tpN, .inl tpA))] → va_S A s.heap H locs → va_K (dC, dI) classes [(nA2, .byte)] s → W p l e R s m args below meth c H locs 0 0 Q (F0 m pc ls [.long r0])) : ∀ (n : Nat) {x4 : Int32} {x2 : Int64} {x1 : Int32} {w0_0 : Int32} {w0_1 : Int32} {w0_4 : Int32}, f_TP_readNumber_10 nf tpS tpN tpA n x4 x2 x1 w0_0 w0_1 w0_4 = some (r0, v0_0, v0_1, v0_4) → ∀ {q2 : Nat} {nA2 : ClassId} {H : Heap} {locs : List Loc} {ls : Array Slot}, va_K (dC, dI) classes [(nA2, .byte)] s → va_P (dC, dI) classes [(h0, .inr (7, [.int w0_0, .int w0_1, .ref tTape, .ref tTable, .int w0_4, .int tHas])), (tTape, .inr (0, [.ref q2, .int tpS])), (q2, .inl (nA2, tpN, .inl tpA))] H → va_D A [(h0, .inr (7, [.int w0_0, .int w0_1, .ref tTape, .ref tTable, .int w0_4, .int tHas])), (tTape, .inr (0, [.ref q2, .int tpS])), (q2, .inl (nA2, tpN, .inl tpA))] → va_S A s.heap H locs → lv_has ls 5 [(4, .int x4), (2, .long x2), (1, .int x1), (0, .ref h0)] → W p l e R s m args below meth c H locs 0 0 Q (F0 m 10 ls []) := by
  obtain ⟨hx, hb, hr, hml, hown, hts, hlocks, hRf, hRl⟩ := id C0
  obtain ⟨tms, hZms, hTms, tmg, hZmg, hTmg, hNW⟩ := id hST
  intro n
  induction n with
  | zero =>
    intro x4 x2 x1 w0_0 w0_1 w0_4 hf
    exact absurd hf (by simp [f_TP_readNumber_10])
  | succ n ih =>
    intro x4 x2 x1 w0_0 w0_1 w0_4 hf q2 nA2 H locs ls hK hP hD hS hl
    unfold f_TP_readNumber_10 at hf
    refine lv_iload hx hb d_TP_readNumber_10 (lv_at hl 0 rfl) ?_
    refine lv_bipush (v := 10) hx hb d_TP_readNumber_12 (by decide) ?_
    refine lv_icmp_ge (tgt := 72) hx hb d_TP_readNumber_14 (by decide) (fun c_1 => ?_) (fun c_1 => ?_)
    · have hf := it_t c_1 hf
      exact k_TP_readNumber_72 C0 hST hA hE hf hK hP hD hS (lv_sub hl [1, 2, 3] rfl)
    · have hf := it_f c_1 hf
      refine lv_aload_n hx hb d_TP_readNumber_17 rfl (lv_at hl 3 rfl) ?_
      refine va_get (D := (dC, dI)) (ci := 7) (v := .ref tTape) (C := RTableParser) (T := TTableParser) (N := 6) hx hb hts in_TableParser hown hK hP 0 rfl rfl 2 (by decide) (hts (.fieldLink "ZoneFiles$TableParser" 9 "ZoneFiles$TableParser" "tape" "LZoneFiles$Bytes;") m_2_159) (fun _ h9 => h9) rfl d_TP_readNumber_18 ?_
      refine lv_aload_n hx hb d_TP_readNumber_21 rfl (lv_at hl 3 rfl) ?_
      refine va_get (D := (dC, dI)) (ci := 7) (v := .int w0_4) (C := RTableParser) (T := TTableParser) (N := 6) hx hb hts in_TableParser hown hK hP 0 rfl rfl 4 (by decide) (hts (.fieldLink "ZoneFiles$TableParser" 25 "ZoneFiles$TableParser" "pos" "I") m_2_161) (fun _ h9 => h9) rfl d_TP_readNumber_22 ?_
      obtain ⟨r_9, hc, hf⟩ := ob hf
      refine cl_S (v := (some (.int r_9))) (st1 := [.int r_9]) (va_runV (As := [.int w0_4]) (rest := []) ⟨hx, hb, hml, hown, hts⟩ (c_By_get l dC dI tTape q2 nA2 nf w0_4 tpS tpN tpA hc) (cwV 1 hts (gdV m_2_184 m_2_71 m_2_72 m_1_2 m_2_73) rfl rfl rfl (by decide +kernel) ⟨Nat.le_trans (Nat.le_of_ble_eq_true rfl) hRf, Nat.le_trans (Nat.le_of_ble_eq_true rfl) hRl⟩) ((RO.pre (hP.sub (ws' := [(tTape, .inr (0, [.ref q2, .int tpS])), (q2, .inl (nA2, tpN, .inl tpA))]) [1, 2] rfl) (hK.sub (tys' := [(nA2, .byte)]) [0] rfl) (hST.ro hS)).vir (va_recv (hK.sub (tys' := [(nA2, .byte)]) [0] rfl) (hP.sub (ws' := [(tTape, .inr (0, [.ref q2, .int tpS])), (q2, .inl (nA2, tpN, .inl tpA))]) [1, 2] rfl) (ci := 0) (q0 := 0) rfl rfl)) rfl rfl hl.1 rfl (lv_room (Nat.le_of_ble_eq_true rfl)) d_TP_readNumber_25 ⟨Nat.zero_le _, Nat.zero_le _⟩) rfl ?_
      obtain ⟨r_10, hc, hf⟩ := ob hf
      refine cl_S (v := (some (.int r_10))) (st1 := [.int r_10]) (va_runSN (As := [.int r_9]) (rest := []) ⟨hx, hb, hml, hown, hts⟩ (c_ZF_isDigit l dC dI nf r_9 hc) ⟨va_cnB 1 hts (gd_of m_2_202) rfl rfl rfl hNW.2.1 (hts _ m_1_1) (by decide +kernel) ⟨Nat.le_trans (Nat.le_of_ble_eq_true rfl) hRf, Nat.le_trans (Nat.le_of_ble_eq_true rfl) hRl⟩, hts _ m_2_201, trivial⟩ (RO.pre0 hK (hST.ro hS)).sta rfl rfl hl.1 rfl (lv_room (Nat.le_of_ble_eq_true rfl)) d_TP_readNumber_28 ⟨Nat.zero_le _, Nat.zero_le _⟩) rfl ?_
      refine lv_if_eq (tgt := 72) hx hb d_TP_readNumber_31 (by decide) (fun c_11 => ?_) (fun c_11 => ?_)
      · have hf := it_t c_11 hf
        exact k_TP_readNumber_72 C0 hST hA hE hf hK hP hD hS (lv_sub hl [1, 2, 3] rfl)
      · have hf := it_f c_11 hf
        refine lv_ldc2 (v := 10) hx hb hown (hts (.constantLong "ZoneFiles$TableParser" 106 10) m_2_203) d_TP_readNumber_34 ?_
        refine lv_lload_n hx hb d_TP_readNumber_37 rfl (lv_at hl 1 rfl) ?_
        refine lv_lmul hx hb d_TP_readNumber_38 ?_
        refine lv_aload_n hx hb d_TP_readNumber_39 rfl (lv_at hl 3 rfl) ?_
        refine va_get (D := (dC, dI)) (ci := 7) (v := .ref tTape) (C := RTableParser) (T := TTableParser) (N := 6) hx hb hts in_TableParser hown hK hP 0 rfl rfl 2 (by decide) (hts (.fieldLink "ZoneFiles$TableParser" 9 "ZoneFiles$TableParser" "tape" "LZoneFiles$Bytes;") m_2_159) (fun _ h9 => h9) rfl d_TP_readNumber_40 ?_
        refine lv_aload_n hx hb d_TP_readNumber_43 rfl (lv_at hl 3 rfl) ?_
        refine va_get (D := (dC, dI)) (ci := 7) (v := .int w0_4) (C := RTableParser) (T := TTableParser) (N := 6) hx hb hts in_TableParser hown hK hP 0 rfl rfl 4 (by decide) (hts (.fieldLink "ZoneFiles$TableParser" 25 "ZoneFiles$TableParser" "pos" "I") m_2_161) (fun _ h9 => h9) rfl d_TP_readNumber_44 ?_
        obtain ⟨r_12, hc, hf⟩ := ob hf
        refine cl_S (v := (some (.int r_12))) (st1 := [.int r_12, .long (10 * x2)]) (va_runV (As := [.int w0_4]) (rest := [.long (10 * x2)]) ⟨hx, hb, hml, hown, hts⟩ (c_By_get l dC dI tTape q2 nA2 nf w0_4 tpS tpN tpA hc) (cwV 1 hts (gdV m_2_184 m_2_71 m_2_72 m_1_2 m_2_73) rfl rfl rfl (by decide +kernel) ⟨Nat.le_trans (Nat.le_of_ble_eq_true rfl) hRf, Nat.le_trans (Nat.le_of_ble_eq_true rfl) hRl⟩) ((RO.pre (hP.sub (ws' := [(tTape, .inr (0, [.ref q2, .int tpS])), (q2, .inl (nA2, tpN, .inl tpA))]) [1, 2] rfl) (hK.sub (tys' := [(nA2, .byte)]) [0] rfl) (hST.ro hS)).vir (va_recv (hK.sub (tys' := [(nA2, .byte)]) [0] rfl) (hP.sub (ws' := [(tTape, .inr (0, [.ref q2, .int tpS])), (q2, .inl (nA2, tpN, .inl tpA))]) [1, 2] rfl) (ci := 0) (q0 := 0) rfl rfl)) rfl rfl hl.1 rfl (lv_room (Nat.le_of_ble_eq_true rfl)) d_TP_readNumber_47 ⟨Nat.zero_le _, Nat.zero_le _⟩) rfl ?_
        refine lv_bipush (v := 48) hx hb d_TP_readNumber_50 (by decide) ?_
        refine lv_isub hx hb d_TP_readNumber_52 ?_
        refine lv_i2l hx hb d_TP_readNumber_53 rfl ?_
        refine lv_ladd hx hb d_TP_readNumber_54 ?_
        refine lv_lstore_n (lv' := [(2, .long ((10 * x2) + ((r_12 - 48).toInt64))), (4, .int x4), (1, .int x1), (0, .ref h0)]) hx hb d_TP_readNumber_55 rfl hl (by decide) rfl (fun ls hl => ?_)
        refine lv_aload_n hx hb d_TP_readNumber_56 rfl (lv_at hl 3 rfl) ?_
        refine lv_dup hx hb d_TP_readNumber_57 rfl ?_
        refine va_get (D := (dC, dI)) (ci := 7) (v := .int w0_4) (C := RTableParser) (T := TTableParser) (N := 6) hx hb hts in_TableParser hown hK hP 0 rfl rfl 4 (by decide) (hts (.fieldLink "ZoneFiles$TableParser" 25 "ZoneFiles$TableParser" "pos" "I") m_2_161) (fun _ h9 => h9) rfl d_TP_readNumber_58 ?_
        refine lv_iconst (v := 1) hx hb d_TP_readNumber_61 (by decide) ?_
        refine lv_iadd hx hb d_TP_readNumber_62 ?_
        refine va_put (D := (dC, dI)) (ci := 7) (v := .int (w0_4 + 1)) (ty := .int) (C := RTableParser) (T := TTableParser) (N := 6) hx hb hts in_TableParser tyTableParser ty_TableParser nm_TableParser hown hK hP hD hS 0 rfl rfl 4 (by decide) (hts (.fieldLink "ZoneFiles$TableParser" 25 "ZoneFiles$TableParser" "pos" "I") m_2_161) (fun _ h9 => h9) rfl (by decide +kernel) rfl rfl (Nat.le_of_ble_eq_true rfl) d_TP_readNumber_63 (fun H locs hP hD hS => ?_)
        have hP : va_P (dC, dI) classes [(h0, .inr (7, [.int w0_0, .int w0_1, .ref tTape, .ref tTable, .int (w0_4 + 1), .int tHas])), (tTape, .inr (0, [.ref q2, .int tpS])), (q2, .inl (nA2, tpN, .inl tpA))] H := hP
        have hD : va_D A [(h0, .inr (7, [.int w0_0, .int w0_1, .ref tTape, .ref tTable, .int (w0_4 + 1), .int tHas])), (tTape, .inr (0, [.ref q2, .int tpS])), (q2, .inl (nA2, tpN, .inl tpA))] := hD
        refine lv_iinc (v := x4 + 1) (lv' := [(4, .int (x4 + 1)), (2, .long ((10 * x2) + ((r_12 - 48).toInt64))), (1, .int x1), (0, .ref h0)]) hx hb d_TP_readNumber_66 hl (k := 1) rfl rfl (by decide) rfl (fun ls hl => ?_)
        refine lv_goto (tgt := 10) hx hb d_TP_readNumber_69 (by decide) ?_
        exact ih hf hK hP hD hS (lv_sub hl [0, 1, 2, 3] rfl)
set_option maxHeartbeats 400000 in
set_option maxRecDepth 100000 in
theorem k_TP_readNumber_0 (C0 : Cx p s m meth c args R b_TP_readNumber "ZoneFiles$TableParser" 5 (some .long) 1 22) (hST : ST A s s.heap) (hA : ∀ q, s.heap.size ≤ q → A q) (hE : ∀ (pc : Nat) (ls : Array Slot) {q2 : Nat} {nA2 : ClassId} (H : Heap) (locs : List Loc), decode b_TP_readNumber pc = .ok (.lreturn, 1) → va_P (dC, dI) classes [(h0, .inr (7, [.int v0_0, .int v0_1, .ref tTape, .ref tTable, .int v0_4, .int tHas])), (tTape, .inr (0, [.ref q2, .int tpS])), (q2, .inl (nA2, tpN, .inl tpA))] H → va_D A [(h0, .inr (7, [.int v0_0, .int v0_1, .ref tTape, .ref tTable, .int v0_4, .int tHas])), (tTape, .inr (0, [.ref q2, .int tpS])), (q2, .inl (nA2, tpN, .inl tpA))] → va_S A s.heap H locs → va_K (dC, dI) classes [(nA2, .byte)] s → W p l e R s m args below meth c H locs 0 0 Q (F0 m pc ls [.long r0])) {w0_0 : Int32} {w0_1 : Int32} {w0_4 : Int32} (hf : f_TP_readNumber_0 nf tpS tpN tpA w0_0 w0_1 w0_4 = some (r0, v0_0, v0_1, v0_4)) {q2 : Nat} {nA2 : ClassId} {H : Heap} {locs : List Loc} {ls : Array Slot} (hK : va_K (dC, dI) classes [(nA2, .byte)] s) (hP : va_P (dC, dI) classes [(h0, .inr (7, [.int w0_0, .int w0_1, .ref tTape, .ref tTable, .int w0_4, .int tHas])), (tTape, .inr (0, [.ref q2, .int tpS])), (q2, .inl (nA2, tpN, .inl tpA))] H) (hD : va_D A [(h0, .inr (7, [.int w0_0, .int w0_1, .ref tTape, .ref tTable, .int w0_4, .int tHas])), (tTape, .inr (0, [.ref q2, .int tpS])), (q2, .inl (nA2, tpN, .inl tpA))]) (hS : va_S A s.heap H locs) (hl : lv_has ls 5 [(0, .ref h0)]) : W p l e R s m args below meth c H locs 0 0 Q (F0 m 0 ls []) := by
  obtain ⟨hx, hb, hr, hml, hown, hts, hlocks, hRf, hRl⟩ := id C0
  obtain ⟨tms, hZms, hTms, tmg, hZmg, hTmg, hNW⟩ := id hST
  unfold f_TP_readNumber_0 at hf
  refine lv_aload_n hx hb d_TP_readNumber_0 rfl (lv_at hl 0 rfl) ?_
  refine va_get (D := (dC, dI)) (ci := 7) (v := .int w0_4) (C := RTableParser) (T := TTableParser) (N := 6) hx hb hts in_TableParser hown hK hP 0 rfl rfl 4 (by decide) (hts (.fieldLink "ZoneFiles$TableParser" 25 "ZoneFiles$TableParser" "pos" "I") m_2_161) (fun _ h9 => h9) rfl d_TP_readNumber_1 ?_
  refine lv_istore_n (lv' := [(1, .int w0_4), (0, .ref h0)]) hx hb d_TP_readNumber_4 rfl hl (by decide) rfl (fun ls hl => ?_)
  refine lv_lconst (v := 0) hx hb d_TP_readNumber_5 (by decide) ?_
  refine lv_lstore_n (lv' := [(2, .long 0), (1, .int w0_4), (0, .ref h0)]) hx hb d_TP_readNumber_6 rfl hl (by decide) rfl (fun ls hl => ?_)
  refine lv_iconst (v := 0) hx hb d_TP_readNumber_7 (by decide) ?_
  refine lv_istore (lv' := [(4, .int 0), (2, .long 0), (1, .int w0_4), (0, .ref h0)]) hx hb d_TP_readNumber_8 hl (by decide) rfl (fun ls hl => ?_)
  exact k_TP_readNumber_10 C0 hST hA hE nf hf hK hP hD hS (lv_sub hl [0, 1, 2, 3] rfl)
end
set_option maxHeartbeats 400000 in
set_option maxRecDepth 100000 in
theorem c_TP_readNumber (l : Launch) (dC : Nat → ClassId) (dI : Nat → Nat → Nat) (h0 : Nat) (tTape : Nat) (tTable : Nat) (tpR : Nat) (cAtpR : ClassId) (sz : Nat) (nf : Nat) (tFault : Int32) (tPlace : Int32) (tPos : Int32) (tHas : Int32) (tpS : Int32) (tpN : Nat) (tpA : Nat → Int32) {r0 : Int64} {v0_0 : Int32} {v0_1 : Int32} {v0_4 : Int32} (hf : f_TP_readNumber nf tFault tPlace tPos tpS tpN tpA = some (r0, v0_0, v0_1, v0_4)) : Met l y_TP_readNumber (wd y_TP_readNumber b_TP_readNumber 5 (some .long)) ({ frames := 1, cells := 0, slots := 0, locals := 22 }) (MU dC dI [(h0, .inr (7, [.int tFault, .int tPlace, .ref tTape, .ref tTable, .int tPos, .int tHas])), (tTape, .inr (0, [.ref tpR, .int tpS])), (tpR, .inl (cAtpR, tpN, .inl tpA))] [(cAtpR, .byte)] sz [.ref h0]) (MV (some (.long r0)) (fun t => ∃ (q2 : Nat) (nA2 : ClassId), va_P (dC, dI) classes [(h0, .inr (7, [.int v0_0, .int v0_1, .ref tTape, .ref tTable, .int v0_4, .int tHas])), (tTape, .inr (0, [.ref q2, .int tpS])), (q2, .inl (nA2, tpN, .inl tpA))] t.heap ∧ va_K (dC, dI) classes [(nA2, .byte)] t ∧ va_D (va_A [(h0, .inr (7, [.int tFault, .int tPlace, .ref tTape, .ref tTable, .int tPos, .int tHas])), (tTape, .inr (0, [.ref tpR, .int tpS])), (tpR, .inl (cAtpR, tpN, .inl tpA))] sz) [(h0, .inr (7, [.int v0_0, .int v0_1, .ref tTape, .ref tTable, .int v0_4, .int tHas])), (tTape, .inr (0, [.ref q2, .int tpS])), (q2, .inl (nA2, tpN, .inl tpA))]) (va_A [(h0, .inr (7, [.int tFault, .int tPlace, .ref tTape, .ref tTable, .int tPos, .int tHas])), (tTape, .inr (0, [.ref tpR, .int tpS])), (tpR, .inl (cAtpR, tpN, .inl tpA))] sz)) 0 0 (va_A [(h0, .inr (7, [.int tFault, .int tPlace, .ref tTape, .ref tTable, .int tPos, .int tHas])), (tTape, .inr (0, [.ref tpR, .int tpS])), (tpR, .inl (cAtpR, tpN, .inl tpA))] sz) :=
  met_M (plainFor_of_name (by decide)) (Nat.le_of_ble_eq_true rfl) (fun p e R s m args below meth c ls hRc hRs hsz hin C0 hST hK hP hD hl => by
    obtain ⟨hx, hb, hr, hml, hown, hts, hlocks, hRf, hRl⟩ := id C0
    subst hsz
    have hA : ∀ q : Nat, s.heap.size ≤ q → va_A [(h0, .inr (7, [.int tFault, .int tPlace, .ref tTape, .ref tTable, .int tPos, .int tHas])), (tTape, .inr (0, [.ref tpR, .int tpS])), (tpR, .inl (cAtpR, tpN, .inl tpA))] s.heap.size q := fun q h => Or.inr h
    have hS : va_S (va_A [(h0, .inr (7, [.int tFault, .int tPlace, .ref tTape, .ref tTable, .int tPos, .int tHas])), (tTape, .inr (0, [.ref tpR, .int tpS])), (tpR, .inl (cAtpR, tpN, .inl tpA))] s.heap.size) s.heap s.heap [] := va_S.rf
    unfold f_TP_readNumber at hf
    exact k_TP_readNumber_0 C0 hST hA (fun pc ls {q2} {nA2} H locs hd hP hD hS hK => W.lret hx hb hr (fun t ht hW => ⟨⟨rfl, ⟨q2, nA2, by rw [ht]; exact hP, va_K.moved hW.alike hK, hD⟩⟩, hS.F ht⟩) hS.2.2 hd) hf hK hP hD hS (lv_sub hl [0] rfl))
-- ZoneFiles$TableParser.addRow(JIJI)Z
def f_TP_addRow_49 (nf : Nat) (x3 : Int32) (w0_0 : Int32) (w0_1 : Int32) (w1_0 : Int32) (w2_a : Nat → Int64) (w3_a : Nat → Int64) : Option (Int32 × Int32 × Int32 × Int32 × (Nat → Int64) × (Nat → Int64)) :=
  (f_TP_fail nf 2 x3 w0_0 w0_1).bind fun (z_2, z_3, z_4) =>
  if z_2 = 0 ∨ z_2 = 1 then some (z_2, z_3, z_4, w1_0, w2_a, w3_a) else none
def f_TP_addRow_90 (nf : Nat) (x8 : Int64) (x3 : Int32) (x4 : Int64) (w0_0 : Int32) (w0_1 : Int32) (w1_0 : Int32) (w2_a : Nat → Int64) (w3_a : Nat → Int64) : Option (Int32 × Int32 × Int32 × Int32 × (Nat → Int64) × (Nat → Int64)) :=
  if w1_0 < (60 : Int32) then
  if w1_0 < 0 ∨ 60 ≤ w1_0.toNatClampNeg then none else
    if w1_0 < 0 ∨ 60 ≤ w1_0.toNatClampNeg then none else
    some (1, w0_0, w0_1, w1_0 + 1, vp_updL w2_a w1_0.toNatClampNeg x8, vp_updL w3_a w1_0.toNatClampNeg x4)
  else
  (f_TP_fail nf 4 x3 w0_0 w0_1).bind fun (z_11, z_12, z_13) =>
    if z_11 = 0 ∨ z_11 = 1 then some (z_11, z_12, z_13, w1_0, w2_a, w3_a) else none
def f_TP_addRow_56 (nf : Nat) (x8 : Int64) (x7 : Int32) (x3 : Int32) (x4 : Int64) (x6 : Int32) (w0_0 : Int32) (w0_1 : Int32) (w1_0 : Int32) (w2_a : Nat → Int64) (w3_a : Nat → Int64) : Option (Int32 × Int32 × Int32 × Int32 × (Nat → Int64) × (Nat → Int64)) :=
  if x7 < 0 then
  f_TP_addRow_90 nf x8 x3 x4 w0_0 w0_1 w1_0 w2_a w3_a
  else
  if x7 < 0 ∨ 60 ≤ x7.toNatClampNeg then none else
    if (if 0 < (x4 - (w3_a x7.toNatClampNeg)) then (x4 - (w3_a x7.toNatClampNeg)) else -(x4 - (w3_a x7.toNatClampNeg))) = (1 : Int64) then
    f_TP_addRow_90 nf x8 x3 x4 w0_0 w0_1 w1_0 w2_a w3_a
    else
    (f_TP_fail nf 3 x6 w0_0 w0_1).bind fun (z_17, z_18, z_19) =>
      if z_17 = 0 ∨ z_17 = 1 then some (z_17, z_18, z_19, w1_0, w2_a, w3_a) else none
def f_TP_addRow_0 (nf : Nat) (x1 : Int64) (x3 : Int32) (x4 : Int64) (x6 : Int32) (w0_0 : Int32) (w0_1 : Int32) (w1_0 : Int32) (w2_a : Nat → Int64) (w3_a : Nat → Int64) : Option (Int32 × Int32 × Int32 × Int32 × (Nat → Int64) × (Nat → Int64)) :=
  if (x1 - x1 / 86400 * 86400) = (0 : Int64) then
  if (w1_0 - 1) < 0 then
    f_TP_addRow_56 nf (x1 - 2208988800) (w1_0 - 1) x3 x4 x6 w0_0 w0_1 w1_0 w2_a w3_a
    else
    if (w1_0 - 1) < 0 ∨ 60 ≤ (w1_0 - 1).toNatClampNeg then none else
      if (w2_a (w1_0 - 1).toNatClampNeg) < (x1 - 2208988800) then
      f_TP_addRow_56 nf (x1 - 2208988800) (w1_0 - 1) x3 x4 x6 w0_0 w0_1 w1_0 w2_a w3_a
      else
      f_TP_addRow_49 nf x3 w0_0 w0_1 w1_0 w2_a w3_a
  else
  f_TP_addRow_49 nf x3 w0_0 w0_1 w1_0 w2_a w3_a
def f_TP_addRow (nf : Nat) (p0 : Int64) (p1 : Int32) (p2 : Int64) (p3 : Int32) (tFault : Int32) (tPlace : Int32) (lCount : Int32) (lTiA : Nat → Int64) (lAhA : Nat → Int64) : Option (Int32 × Int32 × Int32 × Int32 × (Nat → Int64) × (Nat → Int64)) :=
  f_TP_addRow_0 nf p0 p1 p2 p3 tFault tPlace lCount lTiA lAhA
section
variable {p : Program} {l : Launch} {e : Env} {R : Room} {s : State} {m : MethodId} {args : Array Value} {below : List Frame} {meth : Method} {c : Code} {Q : State → Prop} {dC : Nat → ClassId} {dI : Nat → Nat → Nat} {nf : Nat} {A : Nat → Prop}
variable {h0 : Nat} {tTape : Nat} {tTable : Nat} {lTi : Nat} {lAh : Nat} {cAlTi : ClassId} {cAlAh : ClassId} {tFault : Int32} {tPlace : Int32} {tPos : Int32} {tHas : Int32} {lCount : Int32} {lExp : Int64} {lTiA : Nat → Int64} {lAhA : Nat → Int64} {r0 : Int32} {v0_0 : Int32} {v0_1 : Int32} {v1_0 : Int32} {v2_a : Nat → Int64} {v3_a : Nat → Int64}
set_option maxHeartbeats 400000 in
set_option maxRecDepth 100000 in
theorem k_TP_addRow_49 (C0 : Cx p s m meth c args R b_TP_addRow "ZoneFiles$TableParser" 10 (some .boolean) 1 22) (hST : ST A s s.heap) (hA : ∀ q, s.heap.size ≤ q → A q) (hE : ∀ (pc : Nat) (ls : Array Slot) (H : Heap) (locs : List Loc), decode b_TP_addRow pc = .ok (.ireturn, 1) → narrow .boolean (.int r0) = .int r0 → va_P (dC, dI) classes [(h0, .inr (7, [.int v0_0, .int v0_1, .ref tTape, .ref tTable, .int tPos, .int tHas])), (tTable, .inr (4, [.int v1_0, .ref lTi, .ref lAh, .long lExp])), (lTi, .inl (cAlTi, 60, .inr (.inl v2_a))), (lAh, .inl (cAlAh, 60, .inr (.inl v3_a)))] H → va_D A [(h0, .inr (7, [.int v0_0, .int v0_1, .ref tTape, .ref tTable, .int tPos, .int tHas])), (tTable, .inr (4, [.int v1_0, .ref lTi, .ref lAh, .long lExp])), (lTi, .inl (cAlTi, 60, .inr (.inl v2_a))), (lAh, .inl (cAlAh, 60, .inr (.inl v3_a)))] → va_S A s.heap H locs → va_K (dC, dI) classes [(cAlTi, .long), (cAlAh, .long)] s → W p l e R s m args below meth c H locs 0 0 Q (F0 m pc ls [.int r0])) {x3 : Int32} {w0_0 : Int32} {w0_1 : Int32} {w1_0 : Int32} {w2_a : Nat → Int64} {w3_a : Nat → Int64} (hf : f_TP_addRow_49 nf x3 w0_0 w0_1 w1_0 w2_a w3_a = some (r0, v0_0, v0_1, v1_0, v2_a, v3_a)) {H : Heap} {locs : List Loc} {ls : Array Slot} (hK : va_K (dC, dI) classes [(cAlTi, .long), (cAlAh, .long)] s) (hP : va_P (dC, dI) classes [(h0, .inr (7, [.int w0_0, .int w0_1, .ref tTape, .ref tTable, .int tPos, .int tHas])), (tTable, .inr (4, [.int w1_0, .ref lTi, .ref lAh, .long lExp])), (lTi, .inl (cAlTi, 60, .inr (.inl w2_a))), (lAh, .inl (cAlAh, 60, .inr (.inl w3_a)))] H) (hD : va_D A [(h0, .inr (7, [.int w0_0, .int w0_1, .ref tTape, .ref tTable, .int tPos, .int tHas])), (tTable, .inr (4, [.int w1_0, .ref lTi, .ref lAh, .long lExp])), (lTi, .inl (cAlTi, 60, .inr (.inl w2_a))), (lAh, .inl (cAlAh, 60, .inr (.inl w3_a)))]) (hS : va_S A s.heap H locs) (hl : lv_has ls 10 [(0, .ref h0), (3, .int x3)]) : W p l e R s m args below meth c H locs 0 0 Q (F0 m 49 ls []) := by
  obtain ⟨hx, hb, hr, hml, hown, hts, hlocks, hRf, hRl⟩ := id C0
  obtain ⟨tms, hZms, hTms, tmg, hZmg, hTmg, hNW⟩ := id hST
  unfold f_TP_addRow_49 at hf
  refine lv_aload_n hx hb d_TP_addRow_49 rfl (lv_at hl 0 rfl) ?_
  refine lv_iconst (v := 2) hx hb d_TP_addRow_50 (by decide) ?_
  refine lv_iload_n hx hb d_TP_addRow_51 rfl (lv_at hl 1 rfl) ?_
  obtain ⟨⟨z_2, z_3, z_4⟩, hc, hf⟩ := ob hf
  have hPc := hP.sub (ws' := [(h0, .inr (7, [.int w0_0, .int w0_1, .ref tTape, .ref tTable, .int tPos, .int tHas]))]) [0] rfl
  have hDc := hD.sub (ws' := [(h0, .inr (7, [.int w0_0, .int w0_1, .ref tTape, .ref tTable, .int tPos, .int tHas]))]) [0] (by decide) rfl
  have hKc := hK.sub (tys' := []) [] rfl
  have hFc := va_free (wc := [(h0, .inr (7, [.int w0_0, .int w0_1, .ref tTape, .ref tTable, .int tPos, .int tHas]))]) hD hS hA [0] rfl
  refine cl_M (v := (some (.int z_2))) (st1 := [.int z_2]) (va_runV (As := [.int 2, .int x3]) (rest := []) ⟨hx, hb, hml, hown, hts⟩ (c_TP_fail l dC dI h0 tTape tTable H.size nf 2 x3 w0_0 w0_1 tPos tHas hc) (cwV 2 hts (gdV m_2_204 m_2_206 msel_6 m_1_19 m_2_207) rfl rfl rfl (by decide +kernel) ⟨Nat.le_trans (Nat.le_of_ble_eq_true rfl) hRf, Nat.le_trans (Nat.le_of_ble_eq_true rfl) hRl⟩) ((MU.pre hPc hKc hDc (hST.mu hS hFc)).vir (va_recv hKc hPc (ci := 7) (q0 := 0) rfl rfl)) rfl rfl hl.1 rfl (lv_room (Nat.le_of_ble_eq_true rfl)) d_TP_addRow_52 ⟨Nat.zero_le _, Nat.zero_le _⟩) rfl hS (fun q _ h => hFc q h) hFc (fun t H1 locs ht hvm hB hz1 hk1 hS => ?_)
  obtain ⟨hP1, hK1, hD1⟩ := hB
  rw [ht] at hP1
  have hK1 := va_K.moved hvm.symm hK1
  obtain ⟨hP, hD⟩ := va_join (wr := [(tTable, .inr (4, [.int w1_0, .ref lTi, .ref lAh, .long lExp])), (lTi, .inl (cAlTi, 60, .inr (.inl w2_a))), (lAh, .inl (cAlAh, 60, .inr (.inl w3_a)))]) (w1 := [(h0, .inr (7, [.int z_3, .int z_4, .ref tTape, .ref tTable, .int tPos, .int tHas]))]) hP hD [0] [1, 2, 3] rfl rfl (by decide) (by decide) hk1 hFc hP1 hD1
  have hK := (hK.sub (tys' := [(cAlTi, .long), (cAlAh, .long)]) [0, 1] rfl).app hK1
  generalize H1 = H at hP hS ⊢
  have hP := hP.sub (ws' := [(h0, .inr (7, [.int z_3, .int z_4, .ref tTape, .ref tTable, .int tPos, .int tHas])), (tTable, .inr (4, [.int w1_0, .ref lTi, .ref lAh, .long lExp])), (lTi, .inl (cAlTi, 60, .inr (.inl w2_a))), (lAh, .inl (cAlAh, 60, .inr (.inl w3_a)))]) [3, 0, 1, 2] rfl
  have hD := hD.sub (ws' := [(h0, .inr (7, [.int z_3, .int z_4, .ref tTape, .ref tTable, .int tPos, .int tHas])), (tTable, .inr (4, [.int w1_0, .ref lTi, .ref lAh, .long lExp])), (lTi, .inl (cAlTi, 60, .inr (.inl w2_a))), (lAh, .inl (cAlAh, 60, .inr (.inl w3_a)))]) [3, 0, 1, 2] (by decide) rfl
  have hK := hK.sub (tys' := [(cAlTi, .long), (cAlAh, .long)]) [0, 1] rfl
  obtain ⟨c_5, hf⟩ := it_g hf
  cases rs hf
  exact hE _ _ _ _ d_TP_addRow_55 (nb_of c_5) hP hD hS hK
set_option maxHeartbeats 400000 in
set_option maxRecDepth 100000 in
theorem k_TP_addRow_90 (C0 : Cx p s m meth c args R b_TP_addRow "ZoneFiles$TableParser" 10 (some .boolean) 1 22) (hST : ST A s s.heap) (hA : ∀ q, s.heap.size ≤ q → A q) (hE : ∀ (pc : Nat) (ls : Array Slot) (H : Heap) (locs : List Loc), decode b_TP_addRow pc = .ok (.ireturn, 1) → narrow .boolean (.int r0) = .int r0 → va_P (dC, dI) classes [(h0, .inr (7, [.int v0_0, .int v0_1, .ref tTape, .ref tTable, .int tPos, .int tHas])), (tTable, .inr (4, [.int v1_0, .ref lTi, .ref lAh, .long lExp])), (lTi, .inl (cAlTi, 60, .inr (.inl v2_a))), (lAh, .inl (cAlAh, 60, .inr (.inl v3_a)))] H → va_D A [(h0, .inr (7, [.int v0_0, .int v0_1, .ref tTape, .ref tTable, .int tPos, .int tHas])), (tTable, .inr (4, [.int v1_0, .ref lTi, .ref lAh, .long lExp])), (lTi, .inl (cAlTi, 60, .inr (.inl v2_a))), (lAh, .inl (cAlAh, 60, .inr (.inl v3_a)))] → va_S A s.heap H locs → va_K (dC, dI) classes [(cAlTi, .long), (cAlAh, .long)] s → W p l e R s m args below meth c H locs 0 0 Q (F0 m pc ls [.int r0])) {x8 : Int64} {x3 : Int32} {x4 : Int64} {w0_0 : Int32} {w0_1 : Int32} {w1_0 : Int32} {w2_a : Nat → Int64} {w3_a : Nat → Int64} (hf : f_TP_addRow_90 nf x8 x3 x4 w0_0 w0_1 w1_0 w2_a w3_a = some (r0, v0_0, v0_1, v1_0, v2_a, v3_a)) {H : Heap} {locs : List Loc} {ls : Array Slot} (hK : va_K (dC, dI) classes [(cAlTi, .long), (cAlAh, .long)] s) (hP : va_P (dC, dI) classes [(h0, .inr (7, [.int w0_0, .int w0_1, .ref tTape, .ref tTable, .int tPos, .int tHas])), (tTable, .inr (4, [.int w1_0, .ref lTi, .ref lAh, .long lExp])), (lTi, .inl (cAlTi, 60, .inr (.inl w2_a))), (lAh, .inl (cAlAh, 60, .inr (.inl w3_a)))] H) (hD : va_D A [(h0, .inr (7, [.int w0_0, .int w0_1, .ref tTape, .ref tTable, .int tPos, .int tHas])), (tTable, .inr (4, [.int w1_0, .ref lTi, .ref lAh, .long lExp])), (lTi, .inl (cAlTi, 60, .inr (.inl w2_a))), (lAh, .inl (cAlAh, 60, .inr (.inl w3_a)))]) (hS : va_S A s.heap H locs) (hl : lv_has ls 10 [(8, .long x8), (0, .ref h0), (3, .int x3), (4, .long x4)]) : W p l e R s m args below meth c H locs 0 0 Q (F0 m 90 ls []) := by
  obtain ⟨hx, hb, hr, hml, hown, hts, hlocks, hRf, hRl⟩ := id C0
  obtain ⟨tms, hZms, hTms, tmg, hZmg, hTmg, hNW⟩ := id hST
  unfold f_TP_addRow_90 at hf
  refine lv_aload_n hx hb d_TP_addRow_90 rfl (lv_at hl 1 rfl) ?_
  refine va_get (D := (dC, dI)) (ci := 7) (v := .ref tTable) (C := RTableParser) (T := TTableParser) (N := 6) hx hb hts in_TableParser hown hK hP 0 rfl rfl 3 (by decide) (hts (.fieldLink "ZoneFiles$TableParser" 15 "ZoneFiles$TableParser" "table" "LZoneFiles$LeapTable;") m_2_160) (fun _ h9 => h9) rfl d_TP_addRow_91 ?_
  refine va_get (D := (dC, dI)) (ci := 4) (v := .int w1_0) (C := RLeapTable) (T := TLeapTable) (N := 4) hx hb hts in_LeapTable hown hK hP 1 rfl rfl 0 (by decide) (hts (.fieldLink "ZoneFiles$TableParser" 19 "ZoneFiles$LeapTable" "count" "I") m_2_97) (fun _ h9 => h9) rfl d_TP_addRow_94 ?_
  refine lv_bipush (v := 60) hx hb d_TP_addRow_97 (by decide) ?_
  refine lv_icmp_lt (tgt := 109) hx hb d_TP_addRow_99 (by decide) (fun c_8 => ?_) (fun c_8 => ?_)
  · have hf := it_t c_8 hf
    refine lv_aload_n hx hb d_TP_addRow_109 rfl (lv_at hl 1 rfl) ?_
    refine va_get (D := (dC, dI)) (ci := 7) (v := .ref tTable) (C := RTableParser) (T := TTableParser) (N := 6) hx hb hts in_TableParser hown hK hP 0 rfl rfl 3 (by decide) (hts (.fieldLink "ZoneFiles$TableParser" 15 "ZoneFiles$TableParser" "table" "LZoneFiles$LeapTable;") m_2_160) (fun _ h9 => h9) rfl d_TP_addRow_110 ?_
    refine va_get (D := (dC, dI)) (ci := 4) (v := .ref lTi) (C := RLeapTable) (T := TLeapTable) (N := 4) hx hb hts in_LeapTable hown hK hP 1 rfl rfl 1 (by decide) (hts (.fieldLink "ZoneFiles$TableParser" 49 "ZoneFiles$LeapTable" "times" "[J") m_2_100) (fun _ h9 => h9) rfl d_TP_addRow_113 ?_
    refine lv_aload_n hx hb d_TP_addRow_116 rfl (lv_at hl 1 rfl) ?_
    refine va_get (D := (dC, dI)) (ci := 7) (v := .ref tTable) (C := RTableParser) (T := TTableParser) (N := 6) hx hb hts in_TableParser hown hK hP 0 rfl rfl 3 (by decide) (hts (.fieldLink "ZoneFiles$TableParser" 15 "ZoneFiles$TableParser" "table" "LZoneFiles$LeapTable;") m_2_160) (fun _ h9 => h9) rfl d_TP_addRow_117 ?_
    refine va_get (D := (dC, dI)) (ci := 4) (v := .int w1_0) (C := RLeapTable) (T := TLeapTable) (N := 4) hx hb hts in_LeapTable hown hK hP 1 rfl rfl 0 (by decide) (hts (.fieldLink "ZoneFiles$TableParser" 19 "ZoneFiles$LeapTable" "count" "I") m_2_97) (fun _ h9 => h9) rfl d_TP_addRow_120 ?_
    refine lv_lload hx hb d_TP_addRow_123 (lv_at hl 0 rfl) ?_
    obtain ⟨c_9, hf⟩ := it_n hf
    refine va_last hx hb hK hP hD hS 2 0 rfl rfl c_9 d_TP_addRow_125 (fun H locs hP hD hS => ?_)
    have hP : va_P (dC, dI) classes [(h0, .inr (7, [.int w0_0, .int w0_1, .ref tTape, .ref tTable, .int tPos, .int tHas])), (tTable, .inr (4, [.int w1_0, .ref lTi, .ref lAh, .long lExp])), (lTi, .inl (cAlTi, 60, .inr (.inl (vp_updL w2_a w1_0.toNatClampNeg x8)))), (lAh, .inl (cAlAh, 60, .inr (.inl w3_a)))] H := hP
    have hD : va_D A [(h0, .inr (7, [.int w0_0, .int w0_1, .ref tTape, .ref tTable, .int tPos, .int tHas])), (tTable, .inr (4, [.int w1_0, .ref lTi, .ref lAh, .long lExp])), (lTi, .inl (cAlTi, 60, .inr (.inl (vp_updL w2_a w1_0.toNatClampNeg x8)))), (lAh, .inl (cAlAh, 60, .inr (.inl w3_a)))] := hD
    refine lv_aload_n hx hb d_TP_addRow_126 rfl (lv_at hl 1 rfl) ?_
    refine va_get (D := (dC, dI)) (ci := 7) (v := .ref tTable) (C := RTableParser) (T := TTableParser) (N := 6) hx hb hts in_TableParser hown hK hP 0 rfl rfl 3 (by decide) (hts (.fieldLink "ZoneFiles$TableParser" 15 "ZoneFiles$TableParser" "table" "LZoneFiles$LeapTable;") m_2_160) (fun _ h9 => h9) rfl d_TP_addRow_127 ?_
    refine va_get (D := (dC, dI)) (ci := 4) (v := .ref lAh) (C := RLeapTable) (T := TLeapTable) (N := 4) hx hb hts in_LeapTable hown hK hP 1 rfl rfl 2 (by decide) (hts (.fieldLink "ZoneFiles$TableParser" 97 "ZoneFiles$LeapTable" "aheads" "[J") m_2_103) (fun _ h9 => h9) rfl d_TP_addRow_130 ?_
    refine lv_aload_n hx hb d_TP_addRow_133 rfl (lv_at hl 1 rfl) ?_
    refine va_get (D := (dC, dI)) (ci := 7) (v := .ref tTable) (C := RTableParser) (T := TTableParser) (N := 6) hx hb hts in_TableParser hown hK hP 0 rfl rfl 3 (by decide) (hts (.fieldLink "ZoneFiles$TableParser" 15 "ZoneFiles$TableParser" "table" "LZoneFiles$LeapTable;") m_2_160) (fun _ h9 => h9) rfl d_TP_addRow_134 ?_
    refine va_get (D := (dC, dI)) (ci := 4) (v := .int w1_0) (C := RLeapTable) (T := TLeapTable) (N := 4) hx hb hts in_LeapTable hown hK hP 1 rfl rfl 0 (by decide) (hts (.fieldLink "ZoneFiles$TableParser" 19 "ZoneFiles$LeapTable" "count" "I") m_2_97) (fun _ h9 => h9) rfl d_TP_addRow_137 ?_
    refine lv_lload hx hb d_TP_addRow_140 (lv_at hl 3 rfl) ?_
    obtain ⟨c_10, hf⟩ := it_n hf
    refine va_last hx hb hK hP hD hS 3 1 rfl rfl c_10 d_TP_addRow_142 (fun H locs hP hD hS => ?_)
    have hP : va_P (dC, dI) classes [(h0, .inr (7, [.int w0_0, .int w0_1, .ref tTape, .ref tTable, .int tPos, .int tHas])), (tTable, .inr (4, [.int w1_0, .ref lTi, .ref lAh, .long lExp])), (lTi, .inl (cAlTi, 60, .inr (.inl (vp_updL w2_a w1_0.toNatClampNeg x8)))), (lAh, .inl (cAlAh, 60, .inr (.inl (vp_updL w3_a w1_0.toNatClampNeg x4))))] H := hP
    have hD : va_D A [(h0, .inr (7, [.int w0_0, .int w0_1, .ref tTape, .ref tTable, .int tPos, .int tHas])), (tTable, .inr (4, [.int w1_0, .ref lTi, .ref lAh, .long lExp])), (lTi, .inl (cAlTi, 60, .inr (.inl (vp_updL w2_a w1_0.toNatClampNeg x8)))), (lAh, .inl (cAlAh, 60, .inr (.inl (vp_updL w3_a w1_0.toNatClampNeg x4))))] := hD
    refine lv_aload_n hx hb d_TP_addRow_143 rfl (lv_at hl 1 rfl) ?_
    refine va_get (D := (dC, dI)) (ci := 7) (v := .ref tTable) (C := RTableParser) (T := TTableParser) (N := 6) hx hb hts in_TableParser hown hK hP 0 rfl rfl 3 (by decide) (hts (.fieldLink "ZoneFiles$TableParser" 15 "ZoneFiles$TableParser" "table" "LZoneFiles$LeapTable;") m_2_160) (fun _ h9 => h9) rfl d_TP_addRow_144 ?_
    refine lv_dup hx hb d_TP_addRow_147 rfl ?_
    refine va_get (D := (dC, dI)) (ci := 4) (v := .int w1_0) (C := RLeapTable) (T := TLeapTable) (N := 4) hx hb hts in_LeapTable hown hK hP 1 rfl rfl 0 (by decide) (hts (.fieldLink "ZoneFiles$TableParser" 19 "ZoneFiles$LeapTable" "count" "I") m_2_97) (fun _ h9 => h9) rfl d_TP_addRow_148 ?_
    refine lv_iconst (v := 1) hx hb d_TP_addRow_151 (by decide) ?_
    refine lv_iadd hx hb d_TP_addRow_152 ?_
    refine va_put (D := (dC, dI)) (ci := 4) (v := .int (w1_0 + 1)) (ty := .int) (C := RLeapTable) (T := TLeapTable) (N := 4) hx hb hts in_LeapTable tyLeapTable ty_LeapTable nm_LeapTable hown hK hP hD hS 1 rfl rfl 0 (by decide) (hts (.fieldLink "ZoneFiles$TableParser" 19 "ZoneFiles$LeapTable" "count" "I") m_2_97) (fun _ h9 => h9) rfl (by decide +kernel) rfl rfl (Nat.le_of_ble_eq_true rfl) d_TP_addRow_153 (fun H locs hP hD hS => ?_)
    have hP : va_P (dC, dI) classes [(h0, .inr (7, [.int w0_0, .int w0_1, .ref tTape, .ref tTable, .int tPos, .int tHas])), (tTable, .inr (4, [.int (w1_0 + 1), .ref lTi, .ref lAh, .long lExp])), (lTi, .inl (cAlTi, 60, .inr (.inl (vp_updL w2_a w1_0.toNatClampNeg x8)))), (lAh, .inl (cAlAh, 60, .inr (.inl (vp_updL w3_a w1_0.toNatClampNeg x4))))] H := hP
    have hD : va_D A [(h0, .inr (7, [.int w0_0, .int w0_1, .ref tTape, .ref tTable, .int tPos, .int tHas])), (tTable, .inr (4, [.int (w1_0 + 1), .ref lTi, .ref lAh, .long lExp])), (lTi, .inl (cAlTi, 60, .inr (.inl (vp_updL w2_a w1_0.toNatClampNeg x8)))), (lAh, .inl (cAlAh, 60, .inr (.inl (vp_updL w3_a w1_0.toNatClampNeg x4))))] := hD
    refine lv_iconst (v := 1) hx hb d_TP_addRow_156 (by decide) ?_
    cases rs hf
    exact hE _ _ _ _ d_TP_addRow_157 rfl hP hD hS hK
  · have hf := it_f c_8 hf
    refine lv_aload_n hx hb d_TP_addRow_102 rfl (lv_at hl 1 rfl) ?_
    refine lv_iconst (v := 4) hx hb d_TP_addRow_103 (by decide) ?_
    refine lv_iload_n hx hb d_TP_addRow_104 rfl (lv_at hl 2 rfl) ?_
    obtain ⟨⟨z_11, z_12, z_13⟩, hc, hf⟩ := ob hf
    have hPc := hP.sub (ws' := [(h0, .inr (7, [.int w0_0, .int w0_1, .ref tTape, .ref tTable, .int tPos, .int tHas]))]) [0] rfl
    have hDc := hD.sub (ws' := [(h0, .inr (7, [.int w0_0, .int w0_1, .ref tTape, .ref tTable, .int tPos, .int tHas]))]) [0] (by decide) rfl
    have hKc := hK.sub (tys' := []) [] rfl
    have hFc := va_free (wc := [(h0, .inr (7, [.int w0_0, .int w0_1, .ref tTape, .ref tTable, .int tPos, .int tHas]))]) hD hS hA [0] rfl
    refine cl_M (v := (some (.int z_11))) (st1 := [.int z_11]) (va_runV (As := [.int 4, .int x3]) (rest := []) ⟨hx, hb, hml, hown, hts⟩ (c_TP_fail l dC dI h0 tTape tTable H.size nf 4 x3 w0_0 w0_1 tPos tHas hc) (cwV 2 hts (gdV m_2_204 m_2_206 msel_6 m_1_19 m_2_207) rfl rfl rfl (by decide +kernel) ⟨Nat.le_trans (Nat.le_of_ble_eq_true rfl) hRf, Nat.le_trans (Nat.le_of_ble_eq_true rfl) hRl⟩) ((MU.pre hPc hKc hDc (hST.mu hS hFc)).vir (va_recv hKc hPc (ci := 7) (q0 := 0) rfl rfl)) rfl rfl hl.1 rfl (lv_room (Nat.le_of_ble_eq_true rfl)) d_TP_addRow_105 ⟨Nat.zero_le _, Nat.zero_le _⟩) rfl hS (fun q _ h => hFc q h) hFc (fun t H1 locs ht hvm hB hz1 hk1 hS => ?_)
    obtain ⟨hP1, hK1, hD1⟩ := hB
    rw [ht] at hP1
    have hK1 := va_K.moved hvm.symm hK1
    obtain ⟨hP, hD⟩ := va_join (wr := [(tTable, .inr (4, [.int w1_0, .ref lTi, .ref lAh, .long lExp])), (lTi, .inl (cAlTi, 60, .inr (.inl w2_a))), (lAh, .inl (cAlAh, 60, .inr (.inl w3_a)))]) (w1 := [(h0, .inr (7, [.int z_12, .int z_13, .ref tTape, .ref tTable, .int tPos, .int tHas]))]) hP hD [0] [1, 2, 3] rfl rfl (by decide) (by decide) hk1 hFc hP1 hD1
    have hK := (hK.sub (tys' := [(cAlTi, .long), (cAlAh, .long)]) [0, 1] rfl).app hK1
    generalize H1 = H at hP hS ⊢
    have hP := hP.sub (ws' := [(h0, .inr (7, [.int z_12, .int z_13, .ref tTape, .ref tTable, .int tPos, .int tHas])), (tTable, .inr (4, [.int w1_0, .ref lTi, .ref lAh, .long lExp])), (lTi, .inl (cAlTi, 60, .inr (.inl w2_a))), (lAh, .inl (cAlAh, 60, .inr (.inl w3_a)))]) [3, 0, 1, 2] rfl
    have hD := hD.sub (ws' := [(h0, .inr (7, [.int z_12, .int z_13, .ref tTape, .ref tTable, .int tPos, .int tHas])), (tTable, .inr (4, [.int w1_0, .ref lTi, .ref lAh, .long lExp])), (lTi, .inl (cAlTi, 60, .inr (.inl w2_a))), (lAh, .inl (cAlAh, 60, .inr (.inl w3_a)))]) [3, 0, 1, 2] (by decide) rfl
    have hK := hK.sub (tys' := [(cAlTi, .long), (cAlAh, .long)]) [0, 1] rfl
    obtain ⟨c_14, hf⟩ := it_g hf
    cases rs hf
    exact hE _ _ _ _ d_TP_addRow_108 (nb_of c_14) hP hD hS hK
set_option maxHeartbeats 400000 in
set_option maxRecDepth 100000 in
theorem k_TP_addRow_56 (C0 : Cx p s m meth c args R b_TP_addRow "ZoneFiles$TableParser" 10 (some .boolean) 1 22) (hST : ST A s s.heap) (hA : ∀ q, s.heap.size ≤ q → A q) (hE : ∀ (pc : Nat) (ls : Array Slot) (H : Heap) (locs : List Loc), decode b_TP_addRow pc = .ok (.ireturn, 1) → narrow .boolean (.int r0) = .int r0 → va_P (dC, dI) classes [(h0, .inr (7, [.int v0_0, .int v0_1, .ref tTape, .ref tTable, .int tPos, .int tHas])), (tTable, .inr (4, [.int v1_0, .ref lTi, .ref lAh, .long lExp])), (lTi, .inl (cAlTi, 60, .inr (.inl v2_a))), (lAh, .inl (cAlAh, 60, .inr (.inl v3_a)))] H → va_D A [(h0, .inr (7, [.int v0_0, .int v0_1, .ref tTape, .ref tTable, .int tPos, .int tHas])), (tTable, .inr (4, [.int v1_0, .ref lTi, .ref lAh, .long lExp])), (lTi, .inl (cAlTi, 60, .inr (.inl v2_a))), (lAh, .inl (cAlAh, 60, .inr (.inl v3_a)))] → va_S A s.heap H locs → va_K (dC, dI) classes [(cAlTi, .long), (cAlAh, .long)] s → W p l e R s m args below meth c H locs 0 0 Q (F0 m pc ls [.int r0])) {x8 : Int64} {x7 : Int32} {x3 : Int32} {x4 : Int64} {x6 : Int32} {w0_0 : Int32} {w0_1 : Int32} {w1_0 : Int32} {w2_a : Nat → Int64} {w3_a : Nat → Int64} (hf : f_TP_addRow_56 nf x8 x7 x3 x4 x6 w0_0 w0_1 w1_0 w2_a w3_a = some (r0, v0_0, v0_1, v1_0, v2_a, v3_a)) {H : Heap} {locs : List Loc} {ls : Array Slot} (hK : va_K (dC, dI) classes [(cAlTi, .long), (cAlAh, .long)] s) (hP : va_P (dC, dI) classes [(h0, .inr (7, [.int w0_0, .int w0_1, .ref tTape, .ref tTable, .int tPos, .int tHas])), (tTable, .inr (4, [.int w1_0, .ref lTi, .ref lAh, .long lExp])), (lTi, .inl (cAlTi, 60, .inr (.inl w2_a))), (lAh, .inl (cAlAh, 60, .inr (.inl w3_a)))] H) (hD : va_D A [(h0, .inr (7, [.int w0_0, .int w0_1, .ref tTape, .ref tTable, .int tPos, .int tHas])), (tTable, .inr (4, [.int w1_0, .ref lTi, .ref lAh, .long lExp])), (lTi, .inl (cAlTi, 60, .inr (.inl w2_a))), (lAh, .inl (cAlAh, 60, .inr (.inl w3_a)))]) (hS : va_S A s.heap H locs) (hl : lv_has ls 10 [(8, .long x8), (7, .int x7), (0, .ref h0), (3, .int x3), (4, .long x4), (6, .int x6)]) : W p l e R s m args below meth c H locs 0 0 Q (F0 m 56 ls []) := by
  obtain ⟨hx, hb, hr, hml, hown, hts, hlocks, hRf, hRl⟩ := id C0
  obtain ⟨tms, hZms, hTms, tmg, hZmg, hTmg, hNW⟩ := id hST
  unfold f_TP_addRow_56 at hf
  refine lv_iload hx hb d_TP_addRow_56 (lv_at hl 1 rfl) ?_
  refine lv_if_lt (tgt := 90) hx hb d_TP_addRow_58 (by decide) (fun c_7 => ?_) (fun c_7 => ?_)
  · have hf := it_t c_7 hf
    exact k_TP_addRow_90 C0 hST hA hE hf hK hP hD hS (lv_sub hl [0, 2, 3, 4] rfl)
  · have hf := it_f c_7 hf
    refine lv_lload hx hb d_TP_addRow_61 (lv_at hl 4 rfl) ?_
    refine lv_aload_n hx hb d_TP_addRow_63 rfl (lv_at hl 2 rfl) ?_
    refine va_get (D := (dC, dI)) (ci := 7) (v := .ref tTable) (C := RTableParser) (T := TTableParser) (N := 6) hx hb hts in_TableParser hown hK hP 0 rfl rfl 3 (by decide) (hts (.fieldLink "ZoneFiles$TableParser" 15 "ZoneFiles$TableParser" "table" "LZoneFiles$LeapTable;") m_2_160) (fun _ h9 => h9) rfl d_TP_addRow_64 ?_
    refine va_get (D := (dC, dI)) (ci := 4) (v := .ref lAh) (C := RLeapTable) (T := TLeapTable) (N := 4) hx hb hts in_LeapTable hown hK hP 1 rfl rfl 2 (by decide) (hts (.fieldLink "ZoneFiles$TableParser" 97 "ZoneFiles$LeapTable" "aheads" "[J") m_2_103) (fun _ h9 => h9) rfl d_TP_addRow_67 ?_
    refine lv_iload hx hb d_TP_addRow_70 (lv_at hl 1 rfl) ?_
    obtain ⟨c_15, hf⟩ := it_n hf
    refine va_lald hx hb hK hP 3 1 rfl rfl c_15 d_TP_addRow_72 ?_
    refine lv_lsub hx hb d_TP_addRow_73 ?_
    refine va_mabs_long hx hb (by rw [hml]; exact hl.1.symm) hown (hts (.methodLink "ZoneFiles$TableParser" 100 ⟨"java/lang/Math", "abs", "(J)J"⟩) m_2_227) (hts (.static ⟨"java/lang/Math", "abs", "(J)J"⟩) m_2_228) (hts (.initialized "java/lang/Math") m_1_7) (hts (.code ⟨"java/lang/Math", "abs", "(J)J"⟩ prog_20_method_61_code 2 (some .long)) m_2_229) (Nat.le_trans (Nat.le_of_ble_eq_true rfl) hRf) (Nat.le_trans (Nat.le_of_ble_eq_true rfl) hRl) (Nat.zero_le _) (Nat.zero_le _) d_TP_addRow_74 ?_
    refine lv_lconst (v := 1) hx hb d_TP_addRow_77 (by decide) ?_
    refine lc_eq (tgt := 90) hx hb d_TP_addRow_78 d_TP_addRow_79 (by decide) (fun c_16 => ?_) (fun c_16 => ?_)
    · have hf := it_t c_16 hf
      exact k_TP_addRow_90 C0 hST hA hE hf hK hP hD hS (lv_sub hl [0, 2, 3, 4] rfl)
    · have hf := it_f c_16 hf
      refine lv_aload_n hx hb d_TP_addRow_82 rfl (lv_at hl 2 rfl) ?_
      refine lv_iconst (v := 3) hx hb d_TP_addRow_83 (by decide) ?_
      refine lv_iload hx hb d_TP_addRow_84 (lv_at hl 5 rfl) ?_
      obtain ⟨⟨z_17, z_18, z_19⟩, hc, hf⟩ := ob hf
      have hPc := hP.sub (ws' := [(h0, .inr (7, [.int w0_0, .int w0_1, .ref tTape, .ref tTable, .int tPos, .int tHas]))]) [0] rfl
      have hDc := hD.sub (ws' := [(h0, .inr (7, [.int w0_0, .int w0_1, .ref tTape, .ref tTable, .int tPos, .int tHas]))]) [0] (by decide) rfl
      have hKc := hK.sub (tys' := []) [] rfl
      have hFc := va_free (wc := [(h0, .inr (7, [.int w0_0, .int w0_1, .ref tTape, .ref tTable, .int tPos, .int tHas]))]) hD hS hA [0] rfl
      refine cl_M (v := (some (.int z_17))) (st1 := [.int z_17]) (va_runV (As := [.int 3, .int x6]) (rest := []) ⟨hx, hb, hml, hown, hts⟩ (c_TP_fail l dC dI h0 tTape tTable H.size nf 3 x6 w0_0 w0_1 tPos tHas hc) (cwV 2 hts (gdV m_2_204 m_2_206 msel_6 m_1_19 m_2_207) rfl rfl rfl (by decide +kernel) ⟨Nat.le_trans (Nat.le_of_ble_eq_true rfl) hRf, Nat.le_trans (Nat.le_of_ble_eq_true rfl) hRl⟩) ((MU.pre hPc hKc hDc (hST.mu hS hFc)).vir (va_recv hKc hPc (ci := 7) (q0 := 0) rfl rfl)) rfl rfl hl.1 rfl (lv_room (Nat.le_of_ble_eq_true rfl)) d_TP_addRow_86 ⟨Nat.zero_le _, Nat.zero_le _⟩) rfl hS (fun q _ h => hFc q h) hFc (fun t H1 locs ht hvm hB hz1 hk1 hS => ?_)
      obtain ⟨hP1, hK1, hD1⟩ := hB
      rw [ht] at hP1
      have hK1 := va_K.moved hvm.symm hK1
      obtain ⟨hP, hD⟩ := va_join (wr := [(tTable, .inr (4, [.int w1_0, .ref lTi, .ref lAh, .long lExp])), (lTi, .inl (cAlTi, 60, .inr (.inl w2_a))), (lAh, .inl (cAlAh, 60, .inr (.inl w3_a)))]) (w1 := [(h0, .inr (7, [.int z_18, .int z_19, .ref tTape, .ref tTable, .int tPos, .int tHas]))]) hP hD [0] [1, 2, 3] rfl rfl (by decide) (by decide) hk1 hFc hP1 hD1
      have hK := (hK.sub (tys' := [(cAlTi, .long), (cAlAh, .long)]) [0, 1] rfl).app hK1
      generalize H1 = H at hP hS ⊢
      have hP := hP.sub (ws' := [(h0, .inr (7, [.int z_18, .int z_19, .ref tTape, .ref tTable, .int tPos, .int tHas])), (tTable, .inr (4, [.int w1_0, .ref lTi, .ref lAh, .long lExp])), (lTi, .inl (cAlTi, 60, .inr (.inl w2_a))), (lAh, .inl (cAlAh, 60, .inr (.inl w3_a)))]) [3, 0, 1, 2] rfl
      have hD := hD.sub (ws' := [(h0, .inr (7, [.int z_18, .int z_19, .ref tTape, .ref tTable, .int tPos, .int tHas])), (tTable, .inr (4, [.int w1_0, .ref lTi, .ref lAh, .long lExp])), (lTi, .inl (cAlTi, 60, .inr (.inl w2_a))), (lAh, .inl (cAlAh, 60, .inr (.inl w3_a)))]) [3, 0, 1, 2] (by decide) rfl
      have hK := hK.sub (tys' := [(cAlTi, .long), (cAlAh, .long)]) [0, 1] rfl
      obtain ⟨c_20, hf⟩ := it_g hf
      cases rs hf
      exact hE _ _ _ _ d_TP_addRow_89 (nb_of c_20) hP hD hS hK
set_option maxHeartbeats 400000 in
set_option maxRecDepth 100000 in
theorem k_TP_addRow_0 (C0 : Cx p s m meth c args R b_TP_addRow "ZoneFiles$TableParser" 10 (some .boolean) 1 22) (hST : ST A s s.heap) (hA : ∀ q, s.heap.size ≤ q → A q) (hE : ∀ (pc : Nat) (ls : Array Slot) (H : Heap) (locs : List Loc), decode b_TP_addRow pc = .ok (.ireturn, 1) → narrow .boolean (.int r0) = .int r0 → va_P (dC, dI) classes [(h0, .inr (7, [.int v0_0, .int v0_1, .ref tTape, .ref tTable, .int tPos, .int tHas])), (tTable, .inr (4, [.int v1_0, .ref lTi, .ref lAh, .long lExp])), (lTi, .inl (cAlTi, 60, .inr (.inl v2_a))), (lAh, .inl (cAlAh, 60, .inr (.inl v3_a)))] H → va_D A [(h0, .inr (7, [.int v0_0, .int v0_1, .ref tTape, .ref tTable, .int tPos, .int tHas])), (tTable, .inr (4, [.int v1_0, .ref lTi, .ref lAh, .long lExp])), (lTi, .inl (cAlTi, 60, .inr (.inl v2_a))), (lAh, .inl (cAlAh, 60, .inr (.inl v3_a)))] → va_S A s.heap H locs → va_K (dC, dI) classes [(cAlTi, .long), (cAlAh, .long)] s → W p l e R s m args below meth c H locs 0 0 Q (F0 m pc ls [.int r0])) {x1 : Int64} {x3 : Int32} {x4 : Int64} {x6 : Int32} {w0_0 : Int32} {w0_1 : Int32} {w1_0 : Int32} {w2_a : Nat → Int64} {w3_a : Nat → Int64} (hf : f_TP_addRow_0 nf x1 x3 x4 x6 w0_0 w0_1 w1_0 w2_a w3_a = some (r0, v0_0, v0_1, v1_0, v2_a, v3_a)) {H : Heap} {locs : List Loc} {ls : Array Slot} (hK : va_K (dC, dI) classes [(cAlTi, .long), (cAlAh, .long)] s) (hP : va_P (dC, dI) classes [(h0, .inr (7, [.int w0_0, .int w0_1, .ref tTape, .ref tTable, .int tPos, .int tHas])), (tTable, .inr (4, [.int w1_0, .ref lTi, .ref lAh, .long lExp])), (lTi, .inl (cAlTi, 60, .inr (.inl w2_a))), (lAh, .inl (cAlAh, 60, .inr (.inl w3_a)))] H) (hD : va_D A [(h0, .inr (7, [.int w0_0, .int w0_1, .ref tTape, .ref tTable, .int tPos, .int tHas])), (tTable, .inr (4, [.int w1_0, .ref lTi, .ref lAh, .long lExp])), (lTi, .inl (cAlTi, 60, .inr (.inl w2_a))), (lAh, .inl (cAlAh, 60, .inr (.inl w3_a)))]) (hS : va_S A s.heap H locs) (hl : lv_has ls 10 [(0, .ref h0), (1, .long x1), (3, .int x3), (4, .long x4), (6, .int x6)]) : W p l e R s m args below meth c H locs 0 0 Q (F0 m 0 ls []) := by
  obtain ⟨hx, hb, hr, hml, hown, hts, hlocks, hRf, hRl⟩ := id C0
  obtain ⟨tms, hZms, hTms, tmg, hZmg, hTmg, hNW⟩ := id hST
  unfold f_TP_addRow_0 at hf
  refine lv_aload_n hx hb d_TP_addRow_0 rfl (lv_at hl 0 rfl) ?_
  refine va_get (D := (dC, dI)) (ci := 7) (v := .ref tTable) (C := RTableParser) (T := TTableParser) (N := 6) hx hb hts in_TableParser hown hK hP 0 rfl rfl 3 (by decide) (hts (.fieldLink "ZoneFiles$TableParser" 15 "ZoneFiles$TableParser" "table" "LZoneFiles$LeapTable;") m_2_160) (fun _ h9 => h9) rfl d_TP_addRow_1 ?_
  refine va_get (D := (dC, dI)) (ci := 4) (v := .int w1_0) (C := RLeapTable) (T := TLeapTable) (N := 4) hx hb hts in_LeapTable hown hK hP 1 rfl rfl 0 (by decide) (hts (.fieldLink "ZoneFiles$TableParser" 19 "ZoneFiles$LeapTable" "count" "I") m_2_97) (fun _ h9 => h9) rfl d_TP_addRow_4 ?_
  refine lv_iconst (v := 1) hx hb d_TP_addRow_7 (by decide) ?_
  refine lv_isub hx hb d_TP_addRow_8 ?_
  refine lv_istore (lv' := [(7, .int (w1_0 - 1)), (0, .ref h0), (1, .long x1), (3, .int x3), (4, .long x4), (6, .int x6)]) hx hb d_TP_addRow_9 hl (by decide) rfl (fun ls hl => ?_)
  refine lv_lload_n hx hb d_TP_addRow_11 rfl (lv_at hl 2 rfl) ?_
  refine lv_ldc2 (v := 2208988800) hx hb hown (hts (.constantLong "ZoneFiles$TableParser" 86 2208988800) m_2_213) d_TP_addRow_12 ?_
  refine lv_lsub hx hb d_TP_addRow_15 ?_
  refine lv_lstore (lv' := [(8, .long (x1 - 2208988800)), (7, .int (w1_0 - 1)), (0, .ref h0), (1, .long x1), (3, .int x3), (4, .long x4), (6, .int x6)]) hx hb d_TP_addRow_16 hl (by decide) rfl (fun ls hl => ?_)
  refine lv_lload_n hx hb d_TP_addRow_18 rfl (lv_at hl 3 rfl) ?_
  refine lv_ldc2 (v := 86400) hx hb hown (hts (.constantLong "ZoneFiles$TableParser" 95 86400) m_2_226) d_TP_addRow_19 ?_
  refine lv_lrem hx hb d_TP_addRow_22 (by decide) ?_
  refine lv_lconst (v := 0) hx hb d_TP_addRow_23 (by decide) ?_
  refine lc_ne (tgt := 49) hx hb d_TP_addRow_24 d_TP_addRow_25 (by decide) (fun c_1 => ?_) (fun c_1 => ?_)
  · have hf := it_f c_1 hf
    exact k_TP_addRow_49 C0 hST hA hE hf hK hP hD hS (lv_sub hl [2, 4] rfl)
  · have hf := it_t c_1 hf
    refine lv_iload hx hb d_TP_addRow_28 (lv_at hl 1 rfl) ?_
    refine lv_if_lt (tgt := 56) hx hb d_TP_addRow_30 (by decide) (fun c_6 => ?_) (fun c_6 => ?_)
    · have hf := it_t c_6 hf
      exact k_TP_addRow_56 C0 hST hA hE hf hK hP hD hS (lv_sub hl [0, 1, 2, 4, 5, 6] rfl)
    · have hf := it_f c_6 hf
      refine lv_lload hx hb d_TP_addRow_33 (lv_at hl 0 rfl) ?_
      refine lv_aload_n hx hb d_TP_addRow_35 rfl (lv_at hl 2 rfl) ?_
      refine va_get (D := (dC, dI)) (ci := 7) (v := .ref tTable) (C := RTableParser) (T := TTableParser) (N := 6) hx hb hts in_TableParser hown hK hP 0 rfl rfl 3 (by decide) (hts (.fieldLink "ZoneFiles$TableParser" 15 "ZoneFiles$TableParser" "table" "LZoneFiles$LeapTable;") m_2_160) (fun _ h9 => h9) rfl d_TP_addRow_36 ?_
      refine va_get (D := (dC, dI)) (ci := 4) (v := .ref lTi) (C := RLeapTable) (T := TLeapTable) (N := 4) hx hb hts in_LeapTable hown hK hP 1 rfl rfl 1 (by decide) (hts (.fieldLink "ZoneFiles$TableParser" 49 "ZoneFiles$LeapTable" "times" "[J") m_2_100) (fun _ h9 => h9) rfl d_TP_addRow_39 ?_
      refine lv_iload hx hb d_TP_addRow_42 (lv_at hl 1 rfl) ?_
      obtain ⟨c_21, hf⟩ := it_n hf
      refine va_lald hx hb hK hP 2 0 rfl rfl c_21 d_TP_addRow_44 ?_
      refine lc_gt (tgt := 56) hx hb d_TP_addRow_45 d_TP_addRow_46 (by decide) (fun c_22 => ?_) (fun c_22 => ?_)
      · have hf := it_t c_22 hf
        exact k_TP_addRow_56 C0 hST hA hE hf hK hP hD hS (lv_sub hl [0, 1, 2, 4, 5, 6] rfl)
      · have hf := it_f c_22 hf
        exact k_TP_addRow_49 C0 hST hA hE hf hK hP hD hS (lv_sub hl [2, 4] rfl)
end
set_option maxHeartbeats 400000 in
set_option maxRecDepth 100000 in
theorem c_TP_addRow (l : Launch) (dC : Nat → ClassId) (dI : Nat → Nat → Nat) (h0 : Nat) (tTape : Nat) (tTable : Nat) (lTi : Nat) (lAh : Nat) (cAlTi : ClassId) (cAlAh : ClassId) (sz : Nat) (nf : Nat) (p0 : Int64) (p1 : Int32) (p2 : Int64) (p3 : Int32) (tFault : Int32) (tPlace : Int32) (tPos : Int32) (tHas : Int32) (lCount : Int32) (lExp : Int64) (lTiA : Nat → Int64) (lAhA : Nat → Int64) {r0 : Int32} {v0_0 : Int32} {v0_1 : Int32} {v1_0 : Int32} {v2_a : Nat → Int64} {v3_a : Nat → Int64} (hf : f_TP_addRow nf p0 p1 p2 p3 tFault tPlace lCount lTiA lAhA = some (r0, v0_0, v0_1, v1_0, v2_a, v3_a)) : Met l y_TP_addRow (wd y_TP_addRow b_TP_addRow 10 (some .boolean)) ({ frames := 1, cells := 0, slots := 0, locals := 22 }) (MU dC dI [(h0, .inr (7, [.int tFault, .int tPlace, .ref tTape, .ref tTable, .int tPos, .int tHas])), (tTable, .inr (4, [.int lCount, .ref lTi, .ref lAh, .long lExp])), (lTi, .inl (cAlTi, 60, .inr (.inl lTiA))), (lAh, .inl (cAlAh, 60, .inr (.inl lAhA)))] [(cAlTi, .long), (cAlAh, .long)] sz [.ref h0, .long p0, .int p1, .long p2, .int p3]) (MV (some (.int r0)) (fun t => va_P (dC, dI) classes [(h0, .inr (7, [.int v0_0, .int v0_1, .ref tTape, .ref tTable, .int tPos, .int tHas])), (tTable, .inr (4, [.int v1_0, .ref lTi, .ref lAh, .long lExp])), (lTi, .inl (cAlTi, 60, .inr (.inl v2_a))), (lAh, .inl (cAlAh, 60, .inr (.inl v3_a)))] t.heap ∧ va_K (dC, dI) classes [(cAlTi, .long), (cAlAh, .long)] t ∧ va_D (va_A [(h0, .inr (7, [.int tFault, .int tPlace, .ref tTape, .ref tTable, .int tPos, .int tHas])), (tTable, .inr (4, [.int lCount, .ref lTi, .ref lAh, .long lExp])), (lTi, .inl (cAlTi, 60, .inr (.inl lTiA))), (lAh, .inl (cAlAh, 60, .inr (.inl lAhA)))] sz) [(h0, .inr (7, [.int v0_0, .int v0_1, .ref tTape, .ref tTable, .int tPos, .int tHas])), (tTable, .inr (4, [.int v1_0, .ref lTi, .ref lAh, .long lExp])), (lTi, .inl (cAlTi, 60, .inr (.inl v2_a))), (lAh, .inl (cAlAh, 60, .inr (.inl v3_a)))]) (va_A [(h0, .inr (7, [.int tFault, .int tPlace, .ref tTape, .ref tTable, .int tPos, .int tHas])), (tTable, .inr (4, [.int lCount, .ref lTi, .ref lAh, .long lExp])), (lTi, .inl (cAlTi, 60, .inr (.inl lTiA))), (lAh, .inl (cAlAh, 60, .inr (.inl lAhA)))] sz)) 0 0 (va_A [(h0, .inr (7, [.int tFault, .int tPlace, .ref tTape, .ref tTable, .int tPos, .int tHas])), (tTable, .inr (4, [.int lCount, .ref lTi, .ref lAh, .long lExp])), (lTi, .inl (cAlTi, 60, .inr (.inl lTiA))), (lAh, .inl (cAlAh, 60, .inr (.inl lAhA)))] sz) :=
  met_M (plainFor_of_name (by decide)) (Nat.le_of_ble_eq_true rfl) (fun p e R s m args below meth c ls hRc hRs hsz hin C0 hST hK hP hD hl => by
    obtain ⟨hx, hb, hr, hml, hown, hts, hlocks, hRf, hRl⟩ := id C0
    subst hsz
    have hA : ∀ q : Nat, s.heap.size ≤ q → va_A [(h0, .inr (7, [.int tFault, .int tPlace, .ref tTape, .ref tTable, .int tPos, .int tHas])), (tTable, .inr (4, [.int lCount, .ref lTi, .ref lAh, .long lExp])), (lTi, .inl (cAlTi, 60, .inr (.inl lTiA))), (lAh, .inl (cAlAh, 60, .inr (.inl lAhA)))] s.heap.size q := fun q h => Or.inr h
    have hS : va_S (va_A [(h0, .inr (7, [.int tFault, .int tPlace, .ref tTape, .ref tTable, .int tPos, .int tHas])), (tTable, .inr (4, [.int lCount, .ref lTi, .ref lAh, .long lExp])), (lTi, .inl (cAlTi, 60, .inr (.inl lTiA))), (lAh, .inl (cAlAh, 60, .inr (.inl lAhA)))] s.heap.size) s.heap s.heap [] := va_S.rf
    unfold f_TP_addRow at hf
    exact k_TP_addRow_0 C0 hST hA (fun pc ls H locs hd hn hP hD hS hK => W.zret hx hb hr hn (fun t ht hW => ⟨⟨rfl, ⟨by rw [ht]; exact hP, va_K.moved hW.alike hK, hD⟩⟩, hS.F ht⟩) hS.2.2 hd) hf hK hP hD hS (lv_sub hl [0, 1, 2, 3, 4] rfl))
-- ZoneFiles$TableParser.readRow()Z
def f_TP_readRow_119 (nf : Nat) (s0 : Int32) (w0_0 : Int32) (w0_1 : Int32) (w0_4 : Int32) (w3_0 : Int32) (w4_a : Nat → Int64) (w5_a : Nat → Int64) : Option (Int32 × Int32 × Int32 × Int32 × Int32 × (Nat → Int64) × (Nat → Int64)) :=
  if s0 = 0 ∨ s0 = 1 then some (s0, w0_0, w0_1, w0_4, w3_0, w4_a, w5_a) else none
def f_TP_readRow_118 (nf : Nat) (w0_0 : Int32) (w0_1 : Int32) (w0_4 : Int32) (w3_0 : Int32) (w4_a : Nat → Int64) (w5_a : Nat → Int64) : Option (Int32 × Int32 × Int32 × Int32 × Int32 × (Nat → Int64) × (Nat → Int64)) :=
  f_TP_readRow_119 nf 0 w0_0 w0_1 w0_4 w3_0 w4_a w5_a
def f_TP_readRow_94 (nf : Nat) (tpS : Int32) (tpN : Nat) (tpA : Nat → Int32) (x5 : Int64) (x4 : Int32) (x2 : Int64) (x1 : Int32) (w0_0 : Int32) (w0_1 : Int32) (w0_4 : Int32) (w3_0 : Int32) (w4_a : Nat → Int64) (w5_a : Nat → Int64) : Option (Int32 × Int32 × Int32 × Int32 × Int32 × (Nat → Int64) × (Nat → Int64)) :=
  (f_TP_passLineEnd nf w0_0 w0_1 w0_4 tpS tpN tpA).bind fun (z_26, z_27, z_28, z_29) =>
  if z_26 = 0 then
  f_TP_readRow_118 nf z_27 z_28 z_29 w3_0 w4_a w5_a
  else
  (f_TP_addRow nf x2 x1 x5 x4 z_27 z_28 w3_0 w4_a w5_a).bind fun (z_34, z_35, z_36, z_37, z_38, z_39) =>
    if z_34 = 0 then
    f_TP_readRow_118 nf z_35 z_36 z_29 z_37 z_38 z_39
    else
    f_TP_readRow_119 nf 1 z_35 z_36 z_29 z_37 z_38 z_39
def f_TP_readRow_0 (nf : Nat) (tpS : Int32) (tpN : Nat) (tpA : Nat → Int32) (w0_0 : Int32) (w0_1 : Int32) (w0_4 : Int32) (w3_0 : Int32) (w4_a : Nat → Int64) (w5_a : Nat → Int64) : Option (Int32 × Int32 × Int32 × Int32 × Int32 × (Nat → Int64) × (Nat → Int64)) :=
  (f_TP_readNumber nf w0_0 w0_1 w0_4 tpS tpN tpA).bind fun (z_1, z_2, z_3, z_4) =>
  if (0 : Int64) ≤ z_1 then
  (f_By_get nf z_4 tpS tpN tpA).bind fun r_8 =>
    (f_TP_isBlank nf r_8).bind fun r_9 =>
    if r_9 = 0 then
    (f_TP_fail nf 1 z_4 z_2 z_3).bind fun (z_44, z_45, z_46) =>
      if z_44 = 0 ∨ z_44 = 1 then some (z_44, z_45, z_46, z_4, w3_0, w4_a, w5_a) else none
    else
    (f_TP_skipBlanks nf z_4 tpS tpN tpA).bind fun z_11 =>
      (f_TP_readNumber nf z_2 z_3 z_11 tpS tpN tpA).bind fun (z_14, z_15, z_16, z_17) =>
      if (0 : Int64) ≤ z_14 then
      (f_TP_skipBlanks nf z_17 tpS tpN tpA).bind fun z_21 =>
        (f_By_get nf z_21 tpS tpN tpA).bind fun r_24 =>
        if r_24 = (35 : Int32) then
        (f_TP_skipToLineEnd nf z_21 tpS tpN tpA).bind fun z_41 =>
          f_TP_readRow_94 nf tpS tpN tpA z_14 z_11 z_1 w0_4 z_15 z_16 z_41 w3_0 w4_a w5_a
        else
        f_TP_readRow_94 nf tpS tpN tpA z_14 z_11 z_1 w0_4 z_15 z_16 z_21 w3_0 w4_a w5_a
      else
      some (0, z_15, z_16, z_17, w3_0, w4_a, w5_a)
  else
  some (0, z_2, z_3, z_4, w3_0, w4_a, w5_a)
def f_TP_readRow (nf : Nat) (tFault : Int32) (tPlace : Int32) (tPos : Int32) (tpS : Int32) (tpN : Nat) (tpA : Nat → Int32) (lCount : Int32) (lTiA : Nat → Int64) (lAhA : Nat → Int64) : Option (Int32 × Int32 × Int32 × Int32 × Int32 × (Nat → Int64) × (Nat → Int64)) :=
  f_TP_readRow_0 nf tpS tpN tpA tFault tPlace tPos lCount lTiA lAhA
section
variable {p : Program} {l : Launch} {e : Env} {R : Room} {s : State} {m : MethodId} {args : Array Value} {below : List Frame} {meth : Method} {c : Code} {Q : State → Prop} {dC : Nat → ClassId} {dI : Nat → Nat → Nat} {nf : Nat} {A : Nat → Prop}
variable {h0 : Nat} {tTape : Nat} {tTable : Nat} {tpR : Nat} {lTi : Nat} {lAh : Nat} {cAtpR : ClassId} {cAlTi : ClassId} {cAlAh : ClassId} {tFault : Int32} {tPlace : Int32} {tPos : Int32} {tHas : Int32} {tpS : Int32} {tpN : Nat} {tpA : Nat → Int32} {lCount : Int32} {lExp : Int64} {lTiA : Nat → Int64} {lAhA : Nat → Int64} {r0 : Int32} {v0_0 : Int32} {v0_1 : Int32} {v0_4 : Int32} {v3_0 : Int32} {v4_a : Nat → Int64} {v5_a : Nat → Int64}
set_option maxHeartbeats 400000 in
set_option maxRecDepth 100000 in
theorem k_TP_readRow_119 (C0 : Cx p s m meth c args R b_TP_readRow "ZoneFiles$TableParser" 7 (some .boolean) 2 51) (hST : ST A s s.heap) (hA : ∀ q, s.heap.size ≤ q → A q) (hE : ∀ (pc : Nat) (ls : Array Slot) {q2 : Nat} {nA2 : ClassId} (H : Heap) (locs : List Loc), decode b_TP_readRow pc = .ok (.ireturn, 1) → narrow .boolean (.int r0) = .int r0 → va_P (dC, dI) classes [(h0, .inr (7, [.int v0_0, .int v0_1, .ref tTape, .ref tTable, .int v0_4, .int tHas])), (tTape, .inr (0, [.ref q2, .int tpS])), (q2, .inl (nA2, tpN, .inl tpA)), (tTable, .inr (4, [.int v3_0, .ref lTi, .ref lAh, .long lExp])), (lTi, .inl (cAlTi, 60, .inr (.inl v4_a))), (lAh, .inl (cAlAh, 60, .inr (.inl v5_a)))] H → va_D A [(h0, .inr (7, [.int v0_0, .int v0_1, .ref tTape, .ref tTable, .int v0_4, .int tHas])), (tTape, .inr (0, [.ref q2, .int tpS])), (q2, .inl (nA2, tpN, .inl tpA)), (tTable, .inr (4, [.int v3_0, .ref lTi, .ref lAh, .long lExp])), (lTi, .inl (cAlTi, 60, .inr (.inl v4_a))), (lAh, .inl (cAlAh, 60, .inr (.inl v5_a)))] → va_S A s.heap H locs → va_K (dC, dI) classes [(nA2, .byte), (cAlTi, .long), (cAlAh, .long)] s → W p l e R s m args below meth c H locs 0 0 Q (F0 m pc ls [.int r0])) {s0 : Int32} {w0_0 : Int32} {w0_1 : Int32} {w0_4 : Int32} {w3_0 : Int32} {w4_a : Nat → Int64} {w5_a : Nat → Int64} (hf : f_TP_readRow_119 nf s0 w0_0 w0_1 w0_4 w3_0 w4_a w5_a = some (r0, v0_0, v0_1, v0_4, v3_0, v4_a, v5_a)) {q2 : Nat} {nA2 : ClassId} {H : Heap} {locs : List Loc} {ls : Array Slot} (hK : va_K (dC, dI) classes [(nA2, .byte), (cAlTi, .long), (cAlAh, .long)] s) (hP : va_P (dC, dI) classes [(h0, .inr (7, [.int w0_0, .int w0_1, .ref tTape, .ref tTable, .int w0_4, .int tHas])), (tTape, .inr (0, [.ref q2, .int tpS])), (q2, .inl (nA2, tpN, .inl tpA)), (tTable, .inr (4, [.int w3_0, .ref lTi, .ref lAh, .long lExp])), (lTi, .inl (cAlTi, 60, .inr (.inl w4_a))), (lAh, .inl (cAlAh, 60, .inr (.inl w5_a)))] H) (hD : va_D A [(h0, .inr (7, [.int w0_0, .int w0_1, .ref tTape, .ref tTable, .int w0_4, .int tHas])), (tTape, .inr (0, [.ref q2, .int tpS])), (q2, .inl (nA2, tpN, .inl tpA)), (tTable, .inr (4, [.int w3_0, .ref lTi, .ref lAh, .long lExp])), (lTi, .inl (cAlTi, 60, .inr (.inl w4_a))), (lAh, .inl (cAlAh, 60, .inr (.inl w5_a)))]) (hS : va_S A s.heap H locs) (hl : lv_has ls 7 []) : W p l e R s m args below meth c H locs 0 0 Q (F0 m 119 ls [.int s0]) := by
  obtain ⟨hx, hb, hr, hml, hown, hts, hlocks, hRf, hRl⟩ := id C0
  obtain ⟨tms, hZms, hTms, tmg, hZmg, hTmg, hNW⟩ := id hST
  unfold f_TP_readRow_119 at hf
  obtain ⟨c_33, hf⟩ := it_g hf
  cases rs hf
  exact hE _ _ _ _ d_TP_readRow_119 (nb_of c_33) hP hD hS hK
set_option maxHeartbeats 400000 in
set_option maxRecDepth 100000 in
theorem k_TP_readRow_118 (C0 : Cx p s m meth c args R b_TP_readRow "ZoneFiles$TableParser" 7 (some .boolean) 2 51) (hST : ST A s s.heap) (hA : ∀ q, s.heap.size ≤ q → A q) (hE : ∀ (pc : Nat) (ls : Array Slot) {q2 : Nat} {nA2 : ClassId} (H : Heap) (locs : List Loc), decode b_TP_readRow pc = .ok (.ireturn, 1) → narrow .boolean (.int r0) = .int r0 → va_P (dC, dI) classes [(h0, .inr (7, [.int v0_0, .int v0_1, .ref tTape, .ref tTable, .int v0_4, .int tHas])), (tTape, .inr (0, [.ref q2, .int tpS])), (q2, .inl (nA2, tpN, .inl tpA)), (tTable, .inr (4, [.int v3_0, .ref lTi, .ref lAh, .long lExp])), (lTi, .inl (cAlTi, 60, .inr (.inl v4_a))), (lAh, .inl (cAlAh, 60, .inr (.inl v5_a)))] H → va_D A [(h0, .inr (7, [.int v0_0, .int v0_1, .ref tTape, .ref tTable, .int v0_4, .int tHas])), (tTape, .inr (0, [.ref q2, .int tpS])), (q2, .inl (nA2, tpN, .inl tpA)), (tTable, .inr (4, [.int v3_0, .ref lTi, .ref lAh, .long lExp])), (lTi, .inl (cAlTi, 60, .inr (.inl v4_a))), (lAh, .inl (cAlAh, 60, .inr (.inl v5_a)))] → va_S A s.heap H locs → va_K (dC, dI) classes [(nA2, .byte), (cAlTi, .long), (cAlAh, .long)] s → W p l e R s m args below meth c H locs 0 0 Q (F0 m pc ls [.int r0])) {w0_0 : Int32} {w0_1 : Int32} {w0_4 : Int32} {w3_0 : Int32} {w4_a : Nat → Int64} {w5_a : Nat → Int64} (hf : f_TP_readRow_118 nf w0_0 w0_1 w0_4 w3_0 w4_a w5_a = some (r0, v0_0, v0_1, v0_4, v3_0, v4_a, v5_a)) {q2 : Nat} {nA2 : ClassId} {H : Heap} {locs : List Loc} {ls : Array Slot} (hK : va_K (dC, dI) classes [(nA2, .byte), (cAlTi, .long), (cAlAh, .long)] s) (hP : va_P (dC, dI) classes [(h0, .inr (7, [.int w0_0, .int w0_1, .ref tTape, .ref tTable, .int w0_4, .int tHas])), (tTape, .inr (0, [.ref q2, .int tpS])), (q2, .inl (nA2, tpN, .inl tpA)), (tTable, .inr (4, [.int w3_0, .ref lTi, .ref lAh, .long lExp])), (lTi, .inl (cAlTi, 60, .inr (.inl w4_a))), (lAh, .inl (cAlAh, 60, .inr (.inl w5_a)))] H) (hD : va_D A [(h0, .inr (7, [.int w0_0, .int w0_1, .ref tTape, .ref tTable, .int w0_4, .int tHas])), (tTape, .inr (0, [.ref q2, .int tpS])), (q2, .inl (nA2, tpN, .inl tpA)), (tTable, .inr (4, [.int w3_0, .ref lTi, .ref lAh, .long lExp])), (lTi, .inl (cAlTi, 60, .inr (.inl w4_a))), (lAh, .inl (cAlAh, 60, .inr (.inl w5_a)))]) (hS : va_S A s.heap H locs) (hl : lv_has ls 7 []) : W p l e R s m args below meth c H locs 0 0 Q (F0 m 118 ls []) := by
  obtain ⟨hx, hb, hr, hml, hown, hts, hlocks, hRf, hRl⟩ := id C0
  obtain ⟨tms, hZms, hTms, tmg, hZmg, hTmg, hNW⟩ := id hST
  unfold f_TP_readRow_118 at hf
  refine lv_iconst (v := 0) hx hb d_TP_readRow_118 (by decide) ?_
  exact k_TP_readRow_119 C0 hST hA hE hf hK hP hD hS (lv_sub hl [] rfl)
set_option maxHeartbeats 400000 in
set_option maxRecDepth 100000 in
theorem k_TP_readRow_94 (C0 : Cx p s m meth c args R b_TP_readRow "ZoneFiles$TableParser" 7 (some .boolean) 2 51) (hST : ST A s s.heap) (hA : ∀ q, s.heap.size ≤ q → A q) (hE : ∀ (pc : Nat) (ls : Array Slot) {q2 : Nat} {nA2 : ClassId} (H : Heap) (locs : List Loc), decode b_TP_readRow pc = .ok (.ireturn, 1) → narrow .boolean (.int r0) = .int r0 → va_P (dC, dI) classes [(h0, .inr (7, [.int v0_0, .int v0_1, .ref tTape, .ref tTable, .int v0_4, .int tHas])), (tTape, .inr (0, [.ref q2, .int tpS])), (q2, .inl (nA2, tpN, .inl tpA)), (tTable, .inr (4, [.int v3_0, .ref lTi, .ref lAh, .long lExp])), (lTi, .inl (cAlTi, 60, .inr (.inl v4_a))), (lAh, .inl (cAlAh, 60, .inr (.inl v5_a)))] H → va_D A [(h0, .inr (7, [.int v0_0, .int v0_1, .ref tTape, .ref tTable, .int v0_4, .int tHas])), (tTape, .inr (0, [.ref q2, .int tpS])), (q2, .inl (nA2, tpN, .inl tpA)), (tTable, .inr (4, [.int v3_0, .ref lTi, .ref lAh, .long lExp])), (lTi, .inl (cAlTi, 60, .inr (.inl v4_a))), (lAh, .inl (cAlAh, 60, .inr (.inl v5_a)))] → va_S A s.heap H locs → va_K (dC, dI) classes [(nA2, .byte), (cAlTi, .long), (cAlAh, .long)] s → W p l e R s m args below meth c H locs 0 0 Q (F0 m pc ls [.int r0])) {x5 : Int64} {x4 : Int32} {x2 : Int64} {x1 : Int32} {w0_0 : Int32} {w0_1 : Int32} {w0_4 : Int32} {w3_0 : Int32} {w4_a : Nat → Int64} {w5_a : Nat → Int64} (hf : f_TP_readRow_94 nf tpS tpN tpA x5 x4 x2 x1 w0_0 w0_1 w0_4 w3_0 w4_a w5_a = some (r0, v0_0, v0_1, v0_4, v3_0, v4_a, v5_a)) {q2 : Nat} {nA2 : ClassId} {H : Heap} {locs : List Loc} {ls : Array Slot} (hK : va_K (dC, dI) classes [(nA2, .byte), (cAlTi, .long), (cAlAh, .long)] s) (hP : va_P (dC, dI) classes [(h0, .inr (7, [.int w0_0, .int w0_1, .ref tTape, .ref tTable, .int w0_4, .int tHas])), (tTape, .inr (0, [.ref q2, .int tpS])), (q2, .inl (nA2, tpN, .inl tpA)), (tTable, .inr (4, [.int w3_0, .ref lTi, .ref lAh, .long lExp])), (lTi, .inl (cAlTi, 60, .inr (.inl w4_a))), (lAh, .inl (cAlAh, 60, .inr (.inl w5_a)))] H) (hD : va_D A [(h0, .inr (7, [.int w0_0, .int w0_1, .ref tTape, .ref tTable, .int w0_4, .int tHas])), (tTape, .inr (0, [.ref q2, .int tpS])), (q2, .inl (nA2, tpN, .inl tpA)), (tTable, .inr (4, [.int w3_0, .ref lTi, .ref lAh, .long lExp])), (lTi, .inl (cAlTi, 60, .inr (.inl w4_a))), (lAh, .inl (cAlAh, 60, .inr (.inl w5_a)))]) (hS : va_S A s.heap H locs) (hl : lv_has ls 7 [(5, .long x5), (4, .int x4), (2, .long x2), (1, .int x1), (0, .ref h0)]) : W p l e R s m args below meth c H locs 0 0 Q (F0 m 94 ls []) := by
  obtain ⟨hx, hb, hr, hml, hown, hts, hlocks, hRf, hRl⟩ := id C0
  obtain ⟨tms, hZms, hTms, tmg, hZmg, hTmg, hNW⟩ := id hST
  unfold f_TP_readRow_94 at hf
  refine lv_aload_n hx hb d_TP_readRow_94 rfl (lv_at hl 4 rfl) ?_
  obtain ⟨⟨z_26, z_27, z_28, z_29⟩, hc, hf⟩ := ob hf
  have hPc := hP.sub (ws' := [(h0, .inr (7, [.int w0_0, .int w0_1, .ref tTape, .ref tTable, .int w0_4, .int tHas])), (tTape, .inr (0, [.ref q2, .int tpS])), (q2, .inl (nA2, tpN, .inl tpA))]) [0, 1, 2] rfl
  have hDc := hD.sub (ws' := [(h0, .inr (7, [.int w0_0, .int w0_1, .ref tTape, .ref tTable, .int w0_4, .int tHas])), (tTape, .inr (0, [.ref q2, .int tpS])), (q2, .inl (nA2, tpN, .inl tpA))]) [0, 1, 2] (by decide) rfl
  have hKc := hK.sub (tys' := [(nA2, .byte)]) [0] rfl
  have hFc := va_free (wc := [(h0, .inr (7, [.int w0_0, .int w0_1, .ref tTape, .ref tTable, .int w0_4, .int tHas])), (tTape, .inr (0, [.ref q2, .int tpS])), (q2, .inl (nA2, tpN, .inl tpA))]) hD hS hA [0, 1, 2] rfl
  refine cl_M (v := (some (.int z_26))) (st1 := [.int z_26]) (va_runV (As := []) (rest := []) ⟨hx, hb, hml, hown, hts⟩ (c_TP_passLineEnd l dC dI h0 tTape tTable q2 nA2 H.size nf w0_0 w0_1 w0_4 tHas tpS tpN tpA hc) (cwV 0 hts (gdV m_2_209 m_2_211 msel_7 m_1_19 m_2_212) rfl rfl rfl (by decide +kernel) ⟨Nat.le_trans (Nat.le_of_ble_eq_true rfl) hRf, Nat.le_trans (Nat.le_of_ble_eq_true rfl) hRl⟩) ((MU.pre hPc hKc hDc (hST.mu hS hFc)).vir (va_recv hKc hPc (ci := 7) (q0 := 0) rfl rfl)) rfl rfl hl.1 rfl (lv_room (Nat.le_of_ble_eq_true rfl)) d_TP_readRow_95 ⟨Nat.zero_le _, Nat.zero_le _⟩) rfl hS (fun q _ h => hFc q h) hFc (fun t H1 locs ht hvm hB hz1 hk1 hS => ?_)
  obtain ⟨q_30, cq_31, hP1, hK1, hD1⟩ := hB
  rw [ht] at hP1
  have hK1 := va_K.moved hvm.symm hK1
  obtain ⟨hP, hD⟩ := va_join (wr := [(tTable, .inr (4, [.int w3_0, .ref lTi, .ref lAh, .long lExp])), (lTi, .inl (cAlTi, 60, .inr (.inl w4_a))), (lAh, .inl (cAlAh, 60, .inr (.inl w5_a)))]) (w1 := [(h0, .inr (7, [.int z_27, .int z_28, .ref tTape, .ref tTable, .int z_29, .int tHas])), (tTape, .inr (0, [.ref q_30, .int tpS])), (q_30, .inl (cq_31, tpN, .inl tpA))]) hP hD [0, 1, 2] [3, 4, 5] rfl rfl (by decide) (by decide) hk1 hFc hP1 hD1
  have hK := (hK.sub (tys' := [(cAlTi, .long), (cAlAh, .long)]) [1, 2] rfl).app hK1
  generalize H1 = H at hP hS ⊢
  have hP := hP.sub (ws' := [(h0, .inr (7, [.int z_27, .int z_28, .ref tTape, .ref tTable, .int z_29, .int tHas])), (tTape, .inr (0, [.ref q_30, .int tpS])), (q_30, .inl (cq_31, tpN, .inl tpA)), (tTable, .inr (4, [.int w3_0, .ref lTi, .ref lAh, .long lExp])), (lTi, .inl (cAlTi, 60, .inr (.inl w4_a))), (lAh, .inl (cAlAh, 60, .inr (.inl w5_a)))]) [3, 4, 5, 0, 1, 2] rfl
  have hD := hD.sub (ws' := [(h0, .inr (7, [.int z_27, .int z_28, .ref tTape, .ref tTable, .int z_29, .int tHas])), (tTape, .inr (0, [.ref q_30, .int tpS])), (q_30, .inl (cq_31, tpN, .inl tpA)), (tTable, .inr (4, [.int w3_0, .ref lTi, .ref lAh, .long lExp])), (lTi, .inl (cAlTi, 60, .inr (.inl w4_a))), (lAh, .inl (cAlAh, 60, .inr (.inl w5_a)))]) [3, 4, 5, 0, 1, 2] (by decide) rfl
  have hK := hK.sub (tys' := [(cq_31, .byte), (cAlTi, .long), (cAlAh, .long)]) [2, 0, 1] rfl
  refine lv_if_eq (tgt := 118) hx hb d_TP_readRow_98 (by decide) (fun c_32 => ?_) (fun c_32 => ?_)
  · have hf := it_t c_32 hf
    exact k_TP_readRow_118 C0 hST hA hE hf hK hP hD hS (lv_sub hl [] rfl)
  · have hf := it_f c_32 hf
    refine lv_aload_n hx hb d_TP_readRow_101 rfl (lv_at hl 4 rfl) ?_
    refine lv_lload_n hx hb d_TP_readRow_102 rfl (lv_at hl 2 rfl) ?_
    refine lv_iload_n hx hb d_TP_readRow_103 rfl (lv_at hl 3 rfl) ?_
    refine lv_lload hx hb d_TP_readRow_104 (lv_at hl 0 rfl) ?_
    refine lv_iload hx hb d_TP_readRow_106 (lv_at hl 1 rfl) ?_
    obtain ⟨⟨z_34, z_35, z_36, z_37, z_38, z_39⟩, hc, hf⟩ := ob hf
    have hPc := hP.sub (ws' := [(h0, .inr (7, [.int z_27, .int z_28, .ref tTape, .ref tTable, .int z_29, .int tHas])), (tTable, .inr (4, [.int w3_0, .ref lTi, .ref lAh, .long lExp])), (lTi, .inl (cAlTi, 60, .inr (.inl w4_a))), (lAh, .inl (cAlAh, 60, .inr (.inl w5_a)))]) [0, 3, 4, 5] rfl
    have hDc := hD.sub (ws' := [(h0, .inr (7, [.int z_27, .int z_28, .ref tTape, .ref tTable, .int z_29, .int tHas])), (tTable, .inr (4, [.int w3_0, .ref lTi, .ref lAh, .long lExp])), (lTi, .inl (cAlTi, 60, .inr (.inl w4_a))), (lAh, .inl (cAlAh, 60, .inr (.inl w5_a)))]) [0, 3, 4, 5] (by decide) rfl
    have hKc := hK.sub (tys' := [(cAlTi, .long), (cAlAh, .long)]) [1, 2] rfl
    have hFc := va_free (wc := [(h0, .inr (7, [.int z_27, .int z_28, .ref tTape, .ref tTable, .int z_29, .int tHas])), (tTable, .inr (4, [.int w3_0, .ref lTi, .ref lAh, .long lExp])), (lTi, .inl (cAlTi, 60, .inr (.inl w4_a))), (lAh, .inl (cAlAh, 60, .inr (.inl w5_a)))]) hD hS hA [0, 3, 4, 5] rfl
    refine cl_M (v := (some (.int z_34))) (st1 := [.int z_34]) (va_runV (As := [.long x2, .int x1, .long x5, .int x4]) (rest := []) ⟨hx, hb, hml, hown, hts⟩ (c_TP_addRow l dC dI h0 tTape tTable lTi lAh cAlTi cAlAh H.size nf x2 x1 x5 x4 z_27 z_28 z_29 tHas w3_0 lExp w4_a w5_a hc) (cwV 4 hts (gdV m_2_222 m_2_224 msel_10 m_1_19 m_2_225) rfl rfl rfl (by decide +kernel) ⟨Nat.le_trans (Nat.le_of_ble_eq_true rfl) hRf, Nat.le_trans (Nat.le_of_ble_eq_true rfl) hRl⟩) ((MU.pre hPc hKc hDc (hST.mu hS hFc)).vir (va_recv hKc hPc (ci := 7) (q0 := 0) rfl rfl)) rfl rfl hl.1 rfl (lv_room (Nat.le_of_ble_eq_true rfl)) d_TP_readRow_108 ⟨Nat.zero_le _, Nat.zero_le _⟩) rfl hS (fun q _ h => hFc q h) hFc (fun t H1 locs ht hvm hB hz1 hk1 hS => ?_)
    obtain ⟨hP1, hK1, hD1⟩ := hB
    rw [ht] at hP1
    have hK1 := va_K.moved hvm.symm hK1
    obtain ⟨hP, hD⟩ := va_join (wr := [(tTape, .inr (0, [.ref q_30, .int tpS])), (q_30, .inl (cq_31, tpN, .inl tpA))]) (w1 := [(h0, .inr (7, [.int z_35, .int z_36, .ref tTape, .ref tTable, .int z_29, .int tHas])), (tTable, .inr (4, [.int z_37, .ref lTi, .ref lAh, .long lExp])), (lTi, .inl (cAlTi, 60, .inr (.inl z_38))), (lAh, .inl (cAlAh, 60, .inr (.inl z_39)))]) hP hD [0, 3, 4, 5] [1, 2] rfl rfl (by decide) (by decide) hk1 hFc hP1 hD1
    have hK := (hK.sub (tys' := [(cq_31, .byte)]) [0] rfl).app hK1
    generalize H1 = H at hP hS ⊢
    have hP := hP.sub (ws' := [(h0, .inr (7, [.int z_35, .int z_36, .ref tTape, .ref tTable, .int z_29, .int tHas])), (tTape, .inr (0, [.ref q_30, .int tpS])), (q_30, .inl (cq_31, tpN, .inl tpA)), (tTable, .inr (4, [.int z_37, .ref lTi, .ref lAh, .long lExp])), (lTi, .inl (cAlTi, 60, .inr (.inl z_38))), (lAh, .inl (cAlAh, 60, .inr (.inl z_39)))]) [2, 0, 1, 3, 4, 5] rfl
    have hD := hD.sub (ws' := [(h0, .inr (7, [.int z_35, .int z_36, .ref tTape, .ref tTable, .int z_29, .int tHas])), (tTape, .inr (0, [.ref q_30, .int tpS])), (q_30, .inl (cq_31, tpN, .inl tpA)), (tTable, .inr (4, [.int z_37, .ref lTi, .ref lAh, .long lExp])), (lTi, .inl (cAlTi, 60, .inr (.inl z_38))), (lAh, .inl (cAlAh, 60, .inr (.inl z_39)))]) [2, 0, 1, 3, 4, 5] (by decide) rfl
    have hK := hK.sub (tys' := [(cq_31, .byte), (cAlTi, .long), (cAlAh, .long)]) [0, 1, 2] rfl
    refine lv_if_eq (tgt := 118) hx hb d_TP_readRow_111 (by decide) (fun c_40 => ?_) (fun c_40 => ?_)
    · have hf := it_t c_40 hf
      exact k_TP_readRow_118 C0 hST hA hE hf hK hP hD hS (lv_sub hl [] rfl)
    · have hf := it_f c_40 hf
      refine lv_iconst (v := 1) hx hb d_TP_readRow_114 (by decide) ?_
      refine lv_goto (tgt := 119) hx hb d_TP_readRow_115 (by decide) ?_
      exact k_TP_readRow_119 C0 hST hA hE hf hK hP hD hS (lv_sub hl [] rfl)
set_option maxHeartbeats 400000 in
set_option maxRecDepth 100000 in
theorem k_TP_readRow_0 (C0 : Cx p s m meth c args R b_TP_readRow "ZoneFiles$TableParser" 7 (some .boolean) 2 51) (hST : ST A s s.heap) (hA : ∀ q, s.heap.size ≤ q → A q) (hE : ∀ (pc : Nat) (ls : Array Slot) {q2 : Nat} {nA2 : ClassId} (H : Heap) (locs : List Loc), decode b_TP_readRow pc = .ok (.ireturn, 1) → narrow .boolean (.int r0) = .int r0 → va_P (dC, dI) classes [(h0, .inr (7, [.int v0_0, .int v0_1, .ref tTape, .ref tTable, .int v0_4, .int tHas])), (tTape, .inr (0, [.ref q2, .int tpS])), (q2, .inl (nA2, tpN, .inl tpA)), (tTable, .inr (4, [.int v3_0, .ref lTi, .ref lAh, .long lExp])), (lTi, .inl (cAlTi, 60, .inr (.inl v4_a))), (lAh, .inl (cAlAh, 60, .inr (.inl v5_a)))] H → va_D A [(h0, .inr (7, [.int v0_0, .int v0_1, .ref tTape, .ref tTable, .int v0_4, .int tHas])), (tTape, .inr (0, [.ref q2, .int tpS])), (q2, .inl (nA2, tpN, .inl tpA)), (tTable, .inr (4, [.int v3_0, .ref lTi, .ref lAh, .long lExp])), (lTi, .inl (cAlTi, 60, .inr (.inl v4_a))), (lAh, .inl (cAlAh, 60, .inr (.inl v5_a)))] → va_S A s.heap H locs → va_K (dC, dI) classes [(nA2, .byte), (cAlTi, .long), (cAlAh, .long)] s → W p l e R s m args below meth c H locs 0 0 Q (F0 m pc ls [.int r0])) {w0_0 : Int32} {w0_1 : Int32} {w0_4 : Int32} {w3_0 : Int32} {w4_a : Nat → Int64} {w5_a : Nat → Int64} (hf : f_TP_readRow_0 nf tpS tpN tpA w0_0 w0_1 w0_4 w3_0 w4_a w5_a = some (r0, v0_0, v0_1, v0_4, v3_0, v4_a, v5_a)) {q2 : Nat} {nA2 : ClassId} {H : Heap} {locs : List Loc} {ls : Array Slot} (hK : va_K (dC, dI) classes [(nA2, .byte), (cAlTi, .long), (cAlAh, .long)] s) (hP : va_P (dC, dI) classes [(h0, .inr (7, [.int w0_0, .int w0_1, .ref tTape, .ref tTable, .int w0_4, .int tHas])), (tTape, .inr (0, [.ref q2, .int tpS])), (q2, .inl (nA2, tpN, .inl tpA)), (tTable, .inr (4, [.int w3_0, .ref lTi, .ref lAh, .long lExp])), (lTi, .inl (cAlTi, 60, .inr (.inl w4_a))), (lAh, .inl (cAlAh, 60, .inr (.inl w5_a)))] H) (hD : va_D A [(h0, .inr (7, [.int w0_0, .int w0_1, .ref tTape, .ref tTable, .int w0_4, .int tHas])), (tTape, .inr (0, [.ref q2, .int tpS])), (q2, .inl (nA2, tpN, .inl tpA)), (tTable, .inr (4, [.int w3_0, .ref lTi, .ref lAh, .long lExp])), (lTi, .inl (cAlTi, 60, .inr (.inl w4_a))), (lAh, .inl (cAlAh, 60, .inr (.inl w5_a)))]) (hS : va_S A s.heap H locs) (hl : lv_has ls 7 [(0, .ref h0)]) : W p l e R s m args below meth c H locs 0 0 Q (F0 m 0 ls []) := by
  obtain ⟨hx, hb, hr, hml, hown, hts, hlocks, hRf, hRl⟩ := id C0
  obtain ⟨tms, hZms, hTms, tmg, hZmg, hTmg, hNW⟩ := id hST
  unfold f_TP_readRow_0 at hf
  refine lv_aload_n hx hb d_TP_readRow_0 rfl (lv_at hl 0 rfl) ?_
  refine va_get (D := (dC, dI)) (ci := 7) (v := .int w0_4) (C := RTableParser) (T := TTableParser) (N := 6) hx hb hts in_TableParser hown hK hP 0 rfl rfl 4 (by decide) (hts (.fieldLink "ZoneFiles$TableParser" 25 "ZoneFiles$TableParser" "pos" "I") m_2_161) (fun _ h9 => h9) rfl d_TP_readRow_1 ?_
  refine lv_istore_n (lv' := [(1, .int w0_4), (0, .ref h0)]) hx hb d_TP_readRow_4 rfl hl (by decide) rfl (fun ls hl => ?_)
  refine lv_aload_n hx hb d_TP_readRow_5 rfl (lv_at hl 1 rfl) ?_
  obtain ⟨⟨z_1, z_2, z_3, z_4⟩, hc, hf⟩ := ob hf
  have hPc := hP.sub (ws' := [(h0, .inr (7, [.int w0_0, .int w0_1, .ref tTape, .ref tTable, .int w0_4, .int tHas])), (tTape, .inr (0, [.ref q2, .int tpS])), (q2, .inl (nA2, tpN, .inl tpA))]) [0, 1, 2] rfl
  have hDc := hD.sub (ws' := [(h0, .inr (7, [.int w0_0, .int w0_1, .ref tTape, .ref tTable, .int w0_4, .int tHas])), (tTape, .inr (0, [.ref q2, .int tpS])), (q2, .inl (nA2, tpN, .inl tpA))]) [0, 1, 2] (by decide) rfl
  have hKc := hK.sub (tys' := [(nA2, .byte)]) [0] rfl
  have hFc := va_free (wc := [(h0, .inr (7, [.int w0_0, .int w0_1, .ref tTape, .ref tTable, .int w0_4, .int tHas])), (tTape, .inr (0, [.ref q2, .int tpS])), (q2, .inl (nA2, tpN, .inl tpA))]) hD hS hA [0, 1, 2] rfl
  refine cl_M (v := (some (.long z_1))) (st1 := [.long z_1]) (va_runV (As := []) (rest := []) ⟨hx, hb, hml, hown, hts⟩ (c_TP_readNumber l dC dI h0 tTape tTable q2 nA2 H.size nf w0_0 w0_1 w0_4 tHas tpS tpN tpA hc) (cwV 0 hts (gdV m_2_196 m_2_198 msel_5 m_1_19 m_2_199) rfl rfl rfl (by decide +kernel) ⟨Nat.le_trans (Nat.le_of_ble_eq_true rfl) hRf, Nat.le_trans (Nat.le_of_ble_eq_true rfl) hRl⟩) ((MU.pre hPc hKc hDc (hST.mu hS hFc)).vir (va_recv hKc hPc (ci := 7) (q0 := 0) rfl rfl)) rfl rfl hl.1 rfl (lv_room (Nat.le_of_ble_eq_true rfl)) d_TP_readRow_6 ⟨Nat.zero_le _, Nat.zero_le _⟩) rfl hS (fun q _ h => hFc q h) hFc (fun t H1 locs ht hvm hB hz1 hk1 hS => ?_)
  obtain ⟨q_5, cq_6, hP1, hK1, hD1⟩ := hB
  rw [ht] at hP1
  have hK1 := va_K.moved hvm.symm hK1
  obtain ⟨hP, hD⟩ := va_join (wr := [(tTable, .inr (4, [.int w3_0, .ref lTi, .ref lAh, .long lExp])), (lTi, .inl (cAlTi, 60, .inr (.inl w4_a))), (lAh, .inl (cAlAh, 60, .inr (.inl w5_a)))]) (w1 := [(h0, .inr (7, [.int z_2, .int z_3, .ref tTape, .ref tTable, .int z_4, .int tHas])), (tTape, .inr (0, [.ref q_5, .int tpS])), (q_5, .inl (cq_6, tpN, .inl tpA))]) hP hD [0, 1, 2] [3, 4, 5] rfl rfl (by decide) (by decide) hk1 hFc hP1 hD1
  have hK := (hK.sub (tys' := [(cAlTi, .long), (cAlAh, .long)]) [1, 2] rfl).app hK1
  generalize H1 = H at hP hS ⊢
  have hP := hP.sub (ws' := [(h0, .inr (7, [.int z_2, .int z_3, .ref tTape, .ref tTable, .int z_4, .int tHas])), (tTape, .inr (0, [.ref q_5, .int tpS])), (q_5, .inl (cq_6, tpN, .inl tpA)), (tTable, .inr (4, [.int w3_0, .ref lTi, .ref lAh, .long lExp])), (lTi, .inl (cAlTi, 60, .inr (.inl w4_a))), (lAh, .inl (cAlAh, 60, .inr (.inl w5_a)))]) [3, 4, 5, 0, 1, 2] rfl
  have hD := hD.sub (ws' := [(h0, .inr (7, [.int z_2, .int z_3, .ref tTape, .ref tTable, .int z_4, .int tHas])), (tTape, .inr (0, [.ref q_5, .int tpS])), (q_5, .inl (cq_6, tpN, .inl tpA)), (tTable, .inr (4, [.int w3_0, .ref lTi, .ref lAh, .long lExp])), (lTi, .inl (cAlTi, 60, .inr (.inl w4_a))), (lAh, .inl (cAlAh, 60, .inr (.inl w5_a)))]) [3, 4, 5, 0, 1, 2] (by decide) rfl
  have hK := hK.sub (tys' := [(cq_6, .byte), (cAlTi, .long), (cAlAh, .long)]) [2, 0, 1] rfl
  refine lv_lstore_n (lv' := [(2, .long z_1), (1, .int w0_4), (0, .ref h0)]) hx hb d_TP_readRow_9 rfl hl (by decide) rfl (fun ls hl => ?_)
  refine lv_lload_n hx hb d_TP_readRow_10 rfl (lv_at hl 0 rfl) ?_
  refine lv_lconst (v := 0) hx hb d_TP_readRow_11 (by decide) ?_
  refine lc_ge (tgt := 18) hx hb d_TP_readRow_12 d_TP_readRow_13 (by decide) (fun c_7 => ?_) (fun c_7 => ?_)
  · have hf := it_t c_7 hf
    refine lv_aload_n hx hb d_TP_readRow_18 rfl (lv_at hl 2 rfl) ?_
    refine va_get (D := (dC, dI)) (ci := 7) (v := .ref tTape) (C := RTableParser) (T := TTableParser) (N := 6) hx hb hts in_TableParser hown hK hP 0 rfl rfl 2 (by decide) (hts (.fieldLink "ZoneFiles$TableParser" 9 "ZoneFiles$TableParser" "tape" "LZoneFiles$Bytes;") m_2_159) (fun _ h9 => h9) rfl d_TP_readRow_19 ?_
    refine lv_aload_n hx hb d_TP_readRow_22 rfl (lv_at hl 2 rfl) ?_
    refine va_get (D := (dC, dI)) (ci := 7) (v := .int z_4) (C := RTableParser) (T := TTableParser) (N := 6) hx hb hts in_TableParser hown hK hP 0 rfl rfl 4 (by decide) (hts (.fieldLink "ZoneFiles$TableParser" 25 "ZoneFiles$TableParser" "pos" "I") m_2_161) (fun _ h9 => h9) rfl d_TP_readRow_23 ?_
    obtain ⟨r_8, hc, hf⟩ := ob hf
    refine cl_S (v := (some (.int r_8))) (st1 := [.int r_8]) (va_runV (As := [.int z_4]) (rest := []) ⟨hx, hb, hml, hown, hts⟩ (c_By_get l dC dI tTape q_5 cq_6 nf z_4 tpS tpN tpA hc) (cwV 1 hts (gdV m_2_184 m_2_71 m_2_72 m_1_2 m_2_73) rfl rfl rfl (by decide +kernel) ⟨Nat.le_trans (Nat.le_of_ble_eq_true rfl) hRf, Nat.le_trans (Nat.le_of_ble_eq_true rfl) hRl⟩) ((RO.pre (hP.sub (ws' := [(tTape, .inr (0, [.ref q_5, .int tpS])), (q_5, .inl (cq_6, tpN, .inl tpA))]) [1, 2] rfl) (hK.sub (tys' := [(cq_6, .byte)]) [0] rfl) (hST.ro hS)).vir (va_recv (hK.sub (tys' := [(cq_6, .byte)]) [0] rfl) (hP.sub (ws' := [(tTape, .inr (0, [.ref q_5, .int tpS])), (q_5, .inl (cq_6, tpN, .inl tpA))]) [1, 2] rfl) (ci := 0) (q0 := 0) rfl rfl)) rfl rfl hl.1 rfl (lv_room (Nat.le_of_ble_eq_true rfl)) d_TP_readRow_26 ⟨Nat.zero_le _, Nat.zero_le _⟩) rfl ?_
    obtain ⟨r_9, hc, hf⟩ := ob hf
    refine cl_S (v := (some (.int r_9))) (st1 := [.int r_9]) (va_runS (As := [.int r_8]) (rest := []) ⟨hx, hb, hml, hown, hts⟩ (c_TP_isBlank l dC dI nf r_8 hc) (va_cwS 1 hts (gdS m_2_193 m_2_194 m_1_19 m_2_195) rfl rfl rfl (by decide +kernel) ⟨Nat.le_trans (Nat.le_of_ble_eq_true rfl) hRf, Nat.le_trans (Nat.le_of_ble_eq_true rfl) hRl⟩) (RO.pre0 hK (hST.ro hS)).sta rfl rfl hl.1 rfl (lv_room (Nat.le_of_ble_eq_true rfl)) d_TP_readRow_29 ⟨Nat.zero_le _, Nat.zero_le _⟩) rfl ?_
    refine lv_if_ne (tgt := 45) hx hb d_TP_readRow_32 (by decide) (fun c_10 => ?_) (fun c_10 => ?_)
    · have hf := it_f c_10 hf
      refine lv_aload_n hx hb d_TP_readRow_45 rfl (lv_at hl 2 rfl) ?_
      obtain ⟨z_11, hc, hf⟩ := ob hf
      have hPc := hP.sub (ws' := [(h0, .inr (7, [.int z_2, .int z_3, .ref tTape, .ref tTable, .int z_4, .int tHas])), (tTape, .inr (0, [.ref q_5, .int tpS])), (q_5, .inl (cq_6, tpN, .inl tpA))]) [0, 1, 2] rfl
      have hDc := hD.sub (ws' := [(h0, .inr (7, [.int z_2, .int z_3, .ref tTape, .ref tTable, .int z_4, .int tHas])), (tTape, .inr (0, [.ref q_5, .int tpS])), (q_5, .inl (cq_6, tpN, .inl tpA))]) [0, 1, 2] (by decide) rfl
      have hKc := hK.sub (tys' := [(cq_6, .byte)]) [0] rfl
      have hFc := va_free (wc := [(h0, .inr (7, [.int z_2, .int z_3, .ref tTape, .ref tTable, .int z_4, .int tHas])), (tTape, .inr (0, [.ref q_5, .int tpS])), (q_5, .inl (cq_6, tpN, .inl tpA))]) hD hS hA [0, 1, 2] rfl
      refine cl_M (v := none) (st1 := []) (va_runV (As := []) (rest := []) ⟨hx, hb, hml, hown, hts⟩ (c_TP_skipBlanks l dC dI h0 tTape tTable q_5 cq_6 H.size nf z_2 z_3 z_4 tHas tpS tpN tpA hc) (cwV 0 hts (gdV m_2_189 m_2_191 msel_4 m_1_19 m_2_192) rfl rfl rfl (by decide +kernel) ⟨Nat.le_trans (Nat.le_of_ble_eq_true rfl) hRf, Nat.le_trans (Nat.le_of_ble_eq_true rfl) hRl⟩) ((MU.pre hPc hKc hDc (hST.mu hS hFc)).vir (va_recv hKc hPc (ci := 7) (q0 := 0) rfl rfl)) rfl rfl hl.1 rfl (lv_room (Nat.le_of_ble_eq_true rfl)) d_TP_readRow_46 ⟨Nat.zero_le _, Nat.zero_le _⟩) rfl hS (fun q _ h => hFc q h) hFc (fun t H1 locs ht hvm hB hz1 hk1 hS => ?_)
      obtain ⟨q_12, cq_13, hP1, hK1, hD1⟩ := hB
      rw [ht] at hP1
      have hK1 := va_K.moved hvm.symm hK1
      obtain ⟨hP, hD⟩ := va_join (wr := [(tTable, .inr (4, [.int w3_0, .ref lTi, .ref lAh, .long lExp])), (lTi, .inl (cAlTi, 60, .inr (.inl w4_a))), (lAh, .inl (cAlAh, 60, .inr (.inl w5_a)))]) (w1 := [(h0, .inr (7, [.int z_2, .int z_3, .ref tTape, .ref tTable, .int z_11, .int tHas])), (tTape, .inr (0, [.ref q_12, .int tpS])), (q_12, .inl (cq_13, tpN, .inl tpA))]) hP hD [0, 1, 2] [3, 4, 5] rfl rfl (by decide) (by decide) hk1 hFc hP1 hD1
      have hK := (hK.sub (tys' := [(cAlTi, .long), (cAlAh, .long)]) [1, 2] rfl).app hK1
      generalize H1 = H at hP hS ⊢
      have hP := hP.sub (ws' := [(h0, .inr (7, [.int z_2, .int z_3, .ref tTape, .ref tTable, .int z_11, .int tHas])), (tTape, .inr (0, [.ref q_12, .int tpS])), (q_12, .inl (cq_13, tpN, .inl tpA)), (tTable, .inr (4, [.int w3_0, .ref lTi, .ref lAh, .long lExp])), (lTi, .inl (cAlTi, 60, .inr (.inl w4_a))), (lAh, .inl (cAlAh, 60, .inr (.inl w5_a)))]) [3, 4, 5, 0, 1, 2] rfl
      have hD := hD.sub (ws' := [(h0, .inr (7, [.int z_2, .int z_3, .ref tTape, .ref tTable, .int z_11, .int tHas])), (tTape, .inr (0, [.ref q_12, .int tpS])), (q_12, .inl (cq_13, tpN, .inl tpA)), (tTable, .inr (4, [.int w3_0, .ref lTi, .ref lAh, .long lExp])), (lTi, .inl (cAlTi, 60, .inr (.inl w4_a))), (lAh, .inl (cAlAh, 60, .inr (.inl w5_a)))]) [3, 4, 5, 0, 1, 2] (by decide) rfl
      have hK := hK.sub (tys' := [(cq_13, .byte), (cAlTi, .long), (cAlAh, .long)]) [2, 0, 1] rfl
      refine lv_aload_n hx hb d_TP_readRow_49 rfl (lv_at hl 2 rfl) ?_
      refine va_get (D := (dC, dI)) (ci := 7) (v := .int z_11) (C := RTableParser) (T := TTableParser) (N := 6) hx hb hts in_TableParser hown hK hP 0 rfl rfl 4 (by decide) (hts (.fieldLink "ZoneFiles$TableParser" 25 "ZoneFiles$TableParser" "pos" "I") m_2_161) (fun _ h9 => h9) rfl d_TP_readRow_50 ?_
      refine lv_istore (lv' := [(4, .int z_11), (2, .long z_1), (1, .int w0_4), (0, .ref h0)]) hx hb d_TP_readRow_53 hl (by decide) rfl (fun ls hl => ?_)
      refine lv_aload_n hx hb d_TP_readRow_55 rfl (lv_at hl 3 rfl) ?_
      obtain ⟨⟨z_14, z_15, z_16, z_17⟩, hc, hf⟩ := ob hf
      have hPc := hP.sub (ws' := [(h0, .inr (7, [.int z_2, .int z_3, .ref tTape, .ref tTable, .int z_11, .int tHas])), (tTape, .inr (0, [.ref q_12, .int tpS])), (q_12, .inl (cq_13, tpN, .inl tpA))]) [0, 1, 2] rfl
      have hDc := hD.sub (ws' := [(h0, .inr (7, [.int z_2, .int z_3, .ref tTape, .ref tTable, .int z_11, .int tHas])), (tTape, .inr (0, [.ref q_12, .int tpS])), (q_12, .inl (cq_13, tpN, .inl tpA))]) [0, 1, 2] (by decide) rfl
      have hKc := hK.sub (tys' := [(cq_13, .byte)]) [0] rfl
      have hFc := va_free (wc := [(h0, .inr (7, [.int z_2, .int z_3, .ref tTape, .ref tTable, .int z_11, .int tHas])), (tTape, .inr (0, [.ref q_12, .int tpS])), (q_12, .inl (cq_13, tpN, .inl tpA))]) hD hS hA [0, 1, 2] rfl
      refine cl_M (v := (some (.long z_14))) (st1 := [.long z_14]) (va_runV (As := []) (rest := []) ⟨hx, hb, hml, hown, hts⟩ (c_TP_readNumber l dC dI h0 tTape tTable q_12 cq_13 H.size nf z_2 z_3 z_11 tHas tpS tpN tpA hc) (cwV 0 hts (gdV m_2_196 m_2_198 msel_5 m_1_19 m_2_199) rfl rfl rfl (by decide +kernel) ⟨Nat.le_trans (Nat.le_of_ble_eq_true rfl) hRf, Nat.le_trans (Nat.le_of_ble_eq_true rfl) hRl⟩) ((MU.pre hPc hKc hDc (hST.mu hS hFc)).vir (va_recv hKc hPc (ci := 7) (q0 := 0) rfl rfl)) rfl rfl hl.1 rfl (lv_room (Nat.le_of_ble_eq_true rfl)) d_TP_readRow_56 ⟨Nat.zero_le _, Nat.zero_le _⟩) rfl hS (fun q _ h => hFc q h) hFc (fun t H1 locs ht hvm hB hz1 hk1 hS => ?_)
      obtain ⟨q_18, cq_19, hP1, hK1, hD1⟩ := hB
      rw [ht] at hP1
      have hK1 := va_K.moved hvm.symm hK1
      obtain ⟨hP, hD⟩ := va_join (wr := [(tTable, .inr (4, [.int w3_0, .ref lTi, .ref lAh, .long lExp])), (lTi, .inl (cAlTi, 60, .inr (.inl w4_a))), (lAh, .inl (cAlAh, 60, .inr (.inl w5_a)))]) (w1 := [(h0, .inr (7, [.int z_15, .int z_16, .ref tTape, .ref tTable, .int z_17, .int tHas])), (tTape, .inr (0, [.ref q_18, .int tpS])), (q_18, .inl (cq_19, tpN, .inl tpA))]) hP hD [0, 1, 2] [3, 4, 5] rfl rfl (by decide) (by decide) hk1 hFc hP1 hD1
      have hK := (hK.sub (tys' := [(cAlTi, .long), (cAlAh, .long)]) [1, 2] rfl).app hK1
      generalize H1 = H at hP hS ⊢
      have hP := hP.sub (ws' := [(h0, .inr (7, [.int z_15, .int z_16, .ref tTape, .ref tTable, .int z_17, .int tHas])), (tTape, .inr (0, [.ref q_18, .int tpS])), (q_18, .inl (cq_19, tpN, .inl tpA)), (tTable, .inr (4, [.int w3_0, .ref lTi, .ref lAh, .long lExp])), (lTi, .inl (cAlTi, 60, .inr (.inl w4_a))), (lAh, .inl (cAlAh, 60, .inr (.inl w5_a)))]) [3, 4, 5, 0, 1, 2] rfl
      have hD := hD.sub (ws' := [(h0, .inr (7, [.int z_15, .int z_16, .ref tTape, .ref tTable, .int z_17, .int tHas])), (tTape, .inr (0, [.ref q_18, .int tpS])), (q_18, .inl (cq_19, tpN, .inl tpA)), (tTable, .inr (4, [.int w3_0, .ref lTi, .ref lAh, .long lExp])), (lTi, .inl (cAlTi, 60, .inr (.inl w4_a))), (lAh, .inl (cAlAh, 60, .inr (.inl w5_a)))]) [3, 4, 5, 0, 1, 2] (by decide) rfl
      have hK := hK.sub (tys' := [(cq_19, .byte), (cAlTi, .long), (cAlAh, .long)]) [2, 0, 1] rfl
      refine lv_lstore (lv' := [(5, .long z_14), (4, .int z_11), (2, .long z_1), (1, .int w0_4), (0, .ref h0)]) hx hb d_TP_readRow_59 hl (by decide) rfl (fun ls hl => ?_)
      refine lv_lload hx hb d_TP_readRow_61 (lv_at hl 0 rfl) ?_
      refine lv_lconst (v := 0) hx hb d_TP_readRow_63 (by decide) ?_
      refine lc_ge (tgt := 70) hx hb d_TP_readRow_64 d_TP_readRow_65 (by decide) (fun c_20 => ?_) (fun c_20 => ?_)
      · have hf := it_t c_20 hf
        refine lv_aload_n hx hb d_TP_readRow_70 rfl (lv_at hl 4 rfl) ?_
        obtain ⟨z_21, hc, hf⟩ := ob hf
        have hPc := hP.sub (ws' := [(h0, .inr (7, [.int z_15, .int z_16, .ref tTape, .ref tTable, .int z_17, .int tHas])), (tTape, .inr (0, [.ref q_18, .int tpS])), (q_18, .inl (cq_19, tpN, .inl tpA))]) [0, 1, 2] rfl
        have hDc := hD.sub (ws' := [(h0, .inr (7, [.int z_15, .int z_16, .ref tTape, .ref tTable, .int z_17, .int tHas])), (tTape, .inr (0, [.ref q_18, .int tpS])), (q_18, .inl (cq_19, tpN, .inl tpA))]) [0, 1, 2] (by decide) rfl
        have hKc := hK.sub (tys' := [(cq_19, .byte)]) [0] rfl
        have hFc := va_free (wc := [(h0, .inr (7, [.int z_15, .int z_16, .ref tTape, .ref tTable, .int z_17, .int tHas])), (tTape, .inr (0, [.ref q_18, .int tpS])), (q_18, .inl (cq_19, tpN, .inl tpA))]) hD hS hA [0, 1, 2] rfl
        refine cl_M (v := none) (st1 := []) (va_runV (As := []) (rest := []) ⟨hx, hb, hml, hown, hts⟩ (c_TP_skipBlanks l dC dI h0 tTape tTable q_18 cq_19 H.size nf z_15 z_16 z_17 tHas tpS tpN tpA hc) (cwV 0 hts (gdV m_2_189 m_2_191 msel_4 m_1_19 m_2_192) rfl rfl rfl (by decide +kernel) ⟨Nat.le_trans (Nat.le_of_ble_eq_true rfl) hRf, Nat.le_trans (Nat.le_of_ble_eq_true rfl) hRl⟩) ((MU.pre hPc hKc hDc (hST.mu hS hFc)).vir (va_recv hKc hPc (ci := 7) (q0 := 0) rfl rfl)) rfl rfl hl.1 rfl (lv_room (Nat.le_of_ble_eq_true rfl)) d_TP_readRow_71 ⟨Nat.zero_le _, Nat.zero_le _⟩) rfl hS (fun q _ h => hFc q h) hFc (fun t H1 locs ht hvm hB hz1 hk1 hS => ?_)
        obtain ⟨q_22, cq_23, hP1, hK1, hD1⟩ := hB
        rw [ht] at hP1
        have hK1 := va_K.moved hvm.symm hK1
        obtain ⟨hP, hD⟩ := va_join (wr := [(tTable, .inr (4, [.int w3_0, .ref lTi, .ref lAh, .long lExp])), (lTi, .inl (cAlTi, 60, .inr (.inl w4_a))), (lAh, .inl (cAlAh, 60, .inr (.inl w5_a)))]) (w1 := [(h0, .inr (7, [.int z_15, .int z_16, .ref tTape, .ref tTable, .int z_21, .int tHas])), (tTape, .inr (0, [.ref q_22, .int tpS])), (q_22, .inl (cq_23, tpN, .inl tpA))]) hP hD [0, 1, 2] [3, 4, 5] rfl rfl (by decide) (by decide) hk1 hFc hP1 hD1
        have hK := (hK.sub (tys' := [(cAlTi, .long), (cAlAh, .long)]) [1, 2] rfl).app hK1
        generalize H1 = H at hP hS ⊢
        have hP := hP.sub (ws' := [(h0, .inr (7, [.int z_15, .int z_16, .ref tTape, .ref tTable, .int z_21, .int tHas])), (tTape, .inr (0, [.ref q_22, .int tpS])), (q_22, .inl (cq_23, tpN, .inl tpA)), (tTable, .inr (4, [.int w3_0, .ref lTi, .ref lAh, .long lExp])), (lTi, .inl (cAlTi, 60, .inr (.inl w4_a))), (lAh, .inl (cAlAh, 60, .inr (.inl w5_a)))]) [3, 4, 5, 0, 1, 2] rfl
        have hD := hD.sub (ws' := [(h0, .inr (7, [.int z_15, .int z_16, .ref tTape, .ref tTable, .int z_21, .int tHas])), (tTape, .inr (0, [.ref q_22, .int tpS])), (q_22, .inl (cq_23, tpN, .inl tpA)), (tTable, .inr (4, [.int w3_0, .ref lTi, .ref lAh, .long lExp])), (lTi, .inl (cAlTi, 60, .inr (.inl w4_a))), (lAh, .inl (cAlAh, 60, .inr (.inl w5_a)))]) [3, 4, 5, 0, 1, 2] (by decide) rfl
        have hK := hK.sub (tys' := [(cq_23, .byte), (cAlTi, .long), (cAlAh, .long)]) [2, 0, 1] rfl
        refine lv_aload_n hx hb d_TP_readRow_74 rfl (lv_at hl 4 rfl) ?_
        refine va_get (D := (dC, dI)) (ci := 7) (v := .ref tTape) (C := RTableParser) (T := TTableParser) (N := 6) hx hb hts in_TableParser hown hK hP 0 rfl rfl 2 (by decide) (hts (.fieldLink "ZoneFiles$TableParser" 9 "ZoneFiles$TableParser" "tape" "LZoneFiles$Bytes;") m_2_159) (fun _ h9 => h9) rfl d_TP_readRow_75 ?_
        refine lv_aload_n hx hb d_TP_readRow_78 rfl (lv_at hl 4 rfl) ?_
        refine va_get (D := (dC, dI)) (ci := 7) (v := .int z_21) (C := RTableParser) (T := TTableParser) (N := 6) hx hb hts in_TableParser hown hK hP 0 rfl rfl 4 (by decide) (hts (.fieldLink "ZoneFiles$TableParser" 25 "ZoneFiles$TableParser" "pos" "I") m_2_161) (fun _ h9 => h9) rfl d_TP_readRow_79 ?_
        obtain ⟨r_24, hc, hf⟩ := ob hf
        refine cl_S (v := (some (.int r_24))) (st1 := [.int r_24]) (va_runV (As := [.int z_21]) (rest := []) ⟨hx, hb, hml, hown, hts⟩ (c_By_get l dC dI tTape q_22 cq_23 nf z_21 tpS tpN tpA hc) (cwV 1 hts (gdV m_2_184 m_2_71 m_2_72 m_1_2 m_2_73) rfl rfl rfl (by decide +kernel) ⟨Nat.le_trans (Nat.le_of_ble_eq_true rfl) hRf, Nat.le_trans (Nat.le_of_ble_eq_true rfl) hRl⟩) ((RO.pre (hP.sub (ws' := [(tTape, .inr (0, [.ref q_22, .int tpS])), (q_22, .inl (cq_23, tpN, .inl tpA))]) [1, 2] rfl) (hK.sub (tys' := [(cq_23, .byte)]) [0] rfl) (hST.ro hS)).vir (va_recv (hK.sub (tys' := [(cq_23, .byte)]) [0] rfl) (hP.sub (ws' := [(tTape, .inr (0, [.ref q_22, .int tpS])), (q_22, .inl (cq_23, tpN, .inl tpA))]) [1, 2] rfl) (ci := 0) (q0 := 0) rfl rfl)) rfl rfl hl.1 rfl (lv_room (Nat.le_of_ble_eq_true rfl)) d_TP_readRow_82 ⟨Nat.zero_le _, Nat.zero_le _⟩) rfl ?_
        refine lv_bipush (v := 35) hx hb d_TP_readRow_85 (by decide) ?_
        refine lv_icmp_ne (tgt := 94) hx hb d_TP_readRow_87 (by decide) (fun c_25 => ?_) (fun c_25 => ?_)
        · have hf := it_f c_25 hf
          exact k_TP_readRow_94 C0 hST hA hE hf hK hP hD hS (lv_sub hl [0, 1, 2, 3, 4] rfl)
        · have hf := it_t c_25 hf
          refine lv_aload_n hx hb d_TP_readRow_90 rfl (lv_at hl 4 rfl) ?_
          obtain ⟨z_41, hc, hf⟩ := ob hf
          have hPc := hP.sub (ws' := [(h0, .inr (7, [.int z_15, .int z_16, .ref tTape, .ref tTable, .int z_21, .int tHas])), (tTape, .inr (0, [.ref q_22, .int tpS])), (q_22, .inl (cq_23, tpN, .inl tpA))]) [0, 1, 2] rfl
          have hDc := hD.sub (ws' := [(h0, .inr (7, [.int z_15, .int z_16, .ref tTape, .ref tTable, .int z_21, .int tHas])), (tTape, .inr (0, [.ref q_22, .int tpS])), (q_22, .inl (cq_23, tpN, .inl tpA))]) [0, 1, 2] (by decide) rfl
          have hKc := hK.sub (tys' := [(cq_23, .byte)]) [0] rfl
          have hFc := va_free (wc := [(h0, .inr (7, [.int z_15, .int z_16, .ref tTape, .ref tTable, .int z_21, .int tHas])), (tTape, .inr (0, [.ref q_22, .int tpS])), (q_22, .inl (cq_23, tpN, .inl tpA))]) hD hS hA [0, 1, 2] rfl
          refine cl_M (v := none) (st1 := []) (va_runV (As := []) (rest := []) ⟨hx, hb, hml, hown, hts⟩ (c_TP_skipToLineEnd l dC dI h0 tTape tTable q_22 cq_23 H.size nf z_15 z_16 z_21 tHas tpS tpN tpA hc) (cwV 0 hts (gdV m_2_214 m_2_216 msel_8 m_1_19 m_2_217) rfl rfl rfl (by decide +kernel) ⟨Nat.le_trans (Nat.le_of_ble_eq_true rfl) hRf, Nat.le_trans (Nat.le_of_ble_eq_true rfl) hRl⟩) ((MU.pre hPc hKc hDc (hST.mu hS hFc)).vir (va_recv hKc hPc (ci := 7) (q0 := 0) rfl rfl)) rfl rfl hl.1 rfl (lv_room (Nat.le_of_ble_eq_true rfl)) d_TP_readRow_91 ⟨Nat.zero_le _, Nat.zero_le _⟩) rfl hS (fun q _ h => hFc q h) hFc (fun t H1 locs ht hvm hB hz1 hk1 hS => ?_)
          obtain ⟨q_42, cq_43, hP1, hK1, hD1⟩ := hB
          rw [ht] at hP1
          have hK1 := va_K.moved hvm.symm hK1
          obtain ⟨hP, hD⟩ := va_join (wr := [(tTable, .inr (4, [.int w3_0, .ref lTi, .ref lAh, .long lExp])), (lTi, .inl (cAlTi, 60, .inr (.inl w4_a))), (lAh, .inl (cAlAh, 60, .inr (.inl w5_a)))]) (w1 := [(h0, .inr (7, [.int z_15, .int z_16, .ref tTape, .ref tTable, .int z_41, .int tHas])), (tTape, .inr (0, [.ref q_42, .int tpS])), (q_42, .inl (cq_43, tpN, .inl tpA))]) hP hD [0, 1, 2] [3, 4, 5] rfl rfl (by decide) (by decide) hk1 hFc hP1 hD1
          have hK := (hK.sub (tys' := [(cAlTi, .long), (cAlAh, .long)]) [1, 2] rfl).app hK1
          generalize H1 = H at hP hS ⊢
          have hP := hP.sub (ws' := [(h0, .inr (7, [.int z_15, .int z_16, .ref tTape, .ref tTable, .int z_41, .int tHas])), (tTape, .inr (0, [.ref q_42, .int tpS])), (q_42, .inl (cq_43, tpN, .inl tpA)), (tTable, .inr (4, [.int w3_0, .ref lTi, .ref lAh, .long lExp])), (lTi, .inl (cAlTi, 60, .inr (.inl w4_a))), (lAh, .inl (cAlAh, 60, .inr (.inl w5_a)))]) [3, 4, 5, 0, 1, 2] rfl
          have hD := hD.sub (ws' := [(h0, .inr (7, [.int z_15, .int z_16, .ref tTape, .ref tTable, .int z_41, .int tHas])), (tTape, .inr (0, [.ref q_42, .int tpS])), (q_42, .inl (cq_43, tpN, .inl tpA)), (tTable, .inr (4, [.int w3_0, .ref lTi, .ref lAh, .long lExp])), (lTi, .inl (cAlTi, 60, .inr (.inl w4_a))), (lAh, .inl (cAlAh, 60, .inr (.inl w5_a)))]) [3, 4, 5, 0, 1, 2] (by decide) rfl
          have hK := hK.sub (tys' := [(cq_43, .byte), (cAlTi, .long), (cAlAh, .long)]) [2, 0, 1] rfl
          exact k_TP_readRow_94 C0 hST hA hE hf hK hP hD hS (lv_sub hl [0, 1, 2, 3, 4] rfl)
      · have hf := it_f c_20 hf
        refine lv_iconst (v := 0) hx hb d_TP_readRow_68 (by decide) ?_
        cases rs hf
        exact hE _ _ _ _ d_TP_readRow_69 rfl hP hD hS hK
    · have hf := it_t c_10 hf
      refine lv_aload_n hx hb d_TP_readRow_35 rfl (lv_at hl 2 rfl) ?_
      refine lv_iconst (v := 1) hx hb d_TP_readRow_36 (by decide) ?_
      refine lv_aload_n hx hb d_TP_readRow_37 rfl (lv_at hl 2 rfl) ?_
      refine va_get (D := (dC, dI)) (ci := 7) (v := .int z_4) (C := RTableParser) (T := TTableParser) (N := 6) hx hb hts in_TableParser hown hK hP 0 rfl rfl 4 (by decide) (hts (.fieldLink "ZoneFiles$TableParser" 25 "ZoneFiles$TableParser" "pos" "I") m_2_161) (fun _ h9 => h9) rfl d_TP_readRow_38 ?_
      obtain ⟨⟨z_44, z_45, z_46⟩, hc, hf⟩ := ob hf
      have hPc := hP.sub (ws' := [(h0, .inr (7, [.int z_2, .int z_3, .ref tTape, .ref tTable, .int z_4, .int tHas]))]) [0] rfl
      have hDc := hD.sub (ws' := [(h0, .inr (7, [.int z_2, .int z_3, .ref tTape, .ref tTable, .int z_4, .int tHas]))]) [0] (by decide) rfl
      have hKc := hK.sub (tys' := []) [] rfl
      have hFc := va_free (wc := [(h0, .inr (7, [.int z_2, .int z_3, .ref tTape, .ref tTable, .int z_4, .int tHas]))]) hD hS hA [0] rfl
      refine cl_M (v := (some (.int z_44))) (st1 := [.int z_44]) (va_runV (As := [.int 1, .int z_4]) (rest := []) ⟨hx, hb, hml, hown, hts⟩ (c_TP_fail l dC dI h0 tTape tTable H.size nf 1 z_4 z_2 z_3 z_4 tHas hc) (cwV 2 hts (gdV m_2_204 m_2_206 msel_6 m_1_19 m_2_207) rfl rfl rfl (by decide +kernel) ⟨Nat.le_trans (Nat.le_of_ble_eq_true rfl) hRf, Nat.le_trans (Nat.le_of_ble_eq_true rfl) hRl⟩) ((MU.pre hPc hKc hDc (hST.mu hS hFc)).vir (va_recv hKc hPc (ci := 7) (q0 := 0) rfl rfl)) rfl rfl hl.1 rfl (lv_room (Nat.le_of_ble_eq_true rfl)) d_TP_readRow_41 ⟨Nat.zero_le _, Nat.zero_le _⟩) rfl hS (fun q _ h => hFc q h) hFc (fun t H1 locs ht hvm hB hz1 hk1 hS => ?_)
      obtain ⟨hP1, hK1, hD1⟩ := hB
      rw [ht] at hP1
      have hK1 := va_K.moved hvm.symm hK1
      obtain ⟨hP, hD⟩ := va_join (wr := [(tTape, .inr (0, [.ref q_5, .int tpS])), (q_5, .inl (cq_6, tpN, .inl tpA)), (tTable, .inr (4, [.int w3_0, .ref lTi, .ref lAh, .long lExp])), (lTi, .inl (cAlTi, 60, .inr (.inl w4_a))), (lAh, .inl (cAlAh, 60, .inr (.inl w5_a)))]) (w1 := [(h0, .inr (7, [.int z_45, .int z_46, .ref tTape, .ref tTable, .int z_4, .int tHas]))]) hP hD [0] [1, 2, 3, 4, 5] rfl rfl (by decide) (by decide) hk1 hFc hP1 hD1
      have hK := (hK.sub (tys' := [(cq_6, .byte), (cAlTi, .long), (cAlAh, .long)]) [0, 1, 2] rfl).app hK1
      generalize H1 = H at hP hS ⊢
      have hP := hP.sub (ws' := [(h0, .inr (7, [.int z_45, .int z_46, .ref tTape, .ref tTable, .int z_4, .int tHas])), (tTape, .inr (0, [.ref q_5, .int tpS])), (q_5, .inl (cq_6, tpN, .inl tpA)), (tTable, .inr (4, [.int w3_0, .ref lTi, .ref lAh, .long lExp])), (lTi, .inl (cAlTi, 60, .inr (.inl w4_a))), (lAh, .inl (cAlAh, 60, .inr (.inl w5_a)))]) [5, 0, 1, 2, 3, 4] rfl
      have hD := hD.sub (ws' := [(h0, .inr (7, [.int z_45, .int z_46, .ref tTape, .ref tTable, .int z_4, .int tHas])), (tTape, .inr (0, [.ref q_5, .int tpS])), (q_5, .inl (cq_6, tpN, .inl tpA)), (tTable, .inr (4, [.int w3_0, .ref lTi, .ref lAh, .long lExp])), (lTi, .inl (cAlTi, 60, .inr (.inl w4_a))), (lAh, .inl (cAlAh, 60, .inr (.inl w5_a)))]) [5, 0, 1, 2, 3, 4] (by decide) rfl
      have hK := hK.sub (tys' := [(cq_6, .byte), (cAlTi, .long), (cAlAh, .long)]) [0, 1, 2] rfl
      obtain ⟨c_47, hf⟩ := it_g hf
      cases rs hf
      exact hE _ _ _ _ d_TP_readRow_44 (nb_of c_47) hP hD hS hK
  · have hf := it_f c_7 hf
    refine lv_iconst (v := 0) hx hb d_TP_readRow_16 (by decide) ?_
    cases rs hf
    exact hE _ _ _ _ d_TP_readRow_17 rfl hP hD hS hK
end
set_option maxHeartbeats 400000 in
set_option maxRecDepth 100000 in
theorem c_TP_readRow (l : Launch) (dC : Nat → ClassId) (dI : Nat → Nat → Nat) (h0 : Nat) (tTape : Nat) (tTable : Nat) (tpR : Nat) (lTi : Nat) (lAh : Nat) (cAtpR : ClassId) (cAlTi : ClassId) (cAlAh : ClassId) (sz : Nat) (nf : Nat) (tFault : Int32) (tPlace : Int32) (tPos : Int32) (tHas : Int32) (tpS : Int32) (tpN : Nat) (tpA : Nat → Int32) (lCount : Int32) (lExp : Int64) (lTiA : Nat → Int64) (lAhA : Nat → Int64) {r0 : Int32} {v0_0 : Int32} {v0_1 : Int32} {v0_4 : Int32} {v3_0 : Int32} {v4_a : Nat → Int64} {v5_a : Nat → Int64} (hf : f_TP_readRow nf tFault tPlace tPos tpS tpN tpA lCount lTiA lAhA = some (r0, v0_0, v0_1, v0_4, v3_0, v4_a, v5_a)) : Met l y_TP_readRow (wd y_TP_readRow b_TP_readRow 7 (some .boolean)) ({ frames := 2, cells := 0, slots := 0, locals := 51 }) (MU dC dI [(h0, .inr (7, [.int tFault, .int tPlace, .ref tTape, .ref tTable, .int tPos, .int tHas])), (tTape, .inr (0, [.ref tpR, .int tpS])), (tpR, .inl (cAtpR, tpN, .inl tpA)), (tTable, .inr (4, [.int lCount, .ref lTi, .ref lAh, .long lExp])), (lTi, .inl (cAlTi, 60, .inr (.inl lTiA))), (lAh, .inl (cAlAh, 60, .inr (.inl lAhA)))] [(cAtpR, .byte), (cAlTi, .long), (cAlAh, .long)] sz [.ref h0]) (MV (some (.int r0)) (fun t => ∃ (q2 : Nat) (nA2 : ClassId), va_P (dC, dI) classes [(h0, .inr (7, [.int v0_0, .int v0_1, .ref tTape, .ref tTable, .int v0_4, .int tHas])), (tTape, .inr (0, [.ref q2, .int tpS])), (q2, .inl (nA2, tpN, .inl tpA)), (tTable, .inr (4, [.int v3_0, .ref lTi, .ref lAh, .long lExp])), (lTi, .inl (cAlTi, 60, .inr (.inl v4_a))), (lAh, .inl (cAlAh, 60, .inr (.inl v5_a)))] t.heap ∧ va_K (dC, dI) classes [(nA2, .byte), (cAlTi, .long), (cAlAh, .long)] t ∧ va_D (va_A [(h0, .inr (7, [.int tFault, .int tPlace, .ref tTape, .ref tTable, .int tPos, .int tHas])), (tTape, .inr (0, [.ref tpR, .int tpS])), (tpR, .inl (cAtpR, tpN, .inl tpA)), (tTable, .inr (4, [.int lCount, .ref lTi, .ref lAh, .long lExp])), (lTi, .inl (cAlTi, 60, .inr (.inl lTiA))), (lAh, .inl (cAlAh, 60, .inr (.inl lAhA)))] sz) [(h0, .inr (7, [.int v0_0, .int v0_1, .ref tTape, .ref tTable, .int v0_4, .int tHas])), (tTape, .inr (0, [.ref q2, .int tpS])), (q2, .inl (nA2, tpN, .inl tpA)), (tTable, .inr (4, [.int v3_0, .ref lTi, .ref lAh, .long lExp])), (lTi, .inl (cAlTi, 60, .inr (.inl v4_a))), (lAh, .inl (cAlAh, 60, .inr (.inl v5_a)))]) (va_A [(h0, .inr (7, [.int tFault, .int tPlace, .ref tTape, .ref tTable, .int tPos, .int tHas])), (tTape, .inr (0, [.ref tpR, .int tpS])), (tpR, .inl (cAtpR, tpN, .inl tpA)), (tTable, .inr (4, [.int lCount, .ref lTi, .ref lAh, .long lExp])), (lTi, .inl (cAlTi, 60, .inr (.inl lTiA))), (lAh, .inl (cAlAh, 60, .inr (.inl lAhA)))] sz)) 0 0 (va_A [(h0, .inr (7, [.int tFault, .int tPlace, .ref tTape, .ref tTable, .int tPos, .int tHas])), (tTape, .inr (0, [.ref tpR, .int tpS])), (tpR, .inl (cAtpR, tpN, .inl tpA)), (tTable, .inr (4, [.int lCount, .ref lTi, .ref lAh, .long lExp])), (lTi, .inl (cAlTi, 60, .inr (.inl lTiA))), (lAh, .inl (cAlAh, 60, .inr (.inl lAhA)))] sz) :=
  met_M (plainFor_of_name (by decide)) (Nat.le_of_ble_eq_true rfl) (fun p e R s m args below meth c ls hRc hRs hsz hin C0 hST hK hP hD hl => by
    obtain ⟨hx, hb, hr, hml, hown, hts, hlocks, hRf, hRl⟩ := id C0
    subst hsz
    have hA : ∀ q : Nat, s.heap.size ≤ q → va_A [(h0, .inr (7, [.int tFault, .int tPlace, .ref tTape, .ref tTable, .int tPos, .int tHas])), (tTape, .inr (0, [.ref tpR, .int tpS])), (tpR, .inl (cAtpR, tpN, .inl tpA)), (tTable, .inr (4, [.int lCount, .ref lTi, .ref lAh, .long lExp])), (lTi, .inl (cAlTi, 60, .inr (.inl lTiA))), (lAh, .inl (cAlAh, 60, .inr (.inl lAhA)))] s.heap.size q := fun q h => Or.inr h
    have hS : va_S (va_A [(h0, .inr (7, [.int tFault, .int tPlace, .ref tTape, .ref tTable, .int tPos, .int tHas])), (tTape, .inr (0, [.ref tpR, .int tpS])), (tpR, .inl (cAtpR, tpN, .inl tpA)), (tTable, .inr (4, [.int lCount, .ref lTi, .ref lAh, .long lExp])), (lTi, .inl (cAlTi, 60, .inr (.inl lTiA))), (lAh, .inl (cAlAh, 60, .inr (.inl lAhA)))] s.heap.size) s.heap s.heap [] := va_S.rf
    unfold f_TP_readRow at hf
    exact k_TP_readRow_0 C0 hST hA (fun pc ls {q2} {nA2} H locs hd hn hP hD hS hK => W.zret hx hb hr hn (fun t ht hW => ⟨⟨rfl, ⟨q2, nA2, by rw [ht]; exact hP, va_K.moved hW.alike hK, hD⟩⟩, hS.F ht⟩) hS.2.2 hd) hf hK hP hD hS (lv_sub hl [0] rfl))
-- ZoneFiles$TableParser.readExpiry()Z
def f_TP_readExpiry_0 (nf : Nat) (tpS : Int32) (tpN : Nat) (tpA : Nat → Int32) (w0_0 : Int32) (w0_1 : Int32) (w0_4 : Int32) (w0_5 : Int32) (w3_3 : Int64) : Option (Int32 × Int32 × Int32 × Int32 × Int32 × Int64) :=
  (f_TP_skipBlanks nf (w0_4 + 2) tpS tpN tpA).bind fun z_1 =>
  (f_TP_readNumber nf w0_0 w0_1 z_1 tpS tpN tpA).bind fun (z_4, z_5, z_6, z_7) =>
  if (0 : Int64) ≤ z_4 then
  (f_TP_skipBlanks nf z_7 tpS tpN tpA).bind fun z_11 =>
    (f_TP_passLineEnd nf z_5 z_6 z_11 tpS tpN tpA).bind fun (z_14, z_15, z_16, z_17) =>
    if z_14 = 0 then
    some (0, z_15, z_16, z_17, w0_5, w3_3)
    else
    if w0_5 = 0 then
      some (1, z_15, z_16, z_17, 1, z_4 - 2208988800)
      else
      (f_TP_fail nf 5 z_1 z_15 z_16).bind fun (z_22, z_23, z_24) =>
        if z_22 = 0 ∨ z_22 = 1 then some (z_22, z_23, z_24, z_17, w0_5, w3_3) else none
  else
  some (0, z_5, z_6, z_7, w0_5, w3_3)
def f_TP_readExpiry (nf : Nat) (tFault : Int32) (tPlace : Int32) (tPos : Int32) (tHas : Int32) (tpS : Int32) (tpN : Nat) (tpA : Nat → Int32) (lExp : Int64) : Option (Int32 × Int32 × Int32 × Int32 × Int32 × Int64) :=
  f_TP_readExpiry_0 nf tpS tpN tpA tFault tPlace tPos tHas lExp
section
variable {p : Program} {l : Launch} {e : Env} {R : Room} {s : State} {m : MethodId} {args : Array Value} {below : List Frame} {meth : Method} {c : Code} {Q : State → Prop} {dC : Nat → ClassId} {dI : Nat → Nat → Nat} {nf : Nat} {A : Nat → Prop}
variable {h0 : Nat} {tTape : Nat} {tTable : Nat} {tpR : Nat} {lTi : Nat} {lAh : Nat} {cAtpR : ClassId} {tFault : Int32} {tPlace : Int32} {tPos : Int32} {tHas : Int32} {tpS : Int32} {tpN : Nat} {tpA : Nat → Int32} {lCount : Int32} {lExp : Int64} {r0 : Int32} {v0_0 : Int32} {v0_1 : Int32} {v0_4 : Int32} {v0_5 : Int32} {v3_3 : Int64}
set_option maxHeartbeats 400000 in
set_option maxRecDepth 100000 in
theorem k_TP_readExpiry_0 (C0 : Cx p s m meth c args R b_TP_readExpiry "ZoneFiles$TableParser" 4 (some .boolean) 2 46) (hST : ST A s s.heap) (hA : ∀ q, s.heap.size ≤ q → A q) (hE : ∀ (pc : Nat) (ls : Array Slot) {q2 : Nat} {nA2 : ClassId} (H : Heap) (locs : List Loc), decode b_TP_readExpiry pc = .ok (.ireturn, 1) → narrow .boolean (.int r0) = .int r0 → va_P (dC, dI) classes [(h0, .inr (7, [.int v0_0, .int v0_1, .ref tTape, .ref tTable, .int v0_4, .int v0_5])), (tTape, .inr (0, [.ref q2, .int tpS])), (q2, .inl (nA2, tpN, .inl tpA)), (tTable, .inr (4, [.int lCount, .ref lTi, .ref lAh, .long v3_3]))] H → va_D A [(h0, .inr (7, [.int v0_0, .int v0_1, .ref tTape, .ref tTable, .int v0_4, .int v0_5])), (tTape, .inr (0, [.ref q2, .int tpS])), (q2, .inl (nA2, tpN, .inl tpA)), (tTable, .inr (4, [.int lCount, .ref lTi, .ref lAh, .long v3_3]))] → va_S A s.heap H locs → va_K (dC, dI) classes [(nA2, .byte)] s → W p l e R s m args below meth c H locs 0 0 Q (F0 m pc ls [.int r0])) {w0_0 : Int32} {w0_1 : Int32} {w0_4 : Int32} {w0_5 : Int32} {w3_3 : Int64} (hf : f_TP_readExpiry_0 nf tpS tpN tpA w0_0 w0_1 w0_4 w0_5 w3_3 = some (r0, v0_0, v0_1, v0_4, v0_5, v3_3)) {q2 : Nat} {nA2 : ClassId} {H : Heap} {locs : List Loc} {ls : Array Slot} (hK : va_K (dC, dI) classes [(nA2, .byte)] s) (hP : va_P (dC, dI) classes [(h0, .inr (7, [.int w0_0, .int w0_1, .ref tTape, .ref tTable, .int w0_4, .int w0_5])), (tTape, .inr (0, [.ref q2, .int tpS])), (q2, .inl (nA2, tpN, .inl tpA)), (tTable, .inr (4, [.int lCount, .ref lTi, .ref lAh, .long w3_3]))] H) (hD : va_D A [(h0, .inr (7, [.int w0_0, .int w0_1, .ref tTape, .ref tTable, .int w0_4, .int w0_5])), (tTape, .inr (0, [.ref q2, .int tpS])), (q2, .inl (nA2, tpN, .inl tpA)), (tTable, .inr (4, [.int lCount, .ref lTi, .ref lAh, .long w3_3]))]) (hS : va_S A s.heap H locs) (hl : lv_has ls 4 [(0, .ref h0)]) : W p l e R s m args below meth c H locs 0 0 Q (F0 m 0 ls []) := by
  obtain ⟨hx, hb, hr, hml, hown, hts, hlocks, hRf, hRl⟩ := id C0
  obtain ⟨tms, hZms, hTms, tmg, hZmg, hTmg, hNW⟩ := id hST
  unfold f_TP_readExpiry_0 at hf
  refine lv_aload_n hx hb d_TP_readExpiry_0 rfl (lv_at hl 0 rfl) ?_
  refine lv_dup hx hb d_TP_readExpiry_1 rfl ?_
  refine va_get (D := (dC, dI)) (ci := 7) (v := .int w0_4) (C := RTableParser) (T := TTableParser) (N := 6) hx hb hts in_TableParser hown hK hP 0 rfl rfl 4 (by decide) (hts (.fieldLink "ZoneFiles$TableParser" 25 "ZoneFiles$TableParser" "pos" "I") m_2_161) (fun _ h9 => h9) rfl d_TP_readExpiry_2 ?_
  refine lv_iconst (v := 2) hx hb d_TP_readExpiry_5 (by decide) ?_
  refine lv_iadd hx hb d_TP_readExpiry_6 ?_
  refine va_put (D := (dC, dI)) (ci := 7) (v := .int (w0_4 + 2)) (ty := .int) (C := RTableParser) (T := TTableParser) (N := 6) hx hb hts in_TableParser tyTableParser ty_TableParser nm_TableParser hown hK hP hD hS 0 rfl rfl 4 (by decide) (hts (.fieldLink "ZoneFiles$TableParser" 25 "ZoneFiles$TableParser" "pos" "I") m_2_161) (fun _ h9 => h9) rfl (by decide +kernel) rfl rfl (Nat.le_of_ble_eq_true rfl) d_TP_readExpiry_7 (fun H locs hP hD hS => ?_)
  have hP : va_P (dC, dI) classes [(h0, .inr (7, [.int w0_0, .int w0_1, .ref tTape, .ref tTable, .int (w0_4 + 2), .int w0_5])), (tTape, .inr (0, [.ref q2, .int tpS])), (q2, .inl (nA2, tpN, .inl tpA)), (tTable, .inr (4, [.int lCount, .ref lTi, .ref lAh, .long w3_3]))] H := hP
  have hD : va_D A [(h0, .inr (7, [.int w0_0, .int w0_1, .ref tTape, .ref tTable, .int (w0_4 + 2), .int w0_5])), (tTape, .inr (0, [.ref q2, .int tpS])), (q2, .inl (nA2, tpN, .inl tpA)), (tTable, .inr (4, [.int lCount, .ref lTi, .ref lAh, .long w3_3]))] := hD
  refine lv_aload_n hx hb d_TP_readExpiry_10 rfl (lv_at hl 0 rfl) ?_
  obtain ⟨z_1, hc, hf⟩ := ob hf
  have hPc := hP.sub (ws' := [(h0, .inr (7, [.int w0_0, .int w0_1, .ref tTape, .ref tTable, .int (w0_4 + 2), .int w0_5])), (tTape, .inr (0, [.ref q2, .int tpS])), (q2, .inl (nA2, tpN, .inl tpA))]) [0, 1, 2] rfl
  have hDc := hD.sub (ws' := [(h0, .inr (7, [.int w0_0, .int w0_1, .ref tTape, .ref tTable, .int (w0_4 + 2), .int w0_5])), (tTape, .inr (0, [.ref q2, .int tpS])), (q2, .inl (nA2, tpN, .inl tpA))]) [0, 1, 2] (by decide) rfl
  have hKc := hK.sub (tys' := [(nA2, .byte)]) [0] rfl
  have hFc := va_free (wc := [(h0, .inr (7, [.int w0_0, .int w0_1, .ref tTape, .ref tTable, .int (w0_4 + 2), .int w0_5])), (tTape, .inr (0, [.ref q2, .int tpS])), (q2, .inl (nA2, tpN, .inl tpA))]) hD hS hA [0, 1, 2] rfl
  refine cl_M (v := none) (st1 := []) (va_runV (As := []) (rest := []) ⟨hx, hb, hml, hown, hts⟩ (c_TP_skipBlanks l dC dI h0 tTape tTable q2 nA2 H.size nf w0_0 w0_1 (w0_4 + 2) w0_5 tpS tpN tpA hc) (cwV 0 hts (gdV m_2_189 m_2_191 msel_4 m_1_19 m_2_192) rfl rfl rfl (by decide +kernel) ⟨Nat.le_trans (Nat.le_of_ble_eq_true rfl) hRf, Nat.le_trans (Nat.le_of_ble_eq_true rfl) hRl⟩) ((MU.pre hPc hKc hDc (hST.mu hS hFc)).vir (va_recv hKc hPc (ci := 7) (q0 := 0) rfl rfl)) rfl rfl hl.1 rfl (lv_room (Nat.le_of_ble_eq_true rfl)) d_TP_readExpiry_11 ⟨Nat.zero_le _, Nat.zero_le _⟩) rfl hS (fun q _ h => hFc q h) hFc (fun t H1 locs ht hvm hB hz1 hk1 hS => ?_)
  obtain ⟨q_2, cq_3, hP1, hK1, hD1⟩ := hB
  rw [ht] at hP1
  have hK1 := va_K.moved hvm.symm hK1
  obtain ⟨hP, hD⟩ := va_join (wr := [(tTable, .inr (4, [.int lCount, .ref lTi, .ref lAh, .long w3_3]))]) (w1 := [(h0, .inr (7, [.int w0_0, .int w0_1, .ref tTape, .ref tTable, .int z_1, .int w0_5])), (tTape, .inr (0, [.ref q_2, .int tpS])), (q_2, .inl (cq_3, tpN, .inl tpA))]) hP hD [0, 1, 2] [3] rfl rfl (by decide) (by decide) hk1 hFc hP1 hD1
  have hK := (hK.sub (tys' := []) [] rfl).app hK1
  generalize H1 = H at hP hS ⊢
  have hP := hP.sub (ws' := [(h0, .inr (7, [.int w0_0, .int w0_1, .ref tTape, .ref tTable, .int z_1, .int w0_5])), (tTape, .inr (0, [.ref q_2, .int tpS])), (q_2, .inl (cq_3, tpN, .inl tpA)), (tTable, .inr (4, [.int lCount, .ref lTi, .ref lAh, .long w3_3]))]) [1, 2, 3, 0] rfl
  have hD := hD.sub (ws' := [(h0, .inr (7, [.int w0_0, .int w0_1, .ref tTape, .ref tTable, .int z_1, .int w0_5])), (tTape, .inr (0, [.ref q_2, .int tpS])), (q_2, .inl (cq_3, tpN, .inl tpA)), (tTable, .inr (4, [.int lCount, .ref lTi, .ref lAh, .long w3_3]))]) [1, 2, 3, 0] (by decide) rfl
  have hK := hK.sub (tys' := [(cq_3, .byte)]) [0] rfl
  refine lv_aload_n hx hb d_TP_readExpiry_14 rfl (lv_at hl 0 rfl) ?_
  refine va_get (D := (dC, dI)) (ci := 7) (v := .int z_1) (C := RTableParser) (T := TTableParser) (N := 6) hx hb hts in_TableParser hown hK hP 0 rfl rfl 4 (by decide) (hts (.fieldLink "ZoneFiles$TableParser" 25 "ZoneFiles$TableParser" "pos" "I") m_2_161) (fun _ h9 => h9) rfl d_TP_readExpiry_15 ?_
  refine lv_istore_n (lv' := [(1, .int z_1), (0, .ref h0)]) hx hb d_TP_readExpiry_18 rfl hl (by decide) rfl (fun ls hl => ?_)
  refine lv_aload_n hx hb d_TP_readExpiry_19 rfl (lv_at hl 1 rfl) ?_
  obtain ⟨⟨z_4, z_5, z_6, z_7⟩, hc, hf⟩ := ob hf
  have hPc := hP.sub (ws' := [(h0, .inr (7, [.int w0_0, .int w0_1, .ref tTape, .ref tTable, .int z_1, .int w0_5])), (tTape, .inr (0, [.ref q_2, .int tpS])), (q_2, .inl (cq_3, tpN, .inl tpA))]) [0, 1, 2] rfl
  have hDc := hD.sub (ws' := [(h0, .inr (7, [.int w0_0, .int w0_1, .ref tTape, .ref tTable, .int z_1, .int w0_5])), (tTape, .inr (0, [.ref q_2, .int tpS])), (q_2, .inl (cq_3, tpN, .inl tpA))]) [0, 1, 2] (by decide) rfl
  have hKc := hK.sub (tys' := [(cq_3, .byte)]) [0] rfl
  have hFc := va_free (wc := [(h0, .inr (7, [.int w0_0, .int w0_1, .ref tTape, .ref tTable, .int z_1, .int w0_5])), (tTape, .inr (0, [.ref q_2, .int tpS])), (q_2, .inl (cq_3, tpN, .inl tpA))]) hD hS hA [0, 1, 2] rfl
  refine cl_M (v := (some (.long z_4))) (st1 := [.long z_4]) (va_runV (As := []) (rest := []) ⟨hx, hb, hml, hown, hts⟩ (c_TP_readNumber l dC dI h0 tTape tTable q_2 cq_3 H.size nf w0_0 w0_1 z_1 w0_5 tpS tpN tpA hc) (cwV 0 hts (gdV m_2_196 m_2_198 msel_5 m_1_19 m_2_199) rfl rfl rfl (by decide +kernel) ⟨Nat.le_trans (Nat.le_of_ble_eq_true rfl) hRf, Nat.le_trans (Nat.le_of_ble_eq_true rfl) hRl⟩) ((MU.pre hPc hKc hDc (hST.mu hS hFc)).vir (va_recv hKc hPc (ci := 7) (q0 := 0) rfl rfl)) rfl rfl hl.1 rfl (lv_room (Nat.le_of_ble_eq_true rfl)) d_TP_readExpiry_20 ⟨Nat.zero_le _, Nat.zero_le _⟩) rfl hS (fun q _ h => hFc q h) hFc (fun t H1 locs ht hvm hB hz1 hk1 hS => ?_)
  obtain ⟨q_8, cq_9, hP1, hK1, hD1⟩ := hB
  rw [ht] at hP1
  have hK1 := va_K.moved hvm.symm hK1
  obtain ⟨hP, hD⟩ := va_join (wr := [(tTable, .inr (4, [.int lCount, .ref lTi, .ref lAh, .long w3_3]))]) (w1 := [(h0, .inr (7, [.int z_5, .int z_6, .ref tTape, .ref tTable, .int z_7, .int w0_5])), (tTape, .inr (0, [.ref q_8, .int tpS])), (q_8, .inl (cq_9, tpN, .inl tpA))]) hP hD [0, 1, 2] [3] rfl rfl (by decide) (by decide) hk1 hFc hP1 hD1
  have hK := (hK.sub (tys' := []) [] rfl).app hK1
  generalize H1 = H at hP hS ⊢
  have hP := hP.sub (ws' := [(h0, .inr (7, [.int z_5, .int z_6, .ref tTape, .ref tTable, .int z_7, .int w0_5])), (tTape, .inr (0, [.ref q_8, .int tpS])), (q_8, .inl (cq_9, tpN, .inl tpA)), (tTable, .inr (4, [.int lCount, .ref lTi, .ref lAh, .long w3_3]))]) [1, 2, 3, 0] rfl
  have hD := hD.sub (ws' := [(h0, .inr (7, [.int z_5, .int z_6, .ref tTape, .ref tTable, .int z_7, .int w0_5])), (tTape, .inr (0, [.ref q_8, .int tpS])), (q_8, .inl (cq_9, tpN, .inl tpA)), (tTable, .inr (4, [.int lCount, .ref lTi, .ref lAh, .long w3_3]))]) [1, 2, 3, 0] (by decide) rfl
  have hK := hK.sub (tys' := [(cq_9, .byte)]) [0] rfl
  refine lv_lstore_n (lv' := [(2, .long z_4), (1, .int z_1), (0, .ref h0)]) hx hb d_TP_readExpiry_23 rfl hl (by decide) rfl (fun ls hl => ?_)
  refine lv_lload_n hx hb d_TP_readExpiry_24 rfl (lv_at hl 0 rfl) ?_
  refine lv_lconst (v := 0) hx hb d_TP_readExpiry_25 (by decide) ?_
  refine lc_ge (tgt := 32) hx hb d_TP_readExpiry_26 d_TP_readExpiry_27 (by decide) (fun c_10 => ?_) (fun c_10 => ?_)
  · have hf := it_t c_10 hf
    refine lv_aload_n hx hb d_TP_readExpiry_32 rfl (lv_at hl 2 rfl) ?_
    obtain ⟨z_11, hc, hf⟩ := ob hf
    have hPc := hP.sub (ws' := [(h0, .inr (7, [.int z_5, .int z_6, .ref tTape, .ref tTable, .int z_7, .int w0_5])), (tTape, .inr (0, [.ref q_8, .int tpS])), (q_8, .inl (cq_9, tpN, .inl tpA))]) [0, 1, 2] rfl
    have hDc := hD.sub (ws' := [(h0, .inr (7, [.int z_5, .int z_6, .ref tTape, .ref tTable, .int z_7, .int w0_5])), (tTape, .inr (0, [.ref q_8, .int tpS])), (q_8, .inl (cq_9, tpN, .inl tpA))]) [0, 1, 2] (by decide) rfl
    have hKc := hK.sub (tys' := [(cq_9, .byte)]) [0] rfl
    have hFc := va_free (wc := [(h0, .inr (7, [.int z_5, .int z_6, .ref tTape, .ref tTable, .int z_7, .int w0_5])), (tTape, .inr (0, [.ref q_8, .int tpS])), (q_8, .inl (cq_9, tpN, .inl tpA))]) hD hS hA [0, 1, 2] rfl
    refine cl_M (v := none) (st1 := []) (va_runV (As := []) (rest := []) ⟨hx, hb, hml, hown, hts⟩ (c_TP_skipBlanks l dC dI h0 tTape tTable q_8 cq_9 H.size nf z_5 z_6 z_7 w0_5 tpS tpN tpA hc) (cwV 0 hts (gdV m_2_189 m_2_191 msel_4 m_1_19 m_2_192) rfl rfl rfl (by decide +kernel) ⟨Nat.le_trans (Nat.le_of_ble_eq_true rfl) hRf, Nat.le_trans (Nat.le_of_ble_eq_true rfl) hRl⟩) ((MU.pre hPc hKc hDc (hST.mu hS hFc)).vir (va_recv hKc hPc (ci := 7) (q0 := 0) rfl rfl)) rfl rfl hl.1 rfl (lv_room (Nat.le_of_ble_eq_true rfl)) d_TP_readExpiry_33 ⟨Nat.zero_le _, Nat.zero_le _⟩) rfl hS (fun q _ h => hFc q h) hFc (fun t H1 locs ht hvm hB hz1 hk1 hS => ?_)
    obtain ⟨q_12, cq_13, hP1, hK1, hD1⟩ := hB
    rw [ht] at hP1
    have hK1 := va_K.moved hvm.symm hK1
    obtain ⟨hP, hD⟩ := va_join (wr := [(tTable, .inr (4, [.int lCount, .ref lTi, .ref lAh, .long w3_3]))]) (w1 := [(h0, .inr (7, [.int z_5, .int z_6, .ref tTape, .ref tTable, .int z_11, .int w0_5])), (tTape, .inr (0, [.ref q_12, .int tpS])), (q_12, .inl (cq_13, tpN, .inl tpA))]) hP hD [0, 1, 2] [3] rfl rfl (by decide) (by decide) hk1 hFc hP1 hD1
    have hK := (hK.sub (tys' := []) [] rfl).app hK1
    generalize H1 = H at hP hS ⊢
    have hP := hP.sub (ws' := [(h0, .inr (7, [.int z_5, .int z_6, .ref tTape, .ref tTable, .int z_11, .int w0_5])), (tTape, .inr (0, [.ref q_12, .int tpS])), (q_12, .inl (cq_13, tpN, .inl tpA)), (tTable, .inr (4, [.int lCount, .ref lTi, .ref lAh, .long w3_3]))]) [1, 2, 3, 0] rfl
    have hD := hD.sub (ws' := [(h0, .inr (7, [.int z_5, .int z_6, .ref tTape, .ref tTable, .int z_11, .int w0_5])), (tTape, .inr (0, [.ref q_12, .int tpS])), (q_12, .inl (cq_13, tpN, .inl tpA)), (tTable, .inr (4, [.int lCount, .ref lTi, .ref lAh, .long w3_3]))]) [1, 2, 3, 0] (by decide) rfl
    have hK := hK.sub (tys' := [(cq_13, .byte)]) [0] rfl
    refine lv_aload_n hx hb d_TP_readExpiry_36 rfl (lv_at hl 2 rfl) ?_
    obtain ⟨⟨z_14, z_15, z_16, z_17⟩, hc, hf⟩ := ob hf
    have hPc := hP.sub (ws' := [(h0, .inr (7, [.int z_5, .int z_6, .ref tTape, .ref tTable, .int z_11, .int w0_5])), (tTape, .inr (0, [.ref q_12, .int tpS])), (q_12, .inl (cq_13, tpN, .inl tpA))]) [0, 1, 2] rfl
    have hDc := hD.sub (ws' := [(h0, .inr (7, [.int z_5, .int z_6, .ref tTape, .ref tTable, .int z_11, .int w0_5])), (tTape, .inr (0, [.ref q_12, .int tpS])), (q_12, .inl (cq_13, tpN, .inl tpA))]) [0, 1, 2] (by decide) rfl
    have hKc := hK.sub (tys' := [(cq_13, .byte)]) [0] rfl
    have hFc := va_free (wc := [(h0, .inr (7, [.int z_5, .int z_6, .ref tTape, .ref tTable, .int z_11, .int w0_5])), (tTape, .inr (0, [.ref q_12, .int tpS])), (q_12, .inl (cq_13, tpN, .inl tpA))]) hD hS hA [0, 1, 2] rfl
    refine cl_M (v := (some (.int z_14))) (st1 := [.int z_14]) (va_runV (As := []) (rest := []) ⟨hx, hb, hml, hown, hts⟩ (c_TP_passLineEnd l dC dI h0 tTape tTable q_12 cq_13 H.size nf z_5 z_6 z_11 w0_5 tpS tpN tpA hc) (cwV 0 hts (gdV m_2_209 m_2_211 msel_7 m_1_19 m_2_212) rfl rfl rfl (by decide +kernel) ⟨Nat.le_trans (Nat.le_of_ble_eq_true rfl) hRf, Nat.le_trans (Nat.le_of_ble_eq_true rfl) hRl⟩) ((MU.pre hPc hKc hDc (hST.mu hS hFc)).vir (va_recv hKc hPc (ci := 7) (q0 := 0) rfl rfl)) rfl rfl hl.1 rfl (lv_room (Nat.le_of_ble_eq_true rfl)) d_TP_readExpiry_37 ⟨Nat.zero_le _, Nat.zero_le _⟩) rfl hS (fun q _ h => hFc q h) hFc (fun t H1 locs ht hvm hB hz1 hk1 hS => ?_)
    obtain ⟨q_18, cq_19, hP1, hK1, hD1⟩ := hB
    rw [ht] at hP1
    have hK1 := va_K.moved hvm.symm hK1
    obtain ⟨hP, hD⟩ := va_join (wr := [(tTable, .inr (4, [.int lCount, .ref lTi, .ref lAh, .long w3_3]))]) (w1 := [(h0, .inr (7, [.int z_15, .int z_16, .ref tTape, .ref tTable, .int z_17, .int w0_5])), (tTape, .inr (0, [.ref q_18, .int tpS])), (q_18, .inl (cq_19, tpN, .inl tpA))]) hP hD [0, 1, 2] [3] rfl rfl (by decide) (by decide) hk1 hFc hP1 hD1
    have hK := (hK.sub (tys' := []) [] rfl).app hK1
    generalize H1 = H at hP hS ⊢
    have hP := hP.sub (ws' := [(h0, .inr (7, [.int z_15, .int z_16, .ref tTape, .ref tTable, .int z_17, .int w0_5])), (tTape, .inr (0, [.ref q_18, .int tpS])), (q_18, .inl (cq_19, tpN, .inl tpA)), (tTable, .inr (4, [.int lCount, .ref lTi, .ref lAh, .long w3_3]))]) [1, 2, 3, 0] rfl
    have hD := hD.sub (ws' := [(h0, .inr (7, [.int z_15, .int z_16, .ref tTape, .ref tTable, .int z_17, .int w0_5])), (tTape, .inr (0, [.ref q_18, .int tpS])), (q_18, .inl (cq_19, tpN, .inl tpA)), (tTable, .inr (4, [.int lCount, .ref lTi, .ref lAh, .long w3_3]))]) [1, 2, 3, 0] (by decide) rfl
    have hK := hK.sub (tys' := [(cq_19, .byte)]) [0] rfl
    refine lv_if_ne (tgt := 45) hx hb d_TP_readExpiry_40 (by decide) (fun c_20 => ?_) (fun c_20 => ?_)
    · have hf := it_f c_20 hf
      refine lv_aload_n hx hb d_TP_readExpiry_45 rfl (lv_at hl 2 rfl) ?_
      refine va_get (D := (dC, dI)) (ci := 7) (v := .int w0_5) (C := RTableParser) (T := TTableParser) (N := 6) hx hb hts in_TableParser hown hK hP 0 rfl rfl 5 (by decide) (hts (.fieldLink "ZoneFiles$TableParser" 41 "ZoneFiles$TableParser" "hasExpiry" "Z") m_2_162) (fun _ h9 => h9) rfl d_TP_readExpiry_46 ?_
      refine lv_if_eq (tgt := 59) hx hb d_TP_readExpiry_49 (by decide) (fun c_21 => ?_) (fun c_21 => ?_)
      · have hf := it_t c_21 hf
        refine lv_aload_n hx hb d_TP_readExpiry_59 rfl (lv_at hl 2 rfl) ?_
        refine lv_iconst (v := 1) hx hb d_TP_readExpiry_60 (by decide) ?_
        refine va_put (D := (dC, dI)) (ci := 7) (v := .int 1) (ty := .boolean) (C := RTableParser) (T := TTableParser) (N := 6) hx hb hts in_TableParser tyTableParser ty_TableParser nm_TableParser hown hK hP hD hS 0 rfl rfl 5 (by decide) (hts (.fieldLink "ZoneFiles$TableParser" 41 "ZoneFiles$TableParser" "hasExpiry" "Z") m_2_162) (fun _ h9 => h9) rfl (by decide +kernel) rfl rfl (Nat.le_of_ble_eq_true rfl) d_TP_readExpiry_61 (fun H locs hP hD hS => ?_)
        have hP : va_P (dC, dI) classes [(h0, .inr (7, [.int z_15, .int z_16, .ref tTape, .ref tTable, .int z_17, .int 1])), (tTape, .inr (0, [.ref q_18, .int tpS])), (q_18, .inl (cq_19, tpN, .inl tpA)), (tTable, .inr (4, [.int lCount, .ref lTi, .ref lAh, .long w3_3]))] H := hP
        have hD : va_D A [(h0, .inr (7, [.int z_15, .int z_16, .ref tTape, .ref tTable, .int z_17, .int 1])), (tTape, .inr (0, [.ref q_18, .int tpS])), (q_18, .inl (cq_19, tpN, .inl tpA)), (tTable, .inr (4, [.int lCount, .ref lTi, .ref lAh, .long w3_3]))] := hD
        refine lv_aload_n hx hb d_TP_readExpiry_64 rfl (lv_at hl 2 rfl) ?_
        refine va_get (D := (dC, dI)) (ci := 7) (v := .ref tTable) (C := RTableParser) (T := TTableParser) (N := 6) hx hb hts in_TableParser hown hK hP 0 rfl rfl 3 (by decide) (hts (.fieldLink "ZoneFiles$TableParser" 15 "ZoneFiles$TableParser" "table" "LZoneFiles$LeapTable;") m_2_160) (fun _ h9 => h9) rfl d_TP_readExpiry_65 ?_
        refine lv_lload_n hx hb d_TP_readExpiry_68 rfl (lv_at hl 0 rfl) ?_
        refine lv_ldc2 (v := 2208988800) hx hb hown (hts (.constantLong "ZoneFiles$TableParser" 86 2208988800) m_2_213) d_TP_readExpiry_69 ?_
        refine lv_lsub hx hb d_TP_readExpiry_72 ?_
        refine va_put (D := (dC, dI)) (ci := 4) (v := .long (z_4 - 2208988800)) (ty := .long) (C := RLeapTable) (T := TLeapTable) (N := 4) hx hb hts in_LeapTable tyLeapTable ty_LeapTable nm_LeapTable hown hK hP hD hS 3 rfl rfl 3 (by decide) (hts (.fieldLink "ZoneFiles$TableParser" 45 "ZoneFiles$LeapTable" "expires" "J") m_2_106) (fun _ h9 => h9) rfl (by decide +kernel) rfl rfl (Nat.le_of_ble_eq_true rfl) d_TP_readExpiry_73 (fun H locs hP hD hS => ?_)
        have hP : va_P (dC, dI) classes [(h0, .inr (7, [.int z_15, .int z_16, .ref tTape, .ref tTable, .int z_17, .int 1])), (tTape, .inr (0, [.ref q_18, .int tpS])), (q_18, .inl (cq_19, tpN, .inl tpA)), (tTable, .inr (4, [.int lCount, .ref lTi, .ref lAh, .long (z_4 - 2208988800)]))] H := hP
        have hD : va_D A [(h0, .inr (7, [.int z_15, .int z_16, .ref tTape, .ref tTable, .int z_17, .int 1])), (tTape, .inr (0, [.ref q_18, .int tpS])), (q_18, .inl (cq_19, tpN, .inl tpA)), (tTable, .inr (4, [.int lCount, .ref lTi, .ref lAh, .long (z_4 - 2208988800)]))] := hD
        refine lv_iconst (v := 1) hx hb d_TP_readExpiry_76 (by decide) ?_
        cases rs hf
        exact hE _ _ _ _ d_TP_readExpiry_77 rfl hP hD hS hK
      · have hf := it_f c_21 hf
        refine lv_aload_n hx hb d_TP_readExpiry_52 rfl (lv_at hl 2 rfl) ?_
        refine lv_iconst (v := 5) hx hb d_TP_readExpiry_53 (by decide) ?_
        refine lv_iload_n hx hb d_TP_readExpiry_54 rfl (lv_at hl 1 rfl) ?_
        obtain ⟨⟨z_22, z_23, z_24⟩, hc, hf⟩ := ob hf
        have hPc := hP.sub (ws' := [(h0, .inr (7, [.int z_15, .int z_16, .ref tTape, .ref tTable, .int z_17, .int w0_5]))]) [0] rfl
        have hDc := hD.sub (ws' := [(h0, .inr (7, [.int z_15, .int z_16, .ref tTape, .ref tTable, .int z_17, .int w0_5]))]) [0] (by decide) rfl
        have hKc := hK.sub (tys' := []) [] rfl
        have hFc := va_free (wc := [(h0, .inr (7, [.int z_15, .int z_16, .ref tTape, .ref tTable, .int z_17, .int w0_5]))]) hD hS hA [0] rfl
        refine cl_M (v := (some (.int z_22))) (st1 := [.int z_22]) (va_runV (As := [.int 5, .int z_1]) (rest := []) ⟨hx, hb, hml, hown, hts⟩ (c_TP_fail l dC dI h0 tTape tTable H.size nf 5 z_1 z_15 z_16 z_17 w0_5 hc) (cwV 2 hts (gdV m_2_204 m_2_206 msel_6 m_1_19 m_2_207) rfl rfl rfl (by decide +kernel) ⟨Nat.le_trans (Nat.le_of_ble_eq_true rfl) hRf, Nat.le_trans (Nat.le_of_ble_eq_true rfl) hRl⟩) ((MU.pre hPc hKc hDc (hST.mu hS hFc)).vir (va_recv hKc hPc (ci := 7) (q0 := 0) rfl rfl)) rfl rfl hl.1 rfl (lv_room (Nat.le_of_ble_eq_true rfl)) d_TP_readExpiry_55 ⟨Nat.zero_le _, Nat.zero_le _⟩) rfl hS (fun q _ h => hFc q h) hFc (fun t H1 locs ht hvm hB hz1 hk1 hS => ?_)
        obtain ⟨hP1, hK1, hD1⟩ := hB
        rw [ht] at hP1
        have hK1 := va_K.moved hvm.symm hK1
        obtain ⟨hP, hD⟩ := va_join (wr := [(tTape, .inr (0, [.ref q_18, .int tpS])), (q_18, .inl (cq_19, tpN, .inl tpA)), (tTable, .inr (4, [.int lCount, .ref lTi, .ref lAh, .long w3_3]))]) (w1 := [(h0, .inr (7, [.int z_23, .int z_24, .ref tTape, .ref tTable, .int z_17, .int w0_5]))]) hP hD [0] [1, 2, 3] rfl rfl (by decide) (by decide) hk1 hFc hP1 hD1
        have hK := (hK.sub (tys' := [(cq_19, .byte)]) [0] rfl).app hK1
        generalize H1 = H at hP hS ⊢
        have hP := hP.sub (ws' := [(h0, .inr (7, [.int z_23, .int z_24, .ref tTape, .ref tTable, .int z_17, .int w0_5])), (tTape, .inr (0, [.ref q_18, .int tpS])), (q_18, .inl (cq_19, tpN, .inl tpA)), (tTable, .inr (4, [.int lCount, .ref lTi, .ref lAh, .long w3_3]))]) [3, 0, 1, 2] rfl
        have hD := hD.sub (ws' := [(h0, .inr (7, [.int z_23, .int z_24, .ref tTape, .ref tTable, .int z_17, .int w0_5])), (tTape, .inr (0, [.ref q_18, .int tpS])), (q_18, .inl (cq_19, tpN, .inl tpA)), (tTable, .inr (4, [.int lCount, .ref lTi, .ref lAh, .long w3_3]))]) [3, 0, 1, 2] (by decide) rfl
        have hK := hK.sub (tys' := [(cq_19, .byte)]) [0] rfl
        obtain ⟨c_25, hf⟩ := it_g hf
        cases rs hf
        exact hE _ _ _ _ d_TP_readExpiry_58 (nb_of c_25) hP hD hS hK
    · have hf := it_t c_20 hf
      refine lv_iconst (v := 0) hx hb d_TP_readExpiry_43 (by decide) ?_
      cases rs hf
      exact hE _ _ _ _ d_TP_readExpiry_44 rfl hP hD hS hK
  · have hf := it_f c_10 hf
    refine lv_iconst (v := 0) hx hb d_TP_readExpiry_30 (by decide) ?_
    cases rs hf
    exact hE _ _ _ _ d_TP_readExpiry_31 rfl hP hD hS hK
end
set_option maxHeartbeats 400000 in
set_option maxRecDepth 100000 in
theorem c_TP_readExpiry (l : Launch) (dC : Nat → ClassId) (dI : Nat → Nat → Nat) (h0 : Nat) (tTape : Nat) (tTable : Nat) (tpR : Nat) (lTi : Nat) (lAh : Nat) (cAtpR : ClassId) (sz : Nat) (nf : Nat) (tFault : Int32) (tPlace : Int32) (tPos : Int32) (tHas : Int32) (tpS : Int32) (tpN : Nat) (tpA : Nat → Int32) (lCount : Int32) (lExp : Int64) {r0 : Int32} {v0_0 : Int32} {v0_1 : Int32} {v0_4 : Int32} {v0_5 : Int32} {v3_3 : Int64} (hf : f_TP_readExpiry nf tFault tPlace tPos tHas tpS tpN tpA lExp = some (r0, v0_0, v0_1, v0_4, v0_5, v3_3)) : Met l y_TP_readExpiry (wd y_TP_readExpiry b_TP_readExpiry 4 (some .boolean)) ({ frames := 2, cells := 0, slots := 0, locals := 46 }) (MU dC dI [(h0, .inr (7, [.int tFault, .int tPlace, .ref tTape, .ref tTable, .int tPos, .int tHas])), (tTape, .inr (0, [.ref tpR, .int tpS])), (tpR, .inl (cAtpR, tpN, .inl tpA)), (tTable, .inr (4, [.int lCount, .ref lTi, .ref lAh, .long lExp]))] [(cAtpR, .byte)] sz [.ref h0]) (MV (some (.int r0)) (fun t => ∃ (q2 : Nat) (nA2 : ClassId), va_P (dC, dI) classes [(h0, .inr (7, [.int v0_0, .int v0_1, .ref tTape, .ref tTable, .int v0_4, .int v0_5])), (tTape, .inr (0, [.ref q2, .int tpS])), (q2, .inl (nA2, tpN, .inl tpA)), (tTable, .inr (4, [.int lCount, .ref lTi, .ref lAh, .long v3_3]))] t.heap ∧ va_K (dC, dI) classes [(nA2, .byte)] t ∧ va_D (va_A [(h0, .inr (7, [.int tFault, .int tPlace, .ref tTape, .ref tTable, .int tPos, .int tHas])), (tTape, .inr (0, [.ref tpR, .int tpS])), (tpR, .inl (cAtpR, tpN, .inl tpA)), (tTable, .inr (4, [.int lCount, .ref lTi, .ref lAh, .long lExp]))] sz) [(h0, .inr (7, [.int v0_0, .int v0_1, .ref tTape, .ref tTable, .int v0_4, .int v0_5])), (tTape, .inr (0, [.ref q2, .int tpS])), (q2, .inl (nA2, tpN, .inl tpA)), (tTable, .inr (4, [.int lCount, .ref lTi, .ref lAh, .long v3_3]))]) (va_A [(h0, .inr (7, [.int tFault, .int tPlace, .ref tTape, .ref tTable, .int tPos, .int tHas])), (tTape, .inr (0, [.ref tpR, .int tpS])), (tpR, .inl (cAtpR, tpN, .inl tpA)), (tTable, .inr (4, [.int lCount, .ref lTi, .ref lAh, .long lExp]))] sz)) 0 0 (va_A [(h0, .inr (7, [.int tFault, .int tPlace, .ref tTape, .ref tTable, .int tPos, .int tHas])), (tTape, .inr (0, [.ref tpR, .int tpS])), (tpR, .inl (cAtpR, tpN, .inl tpA)), (tTable, .inr (4, [.int lCount, .ref lTi, .ref lAh, .long lExp]))] sz) :=
  met_M (plainFor_of_name (by decide)) (Nat.le_of_ble_eq_true rfl) (fun p e R s m args below meth c ls hRc hRs hsz hin C0 hST hK hP hD hl => by
    obtain ⟨hx, hb, hr, hml, hown, hts, hlocks, hRf, hRl⟩ := id C0
    subst hsz
    have hA : ∀ q : Nat, s.heap.size ≤ q → va_A [(h0, .inr (7, [.int tFault, .int tPlace, .ref tTape, .ref tTable, .int tPos, .int tHas])), (tTape, .inr (0, [.ref tpR, .int tpS])), (tpR, .inl (cAtpR, tpN, .inl tpA)), (tTable, .inr (4, [.int lCount, .ref lTi, .ref lAh, .long lExp]))] s.heap.size q := fun q h => Or.inr h
    have hS : va_S (va_A [(h0, .inr (7, [.int tFault, .int tPlace, .ref tTape, .ref tTable, .int tPos, .int tHas])), (tTape, .inr (0, [.ref tpR, .int tpS])), (tpR, .inl (cAtpR, tpN, .inl tpA)), (tTable, .inr (4, [.int lCount, .ref lTi, .ref lAh, .long lExp]))] s.heap.size) s.heap s.heap [] := va_S.rf
    unfold f_TP_readExpiry at hf
    exact k_TP_readExpiry_0 C0 hST hA (fun pc ls {q2} {nA2} H locs hd hn hP hD hS hK => W.zret hx hb hr hn (fun t ht hW => ⟨⟨rfl, ⟨q2, nA2, by rw [ht]; exact hP, va_K.moved hW.alike hK, hD⟩⟩, hS.F ht⟩) hS.2.2 hd) hf hK hP hD hS (lv_sub hl [0] rfl))
-- ZoneFiles$TableParser.readLine()Z
def f_TP_readLine_0 (nf : Nat) (tpS : Int32) (tpN : Nat) (tpA : Nat → Int32) (w0_0 : Int32) (w0_1 : Int32) (w0_4 : Int32) (w0_5 : Int32) (w3_0 : Int32) (w3_3 : Int64) (w4_a : Nat → Int64) (w5_a : Nat → Int64) : Option (Int32 × Int32 × Int32 × Int32 × Int32 × Int32 × Int64 × (Nat → Int64) × (Nat → Int64)) :=
  (f_By_get nf w0_4 tpS tpN tpA).bind fun r_1 =>
  if r_1 = (35 : Int32) then
  (f_By_get nf (w0_4 + 1) tpS tpN tpA).bind fun r_25 =>
    if r_25 = (64 : Int32) then
    (f_TP_readExpiry nf w0_0 w0_1 w0_4 w0_5 tpS tpN tpA w3_3).bind fun (z_37, z_38, z_39, z_40, z_41, z_42) =>
      if z_37 = 0 ∨ z_37 = 1 then some (z_37, z_38, z_39, z_40, z_41, w3_0, z_42, w4_a, w5_a) else none
    else
    (f_TP_skipToLineEnd nf w0_4 tpS tpN tpA).bind fun z_27 =>
      (f_TP_passLineEnd nf w0_0 w0_1 z_27 tpS tpN tpA).bind fun (z_30, z_31, z_32, z_33) =>
      if z_30 = 0 ∨ z_30 = 1 then some (z_30, z_31, z_32, z_33, w0_5, w3_0, w3_3, w4_a, w5_a) else none
  else
  (f_ZF_isDigit nf r_1).bind fun r_3 =>
    if r_3 = 0 then
    (f_TP_skipBlanks nf w0_4 tpS tpN tpA).bind fun z_5 =>
      (f_TP_passLineEnd nf w0_0 w0_1 z_5 tpS tpN tpA).bind fun (z_8, z_9, z_10, z_11) =>
      if z_8 = 0 ∨ z_8 = 1 then some (z_8, z_9, z_10, z_11, w0_5, w3_0, w3_3, w4_a, w5_a) else none
    else
    (f_TP_readRow nf w0_0 w0_1 w0_4 tpS tpN tpA w3_0 w4_a w5_a).bind fun (z_15, z_16, z_17, z_18, z_19, z_20, z_21) =>
      if z_15 = 0 ∨ z_15 = 1 then some (z_15, z_16, z_17, z_18, w0_5, z_19, w3_3, z_20, z_21) else none
def f_TP_readLine (nf : Nat) (tFault : Int32) (tPlace : Int32) (tPos : Int32) (tHas : Int32) (tpS : Int32) (tpN : Nat) (tpA : Nat → Int32) (lCount : Int32) (lExp : Int64) (lTiA : Nat → Int64) (lAhA : Nat → Int64) : Option (Int32 × Int32 × Int32 × Int32 × Int32 × Int32 × Int64 × (Nat → Int64) × (Nat → Int64)) :=
  f_TP_readLine_0 nf tpS tpN tpA tFault tPlace tPos tHas lCount lExp lTiA lAhA
section
variable {p : Program} {l : Launch} {e : Env} {R : Room} {s : State} {m : MethodId} {args : Array Value} {below : List Frame} {meth : Method} {c : Code} {Q : State → Prop} {dC : Nat → ClassId} {dI : Nat → Nat → Nat} {nf : Nat} {A : Nat → Prop}
variable {h0 : Nat} {tTape : Nat} {tTable : Nat} {tpR : Nat} {lTi : Nat} {lAh : Nat} {cAtpR : ClassId} {cAlTi : ClassId} {cAlAh : ClassId} {tFault : Int32} {tPlace : Int32} {tPos : Int32} {tHas : Int32} {tpS : Int32} {tpN : Nat} {tpA : Nat → Int32} {lCount : Int32} {lExp : Int64} {lTiA : Nat → Int64} {lAhA : Nat → Int64} {r0 : Int32} {v0_0 : Int32} {v0_1 : Int32} {v0_4 : Int32} {v0_5 : Int32} {v3_0 : Int32} {v3_3 : Int64} {v4_a : Nat → Int64} {v5_a : Nat → Int64}
set_option maxHeartbeats 400000 in
set_option maxRecDepth 100000 in
theorem k_TP_readLine_0 (C0 : Cx p s m meth c args R b_TP_readLine "ZoneFiles$TableParser" 2 (some .boolean) 3 77) (hST : ST A s s.heap) (hA : ∀ q, s.heap.size ≤ q → A q) (hE : ∀ (pc : Nat) (ls : Array Slot) {q2 : Nat} {nA2 : ClassId} (H : Heap) (locs : List Loc), decode b_TP_readLine pc = .ok (.ireturn, 1) → narrow .boolean (.int r0) = .int r0 → va_P (dC, dI) classes [(h0, .inr (7, [.int v0_0, .int v0_1, .ref tTape, .ref tTable, .int v0_4, .int v0_5])), (tTape, .inr (0, [.ref q2, .int tpS])), (q2, .inl (nA2, tpN, .inl tpA)), (tTable, .inr (4, [.int v3_0, .ref lTi, .ref lAh, .long v3_3])), (lTi, .inl (cAlTi, 60, .inr (.inl v4_a))), (lAh, .inl (cAlAh, 60, .inr (.inl v5_a)))] H → va_D A [(h0, .inr (7, [.int v0_0, .int v0_1, .ref tTape, .ref tTable, .int v0_4, .int v0_5])), (tTape, .inr (0, [.ref q2, .int tpS])), (q2, .inl (nA2, tpN, .inl tpA)), (tTable, .inr (4, [.int v3_0, .ref lTi, .ref lAh, .long v3_3])), (lTi, .inl (cAlTi, 60, .inr (.inl v4_a))), (lAh, .inl (cAlAh, 60, .inr (.inl v5_a)))] → va_S A s.heap H locs → va_K (dC, dI) classes [(nA2, .byte), (cAlTi, .long), (cAlAh, .long)] s → W p l e R s m args below meth c H locs 0 0 Q (F0 m pc ls [.int r0])) {w0_0 : Int32} {w0_1 : Int32} {w0_4 : Int32} {w0_5 : Int32} {w3_0 : Int32} {w3_3 : Int64} {w4_a : Nat → Int64} {w5_a : Nat → Int64} (hf : f_TP_readLine_0 nf tpS tpN tpA w0_0 w0_1 w0_4 w0_5 w3_0 w3_3 w4_a w5_a = some (r0, v0_0, v0_1, v0_4, v0_5, v3_0, v3_3, v4_a, v5_a)) {q2 : Nat} {nA2 : ClassId} {H : Heap} {locs : List Loc} {ls : Array Slot} (hK : va_K (dC, dI) classes [(nA2, .byte), (cAlTi, .long), (cAlAh, .long)] s) (hP : va_P (dC, dI) classes [(h0, .inr (7, [.int w0_0, .int w0_1, .ref tTape, .ref tTable, .int w0_4, .int w0_5])), (tTape, .inr (0, [.ref q2, .int tpS])), (q2, .inl (nA2, tpN, .inl tpA)), (tTable, .inr (4, [.int w3_0, .ref lTi, .ref lAh, .long w3_3])), (lTi, .inl (cAlTi, 60, .inr (.inl w4_a))), (lAh, .inl (cAlAh, 60, .inr (.inl w5_a)))] H) (hD : va_D A [(h0, .inr (7, [.int w0_0, .int w0_1, .ref tTape, .ref tTable, .int w0_4, .int w0_5])), (tTape, .inr (0, [.ref q2, .int tpS])), (q2, .inl (nA2, tpN, .inl tpA)), (tTable, .inr (4, [.int w3_0, .ref lTi, .ref lAh, .long w3_3])), (lTi, .inl (cAlTi, 60, .inr (.inl w4_a))), (lAh, .inl (cAlAh, 60, .inr (.inl w5_a)))]) (hS : va_S A s.heap H locs) (hl : lv_has ls 2 [(0, .ref h0)]) : W p l e R s m args below meth c H locs 0 0 Q (F0 m 0 ls []) := by
  obtain ⟨hx, hb, hr, hml, hown, hts, hlocks, hRf, hRl⟩ := id C0
  obtain ⟨tms, hZms, hTms, tmg, hZmg, hTmg, hNW⟩ := id hST
  unfold f_TP_readLine_0 at hf
  refine lv_aload_n hx hb d_TP_readLine_0 rfl (lv_at hl 0 rfl) ?_
  refine va_get (D := (dC, dI)) (ci := 7) (v := .ref tTape) (C := RTableParser) (T := TTableParser) (N := 6) hx hb hts in_TableParser hown hK hP 0 rfl rfl 2 (by decide) (hts (.fieldLink "ZoneFiles$TableParser" 9 "ZoneFiles$TableParser" "tape" "LZoneFiles$Bytes;") m_2_159) (fun _ h9 => h9) rfl d_TP_readLine_1 ?_
  refine lv_aload_n hx hb d_TP_readLine_4 rfl (lv_at hl 0 rfl) ?_
  refine va_get (D := (dC, dI)) (ci := 7) (v := .int w0_4) (C := RTableParser) (T := TTableParser) (N := 6) hx hb hts in_TableParser hown hK hP 0 rfl rfl 4 (by decide) (hts (.fieldLink "ZoneFiles$TableParser" 25 "ZoneFiles$TableParser" "pos" "I") m_2_161) (fun _ h9 => h9) rfl d_TP_readLine_5 ?_
  obtain ⟨r_1, hc, hf⟩ := ob hf
  refine cl_S (v := (some (.int r_1))) (st1 := [.int r_1]) (va_runV (As := [.int w0_4]) (rest := []) ⟨hx, hb, hml, hown, hts⟩ (c_By_get l dC dI tTape q2 nA2 nf w0_4 tpS tpN tpA hc) (cwV 1 hts (gdV m_2_184 m_2_71 m_2_72 m_1_2 m_2_73) rfl rfl rfl (by decide +kernel) ⟨Nat.le_trans (Nat.le_of_ble_eq_true rfl) hRf, Nat.le_trans (Nat.le_of_ble_eq_true rfl) hRl⟩) ((RO.pre (hP.sub (ws' := [(tTape, .inr (0, [.ref q2, .int tpS])), (q2, .inl (nA2, tpN, .inl tpA))]) [1, 2] rfl) (hK.sub (tys' := [(nA2, .byte)]) [0] rfl) (hST.ro hS)).vir (va_recv (hK.sub (tys' := [(nA2, .byte)]) [0] rfl) (hP.sub (ws' := [(tTape, .inr (0, [.ref q2, .int tpS])), (q2, .inl (nA2, tpN, .inl tpA))]) [1, 2] rfl) (ci := 0) (q0 := 0) rfl rfl)) rfl rfl hl.1 rfl (lv_room (Nat.le_of_ble_eq_true rfl)) d_TP_readLine_8 ⟨Nat.zero_le _, Nat.zero_le _⟩) rfl ?_
  refine lv_istore_n (lv' := [(1, .int r_1), (0, .ref h0)]) hx hb d_TP_readLine_11 rfl hl (by decide) rfl (fun ls hl => ?_)
  refine lv_iload_n hx hb d_TP_readLine_12 rfl (lv_at hl 0 rfl) ?_
  refine lv_bipush (v := 35) hx hb d_TP_readLine_13 (by decide) ?_
  refine lv_icmp_ne (tgt := 50) hx hb d_TP_readLine_15 (by decide) (fun c_2 => ?_) (fun c_2 => ?_)
  · have hf := it_f c_2 hf
    refine lv_iload_n hx hb d_TP_readLine_50 rfl (lv_at hl 0 rfl) ?_
    obtain ⟨r_3, hc, hf⟩ := ob hf
    refine cl_S (v := (some (.int r_3))) (st1 := [.int r_3]) (va_runSN (As := [.int r_1]) (rest := []) ⟨hx, hb, hml, hown, hts⟩ (c_ZF_isDigit l dC dI nf r_1 hc) ⟨va_cnB 1 hts (gd_of m_2_202) rfl rfl rfl hNW.2.1 (hts _ m_1_1) (by decide +kernel) ⟨Nat.le_trans (Nat.le_of_ble_eq_true rfl) hRf, Nat.le_trans (Nat.le_of_ble_eq_true rfl) hRl⟩, hts _ m_2_201, trivial⟩ (RO.pre0 hK (hST.ro hS)).sta rfl rfl hl.1 rfl (lv_room (Nat.le_of_ble_eq_true rfl)) d_TP_readLine_51 ⟨Nat.zero_le _, Nat.zero_le _⟩) rfl ?_
    refine lv_if_eq (tgt := 62) hx hb d_TP_readLine_54 (by decide) (fun c_4 => ?_) (fun c_4 => ?_)
    · have hf := it_t c_4 hf
      refine lv_aload_n hx hb d_TP_readLine_62 rfl (lv_at hl 1 rfl) ?_
      obtain ⟨z_5, hc, hf⟩ := ob hf
      have hPc := hP.sub (ws' := [(h0, .inr (7, [.int w0_0, .int w0_1, .ref tTape, .ref tTable, .int w0_4, .int w0_5])), (tTape, .inr (0, [.ref q2, .int tpS])), (q2, .inl (nA2, tpN, .inl tpA))]) [0, 1, 2] rfl
      have hDc := hD.sub (ws' := [(h0, .inr (7, [.int w0_0, .int w0_1, .ref tTape, .ref tTable, .int w0_4, .int w0_5])), (tTape, .inr (0, [.ref q2, .int tpS])), (q2, .inl (nA2, tpN, .inl tpA))]) [0, 1, 2] (by decide) rfl
      have hKc := hK.sub (tys' := [(nA2, .byte)]) [0] rfl
      have hFc := va_free (wc := [(h0, .inr (7, [.int w0_0, .int w0_1, .ref tTape, .ref tTable, .int w0_4, .int w0_5])), (tTape, .inr (0, [.ref q2, .int tpS])), (q2, .inl (nA2, tpN, .inl tpA))]) hD hS hA [0, 1, 2] rfl
      refine cl_M (v := none) (st1 := []) (va_runV (As := []) (rest := []) ⟨hx, hb, hml, hown, hts⟩ (c_TP_skipBlanks l dC dI h0 tTape tTable q2 nA2 H.size nf w0_0 w0_1 w0_4 w0_5 tpS tpN tpA hc) (cwV 0 hts (gdV m_2_189 m_2_191 msel_4 m_1_19 m_2_192) rfl rfl rfl (by decide +kernel) ⟨Nat.le_trans (Nat.le_of_ble_eq_true rfl) hRf, Nat.le_trans (Nat.le_of_ble_eq_true rfl) hRl⟩) ((MU.pre hPc hKc hDc (hST.mu hS hFc)).vir (va_recv hKc hPc (ci := 7) (q0 := 0) rfl rfl)) rfl rfl hl.1 rfl (lv_room (Nat.le_of_ble_eq_true rfl)) d_TP_readLine_63 ⟨Nat.zero_le _, Nat.zero_le _⟩) rfl hS (fun q _ h => hFc q h) hFc (fun t H1 locs ht hvm hB hz1 hk1 hS => ?_)
      obtain ⟨q_6, cq_7, hP1, hK1, hD1⟩ := hB
      rw [ht] at hP1
      have hK1 := va_K.moved hvm.symm hK1
      obtain ⟨hP, hD⟩ := va_join (wr := [(tTable, .inr (4, [.int w3_0, .ref lTi, .ref lAh, .long w3_3])), (lTi, .inl (cAlTi, 60, .inr (.inl w4_a))), (lAh, .inl (cAlAh, 60, .inr (.inl w5_a)))]) (w1 := [(h0, .inr (7, [.int w0_0, .int w0_1, .ref tTape, .ref tTable, .int z_5, .int w0_5])), (tTape, .inr (0, [.ref q_6, .int tpS])), (q_6, .inl (cq_7, tpN, .inl tpA))]) hP hD [0, 1, 2] [3, 4, 5] rfl rfl (by decide) (by decide) hk1 hFc hP1 hD1
      have hK := (hK.sub (tys' := [(cAlTi, .long), (cAlAh, .long)]) [1, 2] rfl).app hK1
      generalize H1 = H at hP hS ⊢
      have hP := hP.sub (ws' := [(h0, .inr (7, [.int w0_0, .int w0_1, .ref tTape, .ref tTable, .int z_5, .int w0_5])), (tTape, .inr (0, [.ref q_6, .int tpS])), (q_6, .inl (cq_7, tpN, .inl tpA)), (tTable, .inr (4, [.int w3_0, .ref lTi, .ref lAh, .long w3_3])), (lTi, .inl (cAlTi, 60, .inr (.inl w4_a))), (lAh, .inl (cAlAh, 60, .inr (.inl w5_a)))]) [3, 4, 5, 0, 1, 2] rfl
      have hD := hD.sub (ws' := [(h0, .inr (7, [.int w0_0, .int w0_1, .ref tTape, .ref tTable, .int z_5, .int w0_5])), (tTape, .inr (0, [.ref q_6, .int tpS])), (q_6, .inl (cq_7, tpN, .inl tpA)), (tTable, .inr (4, [.int w3_0, .ref lTi, .ref lAh, .long w3_3])), (lTi, .inl (cAlTi, 60, .inr (.inl w4_a))), (lAh, .inl (cAlAh, 60, .inr (.inl w5_a)))]) [3, 4, 5, 0, 1, 2] (by decide) rfl
      have hK := hK.sub (tys' := [(cq_7, .byte), (cAlTi, .long), (cAlAh, .long)]) [2, 0, 1] rfl
      refine lv_aload_n hx hb d_TP_readLine_66 rfl (lv_at hl 1 rfl) ?_
      obtain ⟨⟨z_8, z_9, z_10, z_11⟩, hc, hf⟩ := ob hf
      have hPc := hP.sub (ws' := [(h0, .inr (7, [.int w0_0, .int w0_1, .ref tTape, .ref tTable, .int z_5, .int w0_5])), (tTape, .inr (0, [.ref q_6, .int tpS])), (q_6, .inl (cq_7, tpN, .inl tpA))]) [0, 1, 2] rfl
      have hDc := hD.sub (ws' := [(h0, .inr (7, [.int w0_0, .int w0_1, .ref tTape, .ref tTable, .int z_5, .int w0_5])), (tTape, .inr (0, [.ref q_6, .int tpS])), (q_6, .inl (cq_7, tpN, .inl tpA))]) [0, 1, 2] (by decide) rfl
      have hKc := hK.sub (tys' := [(cq_7, .byte)]) [0] rfl
      have hFc := va_free (wc := [(h0, .inr (7, [.int w0_0, .int w0_1, .ref tTape, .ref tTable, .int z_5, .int w0_5])), (tTape, .inr (0, [.ref q_6, .int tpS])), (q_6, .inl (cq_7, tpN, .inl tpA))]) hD hS hA [0, 1, 2] rfl
      refine cl_M (v := (some (.int z_8))) (st1 := [.int z_8]) (va_runV (As := []) (rest := []) ⟨hx, hb, hml, hown, hts⟩ (c_TP_passLineEnd l dC dI h0 tTape tTable q_6 cq_7 H.size nf w0_0 w0_1 z_5 w0_5 tpS tpN tpA hc) (cwV 0 hts (gdV m_2_209 m_2_211 msel_7 m_1_19 m_2_212) rfl rfl rfl (by decide +kernel) ⟨Nat.le_trans (Nat.le_of_ble_eq_true rfl) hRf, Nat.le_trans (Nat.le_of_ble_eq_true rfl) hRl⟩) ((MU.pre hPc hKc hDc (hST.mu hS hFc)).vir (va_recv hKc hPc (ci := 7) (q0 := 0) rfl rfl)) rfl rfl hl.1 rfl (lv_room (Nat.le_of_ble_eq_true rfl)) d_TP_readLine_67 ⟨Nat.zero_le _, Nat.zero_le _⟩) rfl hS (fun q _ h => hFc q h) hFc (fun t H1 locs ht hvm hB hz1 hk1 hS => ?_)
      obtain ⟨q_12, cq_13, hP1, hK1, hD1⟩ := hB
      rw [ht] at hP1
      have hK1 := va_K.moved hvm.symm hK1
      obtain ⟨hP, hD⟩ := va_join (wr := [(tTable, .inr (4, [.int w3_0, .ref lTi, .ref lAh, .long w3_3])), (lTi, .inl (cAlTi, 60, .inr (.inl w4_a))), (lAh, .inl (cAlAh, 60, .inr (.inl w5_a)))]) (w1 := [(h0, .inr (7, [.int z_9, .int z_10, .ref tTape, .ref tTable, .int z_11, .int w0_5])), (tTape, .inr (0, [.ref q_12, .int tpS])), (q_12, .inl (cq_13, tpN, .inl tpA))]) hP hD [0, 1, 2] [3, 4, 5] rfl rfl (by decide) (by decide) hk1 hFc hP1 hD1
      have hK := (hK.sub (tys' := [(cAlTi, .long), (cAlAh, .long)]) [1, 2] rfl).app hK1
      generalize H1 = H at hP hS ⊢
      have hP := hP.sub (ws' := [(h0, .inr (7, [.int z_9, .int z_10, .ref tTape, .ref tTable, .int z_11, .int w0_5])), (tTape, .inr (0, [.ref q_12, .int tpS])), (q_12, .inl (cq_13, tpN, .inl tpA)), (tTable, .inr (4, [.int w3_0, .ref lTi, .ref lAh, .long w3_3])), (lTi, .inl (cAlTi, 60, .inr (.inl w4_a))), (lAh, .inl (cAlAh, 60, .inr (.inl w5_a)))]) [3, 4, 5, 0, 1, 2] rfl
      have hD := hD.sub (ws' := [(h0, .inr (7, [.int z_9, .int z_10, .ref tTape, .ref tTable, .int z_11, .int w0_5])), (tTape, .inr (0, [.ref q_12, .int tpS])), (q_12, .inl (cq_13, tpN, .inl tpA)), (tTable, .inr (4, [.int w3_0, .ref lTi, .ref lAh, .long w3_3])), (lTi, .inl (cAlTi, 60, .inr (.inl w4_a))), (lAh, .inl (cAlAh, 60, .inr (.inl w5_a)))]) [3, 4, 5, 0, 1, 2] (by decide) rfl
      have hK := hK.sub (tys' := [(cq_13, .byte), (cAlTi, .long), (cAlAh, .long)]) [2, 0, 1] rfl
      obtain ⟨c_14, hf⟩ := it_g hf
      cases rs hf
      exact hE _ _ _ _ d_TP_readLine_70 (nb_of c_14) hP hD hS hK
    · have hf := it_f c_4 hf
      refine lv_aload_n hx hb d_TP_readLine_57 rfl (lv_at hl 1 rfl) ?_
      obtain ⟨⟨z_15, z_16, z_17, z_18, z_19, z_20, z_21⟩, hc, hf⟩ := ob hf
      have hPc := hP.sub (ws' := [(h0, .inr (7, [.int w0_0, .int w0_1, .ref tTape, .ref tTable, .int w0_4, .int w0_5])), (tTape, .inr (0, [.ref q2, .int tpS])), (q2, .inl (nA2, tpN, .inl tpA)), (tTable, .inr (4, [.int w3_0, .ref lTi, .ref lAh, .long w3_3])), (lTi, .inl (cAlTi, 60, .inr (.inl w4_a))), (lAh, .inl (cAlAh, 60, .inr (.inl w5_a)))]) [0, 1, 2, 3, 4, 5] rfl
      have hDc := hD.sub (ws' := [(h0, .inr (7, [.int w0_0, .int w0_1, .ref tTape, .ref tTable, .int w0_4, .int w0_5])), (tTape, .inr (0, [.ref q2, .int tpS])), (q2, .inl (nA2, tpN, .inl tpA)), (tTable, .inr (4, [.int w3_0, .ref lTi, .ref lAh, .long w3_3])), (lTi, .inl (cAlTi, 60, .inr (.inl w4_a))), (lAh, .inl (cAlAh, 60, .inr (.inl w5_a)))]) [0, 1, 2, 3, 4, 5] (by decide) rfl
      have hKc := hK.sub (tys' := [(nA2, .byte), (cAlTi, .long), (cAlAh, .long)]) [0, 1, 2] rfl
      have hFc := va_free (wc := [(h0, .inr (7, [.int w0_0, .int w0_1, .ref tTape, .ref tTable, .int w0_4, .int w0_5])), (tTape, .inr (0, [.ref q2, .int tpS])), (q2, .inl (nA2, tpN, .inl tpA)), (tTable, .inr (4, [.int w3_0, .ref lTi, .ref lAh, .long w3_3])), (lTi, .inl (cAlTi, 60, .inr (.inl w4_a))), (lAh, .inl (cAlAh, 60, .inr (.inl w5_a)))]) hD hS hA [0, 1, 2, 3, 4, 5] rfl
      refine cl_M (v := (some (.int z_15))) (st1 := [.int z_15]) (va_runV (As := []) (rest := []) ⟨hx, hb, hml, hown, hts⟩ (c_TP_readRow l dC dI h0 tTape tTable q2 lTi lAh nA2 cAlTi cAlAh H.size nf w0_0 w0_1 w0_4 w0_5 tpS tpN tpA w3_0 w3_3 w4_a w5_a hc) (cwV 0 hts (gdV m_2_218 m_2_220 msel_9 m_1_19 m_2_221) rfl rfl rfl (by decide +kernel) ⟨Nat.le_trans (Nat.le_of_ble_eq_true rfl) hRf, Nat.le_trans (Nat.le_of_ble_eq_true rfl) hRl⟩) ((MU.pre hPc hKc hDc (hST.mu hS hFc)).vir (va_recv hKc hPc (ci := 7) (q0 := 0) rfl rfl)) rfl rfl hl.1 rfl (lv_room (Nat.le_of_ble_eq_true rfl)) d_TP_readLine_58 ⟨Nat.zero_le _, Nat.zero_le _⟩) rfl hS (fun q _ h => hFc q h) hFc (fun t H1 locs ht hvm hB hz1 hk1 hS => ?_)
      obtain ⟨q_22, cq_23, hP1, hK1, hD1⟩ := hB
      rw [ht] at hP1
      have hK1 := va_K.moved hvm.symm hK1
      obtain ⟨hP, hD⟩ := va_join (wr := []) (w1 := [(h0, .inr (7, [.int z_16, .int z_17, .ref tTape, .ref tTable, .int z_18, .int w0_5])), (tTape, .inr (0, [.ref q_22, .int tpS])), (q_22, .inl (cq_23, tpN, .inl tpA)), (tTable, .inr (4, [.int z_19, .ref lTi, .ref lAh, .long w3_3])), (lTi, .inl (cAlTi, 60, .inr (.inl z_20))), (lAh, .inl (cAlAh, 60, .inr (.inl z_21)))]) hP hD [0, 1, 2, 3, 4, 5] [] rfl rfl (by decide) (by decide) hk1 hFc hP1 hD1
      have hK := (hK.sub (tys' := []) [] rfl).app hK1
      generalize H1 = H at hP hS ⊢
      have hP := hP.sub (ws' := [(h0, .inr (7, [.int z_16, .int z_17, .ref tTape, .ref tTable, .int z_18, .int w0_5])), (tTape, .inr (0, [.ref q_22, .int tpS])), (q_22, .inl (cq_23, tpN, .inl tpA)), (tTable, .inr (4, [.int z_19, .ref lTi, .ref lAh, .long w3_3])), (lTi, .inl (cAlTi, 60, .inr (.inl z_20))), (lAh, .inl (cAlAh, 60, .inr (.inl z_21)))]) [0, 1, 2, 3, 4, 5] rfl
      have hD := hD.sub (ws' := [(h0, .inr (7, [.int z_16, .int z_17, .ref tTape, .ref tTable, .int z_18, .int w0_5])), (tTape, .inr (0, [.ref q_22, .int tpS])), (q_22, .inl (cq_23, tpN, .inl tpA)), (tTable, .inr (4, [.int z_19, .ref lTi, .ref lAh, .long w3_3])), (lTi, .inl (cAlTi, 60, .inr (.inl z_20))), (lAh, .inl (cAlAh, 60, .inr (.inl z_21)))]) [0, 1, 2, 3, 4, 5] (by decide) rfl
      have hK := hK.sub (tys' := [(cq_23, .byte), (cAlTi, .long), (cAlAh, .long)]) [0, 1, 2] rfl
      obtain ⟨c_24, hf⟩ := it_g hf
      cases rs hf
      exact hE _ _ _ _ d_TP_readLine_61 (nb_of c_24) hP hD hS hK
  · have hf := it_t c_2 hf
    refine lv_aload_n hx hb d_TP_readLine_18 rfl (lv_at hl 1 rfl) ?_
    refine va_get (D := (dC, dI)) (ci := 7) (v := .ref tTape) (C := RTableParser) (T := TTableParser) (N := 6) hx hb hts in_TableParser hown hK hP 0 rfl rfl 2 (by decide) (hts (.fieldLink "ZoneFiles$TableParser" 9 "ZoneFiles$TableParser" "tape" "LZoneFiles$Bytes;") m_2_159) (fun _ h9 => h9) rfl d_TP_readLine_19 ?_
    refine lv_aload_n hx hb d_TP_readLine_22 rfl (lv_at hl 1 rfl) ?_
    refine va_get (D := (dC, dI)) (ci := 7) (v := .int w0_4) (C := RTableParser) (T := TTableParser) (N := 6) hx hb hts in_TableParser hown hK hP 0 rfl rfl 4 (by decide) (hts (.fieldLink "ZoneFiles$TableParser" 25 "ZoneFiles$TableParser" "pos" "I") m_2_161) (fun _ h9 => h9) rfl d_TP_readLine_23 ?_
    refine lv_iconst (v := 1) hx hb d_TP_readLine_26 (by decide) ?_
    refine lv_iadd hx hb d_TP_readLine_27 ?_
    obtain ⟨r_25, hc, hf⟩ := ob hf
    refine cl_S (v := (some (.int r_25))) (st1 := [.int r_25]) (va_runV (As := [.int (w0_4 + 1)]) (rest := []) ⟨hx, hb, hml, hown, hts⟩ (c_By_get l dC dI tTape q2 nA2 nf (w0_4 + 1) tpS tpN tpA hc) (cwV 1 hts (gdV m_2_184 m_2_71 m_2_72 m_1_2 m_2_73) rfl rfl rfl (by decide +kernel) ⟨Nat.le_trans (Nat.le_of_ble_eq_true rfl) hRf, Nat.le_trans (Nat.le_of_ble_eq_true rfl) hRl⟩) ((RO.pre (hP.sub (ws' := [(tTape, .inr (0, [.ref q2, .int tpS])), (q2, .inl (nA2, tpN, .inl tpA))]) [1, 2] rfl) (hK.sub (tys' := [(nA2, .byte)]) [0] rfl) (hST.ro hS)).vir (va_recv (hK.sub (tys' := [(nA2, .byte)]) [0] rfl) (hP.sub (ws' := [(tTape, .inr (0, [.ref q2, .int tpS])), (q2, .inl (nA2, tpN, .inl tpA))]) [1, 2] rfl) (ci := 0) (q0 := 0) rfl rfl)) rfl rfl hl.1 rfl (lv_room (Nat.le_of_ble_eq_true rfl)) d_TP_readLine_28 ⟨Nat.zero_le _, Nat.zero_le _⟩) rfl ?_
    refine lv_bipush (v := 64) hx hb d_TP_readLine_31 (by decide) ?_
    refine lv_icmp_ne (tgt := 41) hx hb d_TP_readLine_33 (by decide) (fun c_26 => ?_) (fun c_26 => ?_)
    · have hf := it_f c_26 hf
      refine lv_aload_n hx hb d_TP_readLine_41 rfl (lv_at hl 1 rfl) ?_
      obtain ⟨z_27, hc, hf⟩ := ob hf
      have hPc := hP.sub (ws' := [(h0, .inr (7, [.int w0_0, .int w0_1, .ref tTape, .ref tTable, .int w0_4, .int w0_5])), (tTape, .inr (0, [.ref q2, .int tpS])), (q2, .inl (nA2, tpN, .inl tpA))]) [0, 1, 2] rfl
      have hDc := hD.sub (ws' := [(h0, .inr (7, [.int w0_0, .int w0_1, .ref tTape, .ref tTable, .int w0_4, .int w0_5])), (tTape, .inr (0, [.ref q2, .int tpS])), (q2, .inl (nA2, tpN, .inl tpA))]) [0, 1, 2] (by decide) rfl
      have hKc := hK.sub (tys' := [(nA2, .byte)]) [0] rfl
      have hFc := va_free (wc := [(h0, .inr (7, [.int w0_0, .int w0_1, .ref tTape, .ref tTable, .int w0_4, .int w0_5])), (tTape, .inr (0, [.ref q2, .int tpS])), (q2, .inl (nA2, tpN, .inl tpA))]) hD hS hA [0, 1, 2] rfl
      refine cl_M (v := none) (st1 := []) (va_runV (As := []) (rest := []) ⟨hx, hb, hml, hown, hts⟩ (c_TP_skipToLineEnd l dC dI h0 tTape tTable q2 nA2 H.size nf w0_0 w0_1 w0_4 w0_5 tpS tpN tpA hc) (cwV 0 hts (gdV m_2_214 m_2_216 msel_8 m_1_19 m_2_217) rfl rfl rfl (by decide +kernel) ⟨Nat.le_trans (Nat.le_of_ble_eq_true rfl) hRf, Nat.le_trans (Nat.le_of_ble_eq_true rfl) hRl⟩) ((MU.pre hPc hKc hDc (hST.mu hS hFc)).vir (va_recv hKc hPc (ci := 7) (q0 := 0) rfl rfl)) rfl rfl hl.1 rfl (lv_room (Nat.le_of_ble_eq_true rfl)) d_TP_readLine_42 ⟨Nat.zero_le _, Nat.zero_le _⟩) rfl hS (fun q _ h => hFc q h) hFc (fun t H1 locs ht hvm hB hz1 hk1 hS => ?_)
      obtain ⟨q_28, cq_29, hP1, hK1, hD1⟩ := hB
      rw [ht] at hP1
      have hK1 := va_K.moved hvm.symm hK1
      obtain ⟨hP, hD⟩ := va_join (wr := [(tTable, .inr (4, [.int w3_0, .ref lTi, .ref lAh, .long w3_3])), (lTi, .inl (cAlTi, 60, .inr (.inl w4_a))), (lAh, .inl (cAlAh, 60, .inr (.inl w5_a)))]) (w1 := [(h0, .inr (7, [.int w0_0, .int w0_1, .ref tTape, .ref tTable, .int z_27, .int w0_5])), (tTape, .inr (0, [.ref q_28, .int tpS])), (q_28, .inl (cq_29, tpN, .inl tpA))]) hP hD [0, 1, 2] [3, 4, 5] rfl rfl (by decide) (by decide) hk1 hFc hP1 hD1
      have hK := (hK.sub (tys' := [(cAlTi, .long), (cAlAh, .long)]) [1, 2] rfl).app hK1
      generalize H1 = H at hP hS ⊢
      have hP := hP.sub (ws' := [(h0, .inr (7, [.int w0_0, .int w0_1, .ref tTape, .ref tTable, .int z_27, .int w0_5])), (tTape, .inr (0, [.ref q_28, .int tpS])), (q_28, .inl (cq_29, tpN, .inl tpA)), (tTable, .inr (4, [.int w3_0, .ref lTi, .ref lAh, .long w3_3])), (lTi, .inl (cAlTi, 60, .inr (.inl w4_a))), (lAh, .inl (cAlAh, 60, .inr (.inl w5_a)))]) [3, 4, 5, 0, 1, 2] rfl
      have hD := hD.sub (ws' := [(h0, .inr (7, [.int w0_0, .int w0_1, .ref tTape, .ref tTable, .int z_27, .int w0_5])), (tTape, .inr (0, [.ref q_28, .int tpS])), (q_28, .inl (cq_29, tpN, .inl tpA)), (tTable, .inr (4, [.int w3_0, .ref lTi, .ref lAh, .long w3_3])), (lTi, .inl (cAlTi, 60, .inr (.inl w4_a))), (lAh, .inl (cAlAh, 60, .inr (.inl w5_a)))]) [3, 4, 5, 0, 1, 2] (by decide) rfl
      have hK := hK.sub (tys' := [(cq_29, .byte), (cAlTi, .long), (cAlAh, .long)]) [2, 0, 1] rfl
      refine lv_aload_n hx hb d_TP_readLine_45 rfl (lv_at hl 1 rfl) ?_
      obtain ⟨⟨z_30, z_31, z_32, z_33⟩, hc, hf⟩ := ob hf
      have hPc := hP.sub (ws' := [(h0, .inr (7, [.int w0_0, .int w0_1, .ref tTape, .ref tTable, .int z_27, .int w0_5])), (tTape, .inr (0, [.ref q_28, .int tpS])), (q_28, .inl (cq_29, tpN, .inl tpA))]) [0, 1, 2] rfl
      have hDc := hD.sub (ws' := [(h0, .inr (7, [.int w0_0, .int w0_1, .ref tTape, .ref tTable, .int z_27, .int w0_5])), (tTape, .inr (0, [.ref q_28, .int tpS])), (q_28, .inl (cq_29, tpN, .inl tpA))]) [0, 1, 2] (by decide) rfl
      have hKc := hK.sub (tys' := [(cq_29, .byte)]) [0] rfl
      have hFc := va_free (wc := [(h0, .inr (7, [.int w0_0, .int w0_1, .ref tTape, .ref tTable, .int z_27, .int w0_5])), (tTape, .inr (0, [.ref q_28, .int tpS])), (q_28, .inl (cq_29, tpN, .inl tpA))]) hD hS hA [0, 1, 2] rfl
      refine cl_M (v := (some (.int z_30))) (st1 := [.int z_30]) (va_runV (As := []) (rest := []) ⟨hx, hb, hml, hown, hts⟩ (c_TP_passLineEnd l dC dI h0 tTape tTable q_28 cq_29 H.size nf w0_0 w0_1 z_27 w0_5 tpS tpN tpA hc) (cwV 0 hts (gdV m_2_209 m_2_211 msel_7 m_1_19 m_2_212) rfl rfl rfl (by decide +kernel) ⟨Nat.le_trans (Nat.le_of_ble_eq_true rfl) hRf, Nat.le_trans (Nat.le_of_ble_eq_true rfl) hRl⟩) ((MU.pre hPc hKc hDc (hST.mu hS hFc)).vir (va_recv hKc hPc (ci := 7) (q0 := 0) rfl rfl)) rfl rfl hl.1 rfl (lv_room (Nat.le_of_ble_eq_true rfl)) d_TP_readLine_46 ⟨Nat.zero_le _, Nat.zero_le _⟩) rfl hS (fun q _ h => hFc q h) hFc (fun t H1 locs ht hvm hB hz1 hk1 hS => ?_)
      obtain ⟨q_34, cq_35, hP1, hK1, hD1⟩ := hB
      rw [ht] at hP1
      have hK1 := va_K.moved hvm.symm hK1
      obtain ⟨hP, hD⟩ := va_join (wr := [(tTable, .inr (4, [.int w3_0, .ref lTi, .ref lAh, .long w3_3])), (lTi, .inl (cAlTi, 60, .inr (.inl w4_a))), (lAh, .inl (cAlAh, 60, .inr (.inl w5_a)))]) (w1 := [(h0, .inr (7, [.int z_31, .int z_32, .ref tTape, .ref tTable, .int z_33, .int w0_5])), (tTape, .inr (0, [.ref q_34, .int tpS])), (q_34, .inl (cq_35, tpN, .inl tpA))]) hP hD [0, 1, 2] [3, 4, 5] rfl rfl (by decide) (by decide) hk1 hFc hP1 hD1
      have hK := (hK.sub (tys' := [(cAlTi, .long), (cAlAh, .long)]) [1, 2] rfl).app hK1
      generalize H1 = H at hP hS ⊢
      have hP := hP.sub (ws' := [(h0, .inr (7, [.int z_31, .int z_32, .ref tTape, .ref tTable, .int z_33, .int w0_5])), (tTape, .inr (0, [.ref q_34, .int tpS])), (q_34, .inl (cq_35, tpN, .inl tpA)), (tTable, .inr (4, [.int w3_0, .ref lTi, .ref lAh, .long w3_3])), (lTi, .inl (cAlTi, 60, .inr (.inl w4_a))), (lAh, .inl (cAlAh, 60, .inr (.inl w5_a)))]) [3, 4, 5, 0, 1, 2] rfl
      have hD := hD.sub (ws' := [(h0, .inr (7, [.int z_31, .int z_32, .ref tTape, .ref tTable, .int z_33, .int w0_5])), (tTape, .inr (0, [.ref q_34, .int tpS])), (q_34, .inl (cq_35, tpN, .inl tpA)), (tTable, .inr (4, [.int w3_0, .ref lTi, .ref lAh, .long w3_3])), (lTi, .inl (cAlTi, 60, .inr (.inl w4_a))), (lAh, .inl (cAlAh, 60, .inr (.inl w5_a)))]) [3, 4, 5, 0, 1, 2] (by decide) rfl
      have hK := hK.sub (tys' := [(cq_35, .byte), (cAlTi, .long), (cAlAh, .long)]) [2, 0, 1] rfl
      obtain ⟨c_36, hf⟩ := it_g hf
      cases rs hf
      exact hE _ _ _ _ d_TP_readLine_49 (nb_of c_36) hP hD hS hK
    · have hf := it_t c_26 hf
      refine lv_aload_n hx hb d_TP_readLine_36 rfl (lv_at hl 1 rfl) ?_
      obtain ⟨⟨z_37, z_38, z_39, z_40, z_41, z_42⟩, hc, hf⟩ := ob hf
      have hPc := hP.sub (ws' := [(h0, .inr (7, [.int w0_0, .int w0_1, .ref tTape, .ref tTable, .int w0_4, .int w0_5])), (tTape, .inr (0, [.ref q2, .int tpS])), (q2, .inl (nA2, tpN, .inl tpA)), (tTable, .inr (4, [.int w3_0, .ref lTi, .ref lAh, .long w3_3]))]) [0, 1, 2, 3] rfl
      have hDc := hD.sub (ws' := [(h0, .inr (7, [.int w0_0, .int w0_1, .ref tTape, .ref tTable, .int w0_4, .int w0_5])), (tTape, .inr (0, [.ref q2, .int tpS])), (q2, .inl (nA2, tpN, .inl tpA)), (tTable, .inr (4, [.int w3_0, .ref lTi, .ref lAh, .long w3_3]))]) [0, 1, 2, 3] (by decide) rfl
      have hKc := hK.sub (tys' := [(nA2, .byte)]) [0] rfl
      have hFc := va_free (wc := [(h0, .inr (7, [.int w0_0, .int w0_1, .ref tTape, .ref tTable, .int w0_4, .int w0_5])), (tTape, .inr (0, [.ref q2, .int tpS])), (q2, .inl (nA2, tpN, .inl tpA)), (tTable, .inr (4, [.int w3_0, .ref lTi, .ref lAh, .long w3_3]))]) hD hS hA [0, 1, 2, 3] rfl
      refine cl_M (v := (some (.int z_37))) (st1 := [.int z_37]) (va_runV (As := []) (rest := []) ⟨hx, hb, hml, hown, hts⟩ (c_TP_readExpiry l dC dI h0 tTape tTable q2 lTi lAh nA2 H.size nf w0_0 w0_1 w0_4 w0_5 tpS tpN tpA w3_0 w3_3 hc) (cwV 0 hts (gdV m_2_185 m_2_187 msel_3 m_1_19 m_2_188) rfl rfl rfl (by decide +kernel) ⟨Nat.le_trans (Nat.le_of_ble_eq_true rfl) hRf, Nat.le_trans (Nat.le_of_ble_eq_true rfl) hRl⟩) ((MU.pre hPc hKc hDc (hST.mu hS hFc)).vir (va_recv hKc hPc (ci := 7) (q0 := 0) rfl rfl)) rfl rfl hl.1 rfl (lv_room (Nat.le_of_ble_eq_true rfl)) d_TP_readLine_37 ⟨Nat.zero_le _, Nat.zero_le _⟩) rfl hS (fun q _ h => hFc q h) hFc (fun t H1 locs ht hvm hB hz1 hk1 hS => ?_)
      obtain ⟨q_43, cq_44, hP1, hK1, hD1⟩ := hB
      rw [ht] at hP1
      have hK1 := va_K.moved hvm.symm hK1
      obtain ⟨hP, hD⟩ := va_join (wr := [(lTi, .inl (cAlTi, 60, .inr (.inl w4_a))), (lAh, .inl (cAlAh, 60, .inr (.inl w5_a)))]) (w1 := [(h0, .inr (7, [.int z_38, .int z_39, .ref tTape, .ref tTable, .int z_40, .int z_41])), (tTape, .inr (0, [.ref q_43, .int tpS])), (q_43, .inl (cq_44, tpN, .inl tpA)), (tTable, .inr (4, [.int w3_0, .ref lTi, .ref lAh, .long z_42]))]) hP hD [0, 1, 2, 3] [4, 5] rfl rfl (by decide) (by decide) hk1 hFc hP1 hD1
      have hK := (hK.sub (tys' := [(cAlTi, .long), (cAlAh, .long)]) [1, 2] rfl).app hK1
      generalize H1 = H at hP hS ⊢
      have hP := hP.sub (ws' := [(h0, .inr (7, [.int z_38, .int z_39, .ref tTape, .ref tTable, .int z_40, .int z_41])), (tTape, .inr (0, [.ref q_43, .int tpS])), (q_43, .inl (cq_44, tpN, .inl tpA)), (tTable, .inr (4, [.int w3_0, .ref lTi, .ref lAh, .long z_42])), (lTi, .inl (cAlTi, 60, .inr (.inl w4_a))), (lAh, .inl (cAlAh, 60, .inr (.inl w5_a)))]) [2, 3, 4, 5, 0, 1] rfl
      have hD := hD.sub (ws' := [(h0, .inr (7, [.int z_38, .int z_39, .ref tTape, .ref tTable, .int z_40, .int z_41])), (tTape, .inr (0, [.ref q_43, .int tpS])), (q_43, .inl (cq_44, tpN, .inl tpA)), (tTable, .inr (4, [.int w3_0, .ref lTi, .ref lAh, .long z_42])), (lTi, .inl (cAlTi, 60, .inr (.inl w4_a))), (lAh, .inl (cAlAh, 60, .inr (.inl w5_a)))]) [2, 3, 4, 5, 0, 1] (by decide) rfl
      have hK := hK.sub (tys' := [(cq_44, .byte), (cAlTi, .long), (cAlAh, .long)]) [2, 0, 1] rfl
      obtain ⟨c_45, hf⟩ := it_g hf
      cases rs hf
      exact hE _ _ _ _ d_TP_readLine_40 (nb_of c_45) hP hD hS hK
end
set_option maxHeartbeats 400000 in
set_option maxRecDepth 100000 in
theorem c_TP_readLine (l : Launch) (dC : Nat → ClassId) (dI : Nat → Nat → Nat) (h0 : Nat) (tTape : Nat) (tTable : Nat) (tpR : Nat) (lTi : Nat) (lAh : Nat) (cAtpR : ClassId) (cAlTi : ClassId) (cAlAh : ClassId) (sz : Nat) (nf : Nat) (tFault : Int32) (tPlace : Int32) (tPos : Int32) (tHas : Int32) (tpS : Int32) (tpN : Nat) (tpA : Nat → Int32) (lCount : Int32) (lExp : Int64) (lTiA : Nat → Int64) (lAhA : Nat → Int64) {r0 : Int32} {v0_0 : Int32} {v0_1 : Int32} {v0_4 : Int32} {v0_5 : Int32} {v3_0 : Int32} {v3_3 : Int64} {v4_a : Nat → Int64} {v5_a : Nat → Int64} (hf : f_TP_readLine nf tFault tPlace tPos tHas tpS tpN tpA lCount lExp lTiA lAhA = some (r0, v0_0, v0_1, v0_4, v0_5, v3_0, v3_3, v4_a, v5_a)) : Met l y_TP_readLine (wd y_TP_readLine b_TP_readLine 2 (some .boolean)) ({ frames := 3, cells := 0, slots := 0, locals := 77 }) (MU dC dI [(h0, .inr (7, [.int tFault, .int tPlace, .ref tTape, .ref tTable, .int tPos, .int tHas])), (tTape, .inr (0, [.ref tpR, .int tpS])), (tpR, .inl (cAtpR, tpN, .inl tpA)), (tTable, .inr (4, [.int lCount, .ref lTi, .ref lAh, .long lExp])), (lTi, .inl (cAlTi, 60, .inr (.inl lTiA))), (lAh, .inl (cAlAh, 60, .inr (.inl lAhA)))] [(cAtpR, .byte), (cAlTi, .long), (cAlAh, .long)] sz [.ref h0]) (MV (some (.int r0)) (fun t => ∃ (q2 : Nat) (nA2 : ClassId), va_P (dC, dI) classes [(h0, .inr (7, [.int v0_0, .int v0_1, .ref tTape, .ref tTable, .int v0_4, .int v0_5])), (tTape, .inr (0, [.ref q2, .int tpS])), (q2, .inl (nA2, tpN, .inl tpA)), (tTable, .inr (4, [.int v3_0, .ref lTi, .ref lAh, .long v3_3])), (lTi, .inl (cAlTi, 60, .inr (.inl v4_a))), (lAh, .inl (cAlAh, 60, .inr (.inl v5_a)))] t.heap ∧ va_K (dC, dI) classes [(nA2, .byte), (cAlTi, .long), (cAlAh, .long)] t ∧ va_D (va_A [(h0, .inr (7, [.int tFault, .int tPlace, .ref tTape, .ref tTable, .int tPos, .int tHas])), (tTape, .inr (0, [.ref tpR, .int tpS])), (tpR, .inl (cAtpR, tpN, .inl tpA)), (tTable, .inr (4, [.int lCount, .ref lTi, .ref lAh, .long lExp])), (lTi, .inl (cAlTi, 60, .inr (.inl lTiA))), (lAh, .inl (cAlAh, 60, .inr (.inl lAhA)))] sz) [(h0, .inr (7, [.int v0_0, .int v0_1, .ref tTape, .ref tTable, .int v0_4, .int v0_5])), (tTape, .inr (0, [.ref q2, .int tpS])), (q2, .inl (nA2, tpN, .inl tpA)), (tTable, .inr (4, [.int v3_0, .ref lTi, .ref lAh, .long v3_3])), (lTi, .inl (cAlTi, 60, .inr (.inl v4_a))), (lAh, .inl (cAlAh, 60, .inr (.inl v5_a)))]) (va_A [(h0, .inr (7, [.int tFault, .int tPlace, .ref tTape, .ref tTable, .int tPos, .int tHas])), (tTape, .inr (0, [.ref tpR, .int tpS])), (tpR, .inl (cAtpR, tpN, .inl tpA)), (tTable, .inr (4, [.int lCount, .ref lTi, .ref lAh, .long lExp])), (lTi, .inl (cAlTi, 60, .inr (.inl lTiA))), (lAh, .inl (cAlAh, 60, .inr (.inl lAhA)))] sz)) 0 0 (va_A [(h0, .inr (7, [.int tFault, .int tPlace, .ref tTape, .ref tTable, .int tPos, .int tHas])), (tTape, .inr (0, [.ref tpR, .int tpS])), (tpR, .inl (cAtpR, tpN, .inl tpA)), (tTable, .inr (4, [.int lCount, .ref lTi, .ref lAh, .long lExp])), (lTi, .inl (cAlTi, 60, .inr (.inl lTiA))), (lAh, .inl (cAlAh, 60, .inr (.inl lAhA)))] sz) :=
  met_M (plainFor_of_name (by decide)) (Nat.le_of_ble_eq_true rfl) (fun p e R s m args below meth c ls hRc hRs hsz hin C0 hST hK hP hD hl => by
    obtain ⟨hx, hb, hr, hml, hown, hts, hlocks, hRf, hRl⟩ := id C0
    subst hsz
    have hA : ∀ q : Nat, s.heap.size ≤ q → va_A [(h0, .inr (7, [.int tFault, .int tPlace, .ref tTape, .ref tTable, .int tPos, .int tHas])), (tTape, .inr (0, [.ref tpR, .int tpS])), (tpR, .inl (cAtpR, tpN, .inl tpA)), (tTable, .inr (4, [.int lCount, .ref lTi, .ref lAh, .long lExp])), (lTi, .inl (cAlTi, 60, .inr (.inl lTiA))), (lAh, .inl (cAlAh, 60, .inr (.inl lAhA)))] s.heap.size q := fun q h => Or.inr h
    have hS : va_S (va_A [(h0, .inr (7, [.int tFault, .int tPlace, .ref tTape, .ref tTable, .int tPos, .int tHas])), (tTape, .inr (0, [.ref tpR, .int tpS])), (tpR, .inl (cAtpR, tpN, .inl tpA)), (tTable, .inr (4, [.int lCount, .ref lTi, .ref lAh, .long lExp])), (lTi, .inl (cAlTi, 60, .inr (.inl lTiA))), (lAh, .inl (cAlAh, 60, .inr (.inl lAhA)))] s.heap.size) s.heap s.heap [] := va_S.rf
    unfold f_TP_readLine at hf
    exact k_TP_readLine_0 C0 hST hA (fun pc ls {q2} {nA2} H locs hd hn hP hD hS hK => W.zret hx hb hr hn (fun t ht hW => ⟨⟨rfl, ⟨q2, nA2, by rw [ht]; exact hP, va_K.moved hW.alike hK, hD⟩⟩, hS.F ht⟩) hS.2.2 hd) hf hK hP hD hS (lv_sub hl [0] rfl))
-- ZoneFiles$TableParser.readLines()Z
def f_TP_readLines_46 (nf : Nat) (w0_0 : Int32) (w0_1 : Int32) (w0_4 : Int32) (w0_5 : Int32) (w3_0 : Int32) (w3_3 : Int64) (w4_a : Nat → Int64) (w5_a : Nat → Int64) : Option (Int32 × Int32 × Int32 × Int32 × Int32 × Int32 × Int64 × (Nat → Int64) × (Nat → Int64)) :=
  some (1, w0_0, w0_1, w0_4, w0_5, w3_0, w3_3, w4_a, w5_a)
def f_TP_readLines_10 (nf : Nat) (tpS : Int32) (tpN : Nat) (tpA : Nat → Int32) : Nat → Int32 → Int32 → Int32 → Int32 → Int32 → Int32 → Int64 → (Nat → Int64) → (Nat → Int64) → Option (Int32 × Int32 × Int32 × Int32 × Int32 × Int32 × Int64 × (Nat → Int64) × (Nat → Int64))
  | 0, _, _, _, _, _, _, _, _, _ => none
  | n + 1, x1, w0_0, w0_1, w0_4, w0_5, w3_0, w3_3, w4_a, w5_a =>
    if (6000 : Int32) ≤ x1 then
    f_TP_readLines_46 nf w0_0 w0_1 w0_4 w0_5 w3_0 w3_3 w4_a w5_a
    else
    if tpS ≤ w0_4 then
      f_TP_readLines_46 nf w0_0 w0_1 w0_4 w0_5 w3_0 w3_3 w4_a w5_a
      else
      (f_TP_readLine nf w0_0 w0_1 w0_4 w0_5 tpS tpN tpA w3_0 w3_3 w4_a w5_a).bind fun (z_3, z_4, z_5, z_6, z_7, z_8, z_9, z_10, z_11) =>
        if z_3 = 0 then
        some (0, z_4, z_5, z_6, z_7, z_8, z_9, z_10, z_11)
        else
        f_TP_readLines_10 nf tpS tpN tpA n (x1 + 1) z_4 z_5 z_6 z_7 z_8 z_9 z_10 z_11
def f_TP_readLines_0 (nf : Nat) (tpS : Int32) (tpN : Nat) (tpA : Nat → Int32) (w0_0 : Int32) (w0_1 : Int32) (w0_4 : Int32) (w0_5 : Int32) (w3_0 : Int32) (w3_3 : Int64) (w4_a : Nat → Int64) (w5_a : Nat → Int64) : Option (Int32 × Int32 × Int32 × Int32 × Int32 × Int32 × Int64 × (Nat → Int64) × (Nat → Int64)) :=
  f_TP_readLines_10 nf tpS tpN tpA nf 0 w0_0 w0_1 w0_4 w0_5 0 w3_3 w4_a w5_a
def f_TP_readLines (nf : Nat) (tFault : Int32) (tPlace : Int32) (tPos : Int32) (tHas : Int32) (tpS : Int32) (tpN : Nat) (tpA : Nat → Int32) (lCount : Int32) (lExp : Int64) (lTiA : Nat → Int64) (lAhA : Nat → Int64) : Option (Int32 × Int32 × Int32 × Int32 × Int32 × Int32 × Int64 × (Nat → Int64) × (Nat → Int64)) :=
  f_TP_readLines_0 nf tpS tpN tpA tFault tPlace tPos tHas lCount lExp lTiA lAhA
section
variable {p : Program} {l : Launch} {e : Env} {R : Room} {s : State} {m : MethodId} {args : Array Value} {below : List Frame} {meth : Method} {c : Code} {Q : State → Prop} {dC : Nat → ClassId} {dI : Nat → Nat → Nat} {nf : Nat} {A : Nat → Prop}
variable {h0 : Nat} {tTape : Nat} {tTable : Nat} {tpR : Nat} {lTi : Nat} {lAh : Nat} {cAtpR : ClassId} {cAlTi : ClassId} {cAlAh : ClassId} {tFault : Int32} {tPlace : Int32} {tPos : Int32} {tHas : Int32} {tpS : Int32} {tpN : Nat} {tpA : Nat → Int32} {lCount : Int32} {lExp : Int64} {lTiA : Nat → Int64} {lAhA : Nat → Int64} {r0 : Int32} {v0_0 : Int32} {v0_1 : Int32} {v0_4 : Int32} {v0_5 : Int32} {v3_0 : Int32} {v3_3 : Int64} {v4_a : Nat → Int64} {v5_a : Nat → Int64}
set_option maxHeartbeats 400000 in
set_option maxRecDepth 100000 in
theorem k_TP_readLines_46 (C0 : Cx p s m meth c args R b_TP_readLines "ZoneFiles$TableParser" 2 (some .boolean) 4 98) (hST : ST A s s.heap) (hA : ∀ q, s.heap.size ≤ q → A q) (hE : ∀ (pc : Nat) (ls : Array Slot) {q2 : Nat} {nA2 : ClassId} (H : Heap) (locs : List Loc), decode b_TP_readLines pc = .ok (.ireturn, 1) → narrow .boolean (.int r0) = .int r0 → va_P (dC, dI) classes [(h0, .inr (7, [.int v0_0, .int v0_1, .ref tTape, .ref tTable, .int v0_4, .int v0_5])), (tTape, .inr (0, [.ref q2, .int tpS])), (q2, .inl (nA2, tpN, .inl tpA)), (tTable, .inr (4, [.int v3_0, .ref lTi, .ref lAh, .long v3_3])), (lTi, .inl (cAlTi, 60, .inr (.inl v4_a))), (lAh, .inl (cAlAh, 60, .inr (.inl v5_a)))] H → va_D A [(h0, .inr (7, [.int v0_0, .int v0_1, .ref tTape, .ref tTable, .int v0_4, .int v0_5])), (tTape, .inr (0, [.ref q2, .int tpS])), (q2, .inl (nA2, tpN, .inl tpA)), (tTable, .inr (4, [.int v3_0, .ref lTi, .ref lAh, .long v3_3])), (lTi, .inl (cAlTi, 60, .inr (.inl v4_a))), (lAh, .inl (cAlAh, 60, .inr (.inl v5_a)))] → va_S A s.heap H locs → va_K (dC, dI) classes [(nA2, .byte), (cAlTi, .long), (cAlAh, .long)] s → W p l e R s m args below meth c H locs 0 0 Q (F0 m pc ls [.int r0])) {w0_0 : Int32} {w0_1 : Int32} {w0_4 : Int32} {w0_5 : Int32} {w3_0 : Int32} {w3_3 : Int64} {w4_a : Nat → Int64} {w5_a : Nat → Int64} (hf : f_TP_readLines_46 nf w0_0 w0_1 w0_4 w0_5 w3_0 w3_3 w4_a w5_a = some (r0, v0_0, v0_1, v0_4, v0_5, v3_0, v3_3, v4_a, v5_a)) {q2 : Nat} {nA2 : ClassId} {H : Heap} {locs : List Loc} {ls : Array Slot} (hK : va_K (dC, dI) classes [(nA2, .byte), (cAlTi, .long), (cAlAh, .long)] s) (hP : va_P (dC, dI) classes [(h0, .inr (7, [.int w0_0, .int w0_1, .ref tTape, .ref tTable, .int w0_4, .int w0_5])), (tTape, .inr (0, [.ref q2, .int tpS])), (q2, .inl (nA2, tpN, .inl tpA)), (tTable, .inr (4, [.int w3_0, .ref lTi, .ref lAh, .long w3_3])), (lTi, .inl (cAlTi, 60, .inr (.inl w4_a))), (lAh, .inl (cAlAh, 60, .inr (.inl w5_a)))] H) (hD : va_D A [(h0, .inr (7, [.int w0_0, .int w0_1, .ref tTape, .ref tTable, .int w0_4, .int w0_5])), (tTape, .inr (0, [.ref q2, .int tpS])), (q2, .inl (nA2, tpN, .inl tpA)), (tTable, .inr (4, [.int w3_0, .ref lTi, .ref lAh, .long w3_3])), (lTi, .inl (cAlTi, 60, .inr (.inl w4_a))), (lAh, .inl (cAlAh, 60, .inr (.inl w5_a)))]) (hS : va_S A s.heap H locs) (hl : lv_has ls 2 []) : W p l e R s m args below meth c H locs 0 0 Q (F0 m 46 ls []) := by
  obtain ⟨hx, hb, hr, hml, hown, hts, hlocks, hRf, hRl⟩ := id C0
  obtain ⟨tms, hZms, hTms, tmg, hZmg, hTmg, hNW⟩ := id hST
  unfold f_TP_readLines_46 at hf
  refine lv_iconst (v := 1) hx hb d_TP_readLines_46 (by decide) ?_
  cases rs hf
  exact hE _ _ _ _ d_TP_readLines_47 rfl hP hD hS hK
set_option maxHeartbeats 400000 in
set_option maxRecDepth 100000 in
theorem k_TP_readLines_10 (C0 : Cx p s m meth c args R b_TP_readLines "ZoneFiles$TableParser" 2 (some .boolean) 4 98) (hST : ST A s s.heap) (hA : ∀ q, s.heap.size ≤ q → A q) (hE : ∀ (pc : Nat) (ls : Array Slot) {q2 : Nat} {nA2 : ClassId} (H : Heap) (locs : List Loc), decode b_TP_readLines pc = .ok (.ireturn, 1) → narrow .boolean (.int r0) = .int r0 → va_P (dC, dI) classes [(h0, .inr (7, [.int v0_0, .int v0_1, .ref tTape, .ref tTable, .int v0_4, .int v0_5])), (tTape, .inr (0, [.ref q2, .int tpS])), (q2, .inl (nA2, tpN, .inl tpA)), (tTable, .inr (4, [.int v3_0, .ref lTi, .ref lAh, .long v3_3])), (lTi, .inl (cAlTi, 60, .inr (.inl v4_a))), (lAh, .inl (cAlAh, 60, .inr (.inl v5_a)))] H → va_D A [(h0, .inr (7, [.int v0_0, .int v0_1, .ref tTape, .ref tTable, .int v0_4, .int v0_5])), (tTape, .inr (0, [.ref q2, .int tpS])), (q2, .inl (nA2, tpN, .inl tpA)), (tTable, .inr (4, [.int v3_0, .ref lTi, .ref lAh, .long v3_3])), (lTi, .inl (cAlTi, 60, .inr (.inl v4_a))), (lAh, .inl (cAlAh, 60, .inr (.inl v5_a)))] → va_S A s.heap H locs → va_K (dC, dI) classes [(nA2, .byte), (cAlTi, .long), (cAlAh, .long)] s → W p l e R s m args below meth c H locs 0 0 Q (F0 m pc ls [.int r0])) : ∀ (n : Nat) {x1 : Int32} {w0_0 : Int32} {w0_1 : Int32} {w0_4 : Int32} {w0_5 : Int32} {w3_0 : Int32} {w3_3 : Int64} {w4_a : Nat → Int64} {w5_a : Nat → Int64}, f_TP_readLines_10 nf tpS tpN tpA n x1 w0_0 w0_1 w0_4 w0_5 w3_0 w3_3 w4_a w5_a = some (r0, v0_0, v0_1, v0_4, v0_5, v3_0, v3_3, v4_a, v5_a) → ∀ {q2 : Nat} {nA2 : ClassId} {H : Heap} {locs : List Loc} {ls : Array Slot}, va_K (dC, dI) classes [(nA2, .byte), (cAlTi, .long), (cAlAh, .long)] s → va_P (dC, dI) classes [(h0, .inr (7, [.int w0_0, .int w0_1, .ref tTape, .ref tTable, .int w0_4, .int w0_5])), (tTape, .inr (0, [.ref q2, .int tpS])), (q2, .inl (nA2, tpN, .inl tpA)), (tTable, .inr (4, [.int w3_0, .ref lTi, .ref lAh, .long w3_3])), (lTi, .inl (cAlTi, 60, .inr (.inl w4_a))), (lAh, .inl (cAlAh, 60, .inr (.inl w5_a)))] H → va_D A [(h0, .inr (7, [.int w0_0, .int w0_1, .ref tTape, .ref tTable, .int w0_4, .int w0_5])), (tTape, .inr (0, [.ref q2, .int tpS])), (q2, .inl (nA2, tpN, .inl tpA)), (tTable, .inr (4, [.int w3_0, .ref lTi, .ref lAh, .long w3_3])), (lTi, .inl (cAlTi, 60, .inr (.inl w4_a))), (lAh, .inl (cAlAh, 60, .inr (.inl w5_a)))] → va_S A s.heap H locs → lv_has ls 2 [(1, .int x1), (0, .ref h0)] → W p l e R s m args below meth c H locs 0 0 Q (F0 m 10 ls []) := by
  obtain ⟨hx, hb, hr, hml, hown, hts, hlocks, hRf, hRl⟩ := id C0
  obtain ⟨tms, hZms, hTms, tmg, hZmg, hTmg, hNW⟩ := id hST
  intro n
  induction n with
  | zero =>
    intro x1 w0_0 w0_1 w0_4 w0_5 w3_0 w3_3 w4_a w5_a hf
    exact absurd hf (by simp [f_TP_readLines_10])
  | succ n ih =>
    intro x1 w0_0 w0_1 w0_4 w0_5 w3_0 w3_3 w4_a w5_a hf q2 nA2 H locs ls hK hP hD hS hl
    unfold f_TP_readLines_10 at hf
    refine lv_iload_n hx hb d_TP_readLines_10 rfl (lv_at hl 0 rfl) ?_
    refine lv_sipush (v := 6000) hx hb d_TP_readLines_11 (by decide) ?_
    refine lv_icmp_ge (tgt := 46) hx hb d_TP_readLines_14 (by decide) (fun c_1 => ?_) (fun c_1 => ?_)
    · have hf := it_t c_1 hf
      exact k_TP_readLines_46 C0 hST hA hE hf hK hP hD hS (lv_sub hl [] rfl)
    · have hf := it_f c_1 hf
      refine lv_aload_n hx hb d_TP_readLines_17 rfl (lv_at hl 1 rfl) ?_
      refine va_get (D := (dC, dI)) (ci := 7) (v := .int w0_4) (C := RTableParser) (T := TTableParser) (N := 6) hx hb hts in_TableParser hown hK hP 0 rfl rfl 4 (by decide) (hts (.fieldLink "ZoneFiles$TableParser" 25 "ZoneFiles$TableParser" "pos" "I") m_2_161) (fun _ h9 => h9) rfl d_TP_readLines_18 ?_
      refine lv_aload_n hx hb d_TP_readLines_21 rfl (lv_at hl 1 rfl) ?_
      refine va_get (D := (dC, dI)) (ci := 7) (v := .ref tTape) (C := RTableParser) (T := TTableParser) (N := 6) hx hb hts in_TableParser hown hK hP 0 rfl rfl 2 (by decide) (hts (.fieldLink "ZoneFiles$TableParser" 9 "ZoneFiles$TableParser" "tape" "LZoneFiles$Bytes;") m_2_159) (fun _ h9 => h9) rfl d_TP_readLines_22 ?_
      refine va_get (D := (dC, dI)) (ci := 0) (v := .int tpS) (C := RBytes) (T := TBytes) (N := 2) hx hb hts in_Bytes hown hK hP 1 rfl rfl 1 (by decide) (hts (.fieldLink "ZoneFiles$TableParser" 28 "ZoneFiles$Bytes" "size" "I") m_1_40) (fun _ h9 => h9) rfl d_TP_readLines_25 ?_
      refine lv_icmp_ge (tgt := 46) hx hb d_TP_readLines_28 (by decide) (fun c_2 => ?_) (fun c_2 => ?_)
      · have hf := it_t c_2 hf
        exact k_TP_readLines_46 C0 hST hA hE hf hK hP hD hS (lv_sub hl [] rfl)
      · have hf := it_f c_2 hf
        refine lv_aload_n hx hb d_TP_readLines_31 rfl (lv_at hl 1 rfl) ?_
        obtain ⟨⟨z_3, z_4, z_5, z_6, z_7, z_8, z_9, z_10, z_11⟩, hc, hf⟩ := ob hf
        have hPc := hP.sub (ws' := [(h0, .inr (7, [.int w0_0, .int w0_1, .ref tTape, .ref tTable, .int w0_4, .int w0_5])), (tTape, .inr (0, [.ref q2, .int tpS])), (q2, .inl (nA2, tpN, .inl tpA)), (tTable, .inr (4, [.int w3_0, .ref lTi, .ref lAh, .long w3_3])), (lTi, .inl (cAlTi, 60, .inr (.inl w4_a))), (lAh, .inl (cAlAh, 60, .inr (.inl w5_a)))]) [0, 1, 2, 3, 4, 5] rfl
        have hDc := hD.sub (ws' := [(h0, .inr (7, [.int w0_0, .int w0_1, .ref tTape, .ref tTable, .int w0_4, .int w0_5])), (tTape, .inr (0, [.ref q2, .int tpS])), (q2, .inl (nA2, tpN, .inl tpA)), (tTable, .inr (4, [.int w3_0, .ref lTi, .ref lAh, .long w3_3])), (lTi, .inl (cAlTi, 60, .inr (.inl w4_a))), (lAh, .inl (cAlAh, 60, .inr (.inl w5_a)))]) [0, 1, 2, 3, 4, 5] (by decide) rfl
        have hKc := hK.sub (tys' := [(nA2, .byte), (cAlTi, .long), (cAlAh, .long)]) [0, 1, 2] rfl
        have hFc := va_free (wc := [(h0, .inr (7, [.int w0_0, .int w0_1, .ref tTape, .ref tTable, .int w0_4, .int w0_5])), (tTape, .inr (0, [.ref q2, .int tpS])), (q2, .inl (nA2, tpN, .inl tpA)), (tTable, .inr (4, [.int w3_0, .ref lTi, .ref lAh, .long w3_3])), (lTi, .inl (cAlTi, 60, .inr (.inl w4_a))), (lAh, .inl (cAlAh, 60, .inr (.inl w5_a)))]) hD hS hA [0, 1, 2, 3, 4, 5] rfl
        refine cl_M (v := (some (.int z_3))) (st1 := [.int z_3]) (va_runV (As := []) (rest := []) ⟨hx, hb, hml, hown, hts⟩ (c_TP_readLine l dC dI h0 tTape tTable q2 lTi lAh nA2 cAlTi cAlAh H.size nf w0_0 w0_1 w0_4 w0_5 tpS tpN tpA w3_0 w3_3 w4_a w5_a hc) (cwV 0 hts (gdV m_2_180 m_2_182 msel_2 m_1_19 m_2_183) rfl rfl rfl (by decide +kernel) ⟨Nat.le_trans (Nat.le_of_ble_eq_true rfl) hRf, Nat.le_trans (Nat.le_of_ble_eq_true rfl) hRl⟩) ((MU.pre hPc hKc hDc (hST.mu hS hFc)).vir (va_recv hKc hPc (ci := 7) (q0 := 0) rfl rfl)) rfl rfl hl.1 rfl (lv_room (Nat.le_of_ble_eq_true rfl)) d_TP_readLines_32 ⟨Nat.zero_le _, Nat.zero_le _⟩) rfl hS (fun q _ h => hFc q h) hFc (fun t H1 locs ht hvm hB hz1 hk1 hS => ?_)
        obtain ⟨q_12, cq_13, hP1, hK1, hD1⟩ := hB
        rw [ht] at hP1
        have hK1 := va_K.moved hvm.symm hK1
        obtain ⟨hP, hD⟩ := va_join (wr := []) (w1 := [(h0, .inr (7, [.int z_4, .int z_5, .ref tTape, .ref tTable, .int z_6, .int z_7])), (tTape, .inr (0, [.ref q_12, .int tpS])), (q_12, .inl (cq_13, tpN, .inl tpA)), (tTable, .inr (4, [.int z_8, .ref lTi, .ref lAh, .long z_9])), (lTi, .inl (cAlTi, 60, .inr (.inl z_10))), (lAh, .inl (cAlAh, 60, .inr (.inl z_11)))]) hP hD [0, 1, 2, 3, 4, 5] [] rfl rfl (by decide) (by decide) hk1 hFc hP1 hD1
        have hK := (hK.sub (tys' := []) [] rfl).app hK1
        generalize H1 = H at hP hS ⊢
        have hP := hP.sub (ws' := [(h0, .inr (7, [.int z_4, .int z_5, .ref tTape, .ref tTable, .int z_6, .int z_7])), (tTape, .inr (0, [.ref q_12, .int tpS])), (q_12, .inl (cq_13, tpN, .inl tpA)), (tTable, .inr (4, [.int z_8, .ref lTi, .ref lAh, .long z_9])), (lTi, .inl (cAlTi, 60, .inr (.inl z_10))), (lAh, .inl (cAlAh, 60, .inr (.inl z_11)))]) [0, 1, 2, 3, 4, 5] rfl
        have hD := hD.sub (ws' := [(h0, .inr (7, [.int z_4, .int z_5, .ref tTape, .ref tTable, .int z_6, .int z_7])), (tTape, .inr (0, [.ref q_12, .int tpS])), (q_12, .inl (cq_13, tpN, .inl tpA)), (tTable, .inr (4, [.int z_8, .ref lTi, .ref lAh, .long z_9])), (lTi, .inl (cAlTi, 60, .inr (.inl z_10))), (lAh, .inl (cAlAh, 60, .inr (.inl z_11)))]) [0, 1, 2, 3, 4, 5] (by decide) rfl
        have hK := hK.sub (tys' := [(cq_13, .byte), (cAlTi, .long), (cAlAh, .long)]) [0, 1, 2] rfl
        refine lv_if_ne (tgt := 40) hx hb d_TP_readLines_35 (by decide) (fun c_14 => ?_) (fun c_14 => ?_)
        · have hf := it_f c_14 hf
          refine lv_iinc (v := x1 + 1) (lv' := [(1, .int (x1 + 1)), (0, .ref h0)]) hx hb d_TP_readLines_40 hl (k := 0) rfl rfl (by decide) rfl (fun ls hl => ?_)
          refine lv_goto (tgt := 10) hx hb d_TP_readLines_43 (by decide) ?_
          exact ih hf hK hP hD hS (lv_sub hl [0, 1] rfl)
        · have hf := it_t c_14 hf
          refine lv_iconst (v := 0) hx hb d_TP_readLines_38 (by decide) ?_
          cases rs hf
          exact hE _ _ _ _ d_TP_readLines_39 rfl hP hD hS hK
set_option maxHeartbeats 400000 in
set_option maxRecDepth 100000 in
theorem k_TP_readLines_0 (C0 : Cx p s m meth c args R b_TP_readLines "ZoneFiles$TableParser" 2 (some .boolean) 4 98) (hST : ST A s s.heap) (hA : ∀ q, s.heap.size ≤ q → A q) (hE : ∀ (pc : Nat) (ls : Array Slot) {q2 : Nat} {nA2 : ClassId} (H : Heap) (locs : List Loc), decode b_TP_readLines pc = .ok (.ireturn, 1) → narrow .boolean (.int r0) = .int r0 → va_P (dC, dI) classes [(h0, .inr (7, [.int v0_0, .int v0_1, .ref tTape, .ref tTable, .int v0_4, .int v0_5])), (tTape, .inr (0, [.ref q2, .int tpS])), (q2, .inl (nA2, tpN, .inl tpA)), (tTable, .inr (4, [.int v3_0, .ref lTi, .ref lAh, .long v3_3])), (lTi, .inl (cAlTi, 60, .inr (.inl v4_a))), (lAh, .inl (cAlAh, 60, .inr (.inl v5_a)))] H → va_D A [(h0, .inr (7, [.int v0_0, .int v0_1, .ref tTape, .ref tTable, .int v0_4, .int v0_5])), (tTape, .inr (0, [.ref q2, .int tpS])), (q2, .inl (nA2, tpN, .inl tpA)), (tTable, .inr (4, [.int v3_0, .ref lTi, .ref lAh, .long v3_3])), (lTi, .inl (cAlTi, 60, .inr (.inl v4_a))), (lAh, .inl (cAlAh, 60, .inr (.inl v5_a)))] → va_S A s.heap H locs → va_K (dC, dI) classes [(nA2, .byte), (cAlTi, .long), (cAlAh, .long)] s → W p l e R s m args below meth c H locs 0 0 Q (F0 m pc ls [.int r0])) {w0_0 : Int32} {w0_1 : Int32} {w0_4 : Int32} {w0_5 : Int32} {w3_0 : Int32} {w3_3 : Int64} {w4_a : Nat → Int64} {w5_a : Nat → Int64} (hf : f_TP_readLines_0 nf tpS tpN tpA w0_0 w0_1 w0_4 w0_5 w3_0 w3_3 w4_a w5_a = some (r0, v0_0, v0_1, v0_4, v0_5, v3_0, v3_3, v4_a, v5_a)) {q2 : Nat} {nA2 : ClassId} {H : Heap} {locs : List Loc} {ls : Array Slot} (hK : va_K (dC, dI) classes [(nA2, .byte), (cAlTi, .long), (cAlAh, .long)] s) (hP : va_P (dC, dI) classes [(h0, .inr (7, [.int w0_0, .int w0_1, .ref tTape, .ref tTable, .int w0_4, .int w0_5])), (tTape, .inr (0, [.ref q2, .int tpS])), (q2, .inl (nA2, tpN, .inl tpA)), (tTable, .inr (4, [.int w3_0, .ref lTi, .ref lAh, .long w3_3])), (lTi, .inl (cAlTi, 60, .inr (.inl w4_a))), (lAh, .inl (cAlAh, 60, .inr (.inl w5_a)))] H) (hD : va_D A [(h0, .inr (7, [.int w0_0, .int w0_1, .ref tTape, .ref tTable, .int w0_4, .int w0_5])), (tTape, .inr (0, [.ref q2, .int tpS])), (q2, .inl (nA2, tpN, .inl tpA)), (tTable, .inr (4, [.int w3_0, .ref lTi, .ref lAh, .long w3_3])), (lTi, .inl (cAlTi, 60, .inr (.inl w4_a))), (lAh, .inl (cAlAh, 60, .inr (.inl w5_a)))]) (hS : va_S A s.heap H locs) (hl : lv_has ls 2 [(0, .ref h0)]) : W p l e R s m args below meth c H locs 0 0 Q (F0 m 0 ls []) := by
  obtain ⟨hx, hb, hr, hml, hown, hts, hlocks, hRf, hRl⟩ := id C0
  obtain ⟨tms, hZms, hTms, tmg, hZmg, hTmg, hNW⟩ := id hST
  unfold f_TP_readLines_0 at hf
  refine lv_aload_n hx hb d_TP_readLines_0 rfl (lv_at hl 0 rfl) ?_
  refine va_get (D := (dC, dI)) (ci := 7) (v := .ref tTable) (C := RTableParser) (T := TTableParser) (N := 6) hx hb hts in_TableParser hown hK hP 0 rfl rfl 3 (by decide) (hts (.fieldLink "ZoneFiles$TableParser" 15 "ZoneFiles$TableParser" "table" "LZoneFiles$LeapTable;") m_2_160) (fun _ h9 => h9) rfl d_TP_readLines_1 ?_
  refine lv_iconst (v := 0) hx hb d_TP_readLines_4 (by decide) ?_
  refine va_put (D := (dC, dI)) (ci := 4) (v := .int 0) (ty := .int) (C := RLeapTable) (T := TLeapTable) (N := 4) hx hb hts in_LeapTable tyLeapTable ty_LeapTable nm_LeapTable hown hK hP hD hS 3 rfl rfl 0 (by decide) (hts (.fieldLink "ZoneFiles$TableParser" 19 "ZoneFiles$LeapTable" "count" "I") m_2_97) (fun _ h9 => h9) rfl (by decide +kernel) rfl rfl (Nat.le_of_ble_eq_true rfl) d_TP_readLines_5 (fun H locs hP hD hS => ?_)
  have hP : va_P (dC, dI) classes [(h0, .inr (7, [.int w0_0, .int w0_1, .ref tTape, .ref tTable, .int w0_4, .int w0_5])), (tTape, .inr (0, [.ref q2, .int tpS])), (q2, .inl (nA2, tpN, .inl tpA)), (tTable, .inr (4, [.int 0, .ref lTi, .ref lAh, .long w3_3])), (lTi, .inl (cAlTi, 60, .inr (.inl w4_a))), (lAh, .inl (cAlAh, 60, .inr (.inl w5_a)))] H := hP
  have hD : va_D A [(h0, .inr (7, [.int w0_0, .int w0_1, .ref tTape, .ref tTable, .int w0_4, .int w0_5])), (tTape, .inr (0, [.ref q2, .int tpS])), (q2, .inl (nA2, tpN, .inl tpA)), (tTable, .inr (4, [.int 0, .ref lTi, .ref lAh, .long w3_3])), (lTi, .inl (cAlTi, 60, .inr (.inl w4_a))), (lAh, .inl (cAlAh, 60, .inr (.inl w5_a)))] := hD
  refine lv_iconst (v := 0) hx hb d_TP_readLines_8 (by decide) ?_
  refine lv_istore_n (lv' := [(1, .int 0), (0, .ref h0)]) hx hb d_TP_readLines_9 rfl hl (by decide) rfl (fun ls hl => ?_)
  exact k_TP_readLines_10 C0 hST hA hE nf hf hK hP hD hS (lv_sub hl [0, 1] rfl)
end
set_option maxHeartbeats 400000 in
set_option maxRecDepth 100000 in
theorem c_TP_readLines (l : Launch) (dC : Nat → ClassId) (dI : Nat → Nat → Nat) (h0 : Nat) (tTape : Nat) (tTable : Nat) (tpR : Nat) (lTi : Nat) (lAh : Nat) (cAtpR : ClassId) (cAlTi : ClassId) (cAlAh : ClassId) (sz : Nat) (nf : Nat) (tFault : Int32) (tPlace : Int32) (tPos : Int32) (tHas : Int32) (tpS : Int32) (tpN : Nat) (tpA : Nat → Int32) (lCount : Int32) (lExp : Int64) (lTiA : Nat → Int64) (lAhA : Nat → Int64) {r0 : Int32} {v0_0 : Int32} {v0_1 : Int32} {v0_4 : Int32} {v0_5 : Int32} {v3_0 : Int32} {v3_3 : Int64} {v4_a : Nat → Int64} {v5_a : Nat → Int64} (hf : f_TP_readLines nf tFault tPlace tPos tHas tpS tpN tpA lCount lExp lTiA lAhA = some (r0, v0_0, v0_1, v0_4, v0_5, v3_0, v3_3, v4_a, v5_a)) : Met l y_TP_readLines (wd y_TP_readLines b_TP_readLines 2 (some .boolean)) ({ frames := 4, cells := 0, slots := 0, locals := 98 }) (MU dC dI [(h0, .inr (7, [.int tFault, .int tPlace, .ref tTape, .ref tTable, .int tPos, .int tHas])), (tTape, .inr (0, [.ref tpR, .int tpS])), (tpR, .inl (cAtpR, tpN, .inl tpA)), (tTable, .inr (4, [.int lCount, .ref lTi, .ref lAh, .long lExp])), (lTi, .inl (cAlTi, 60, .inr (.inl lTiA))), (lAh, .inl (cAlAh, 60, .inr (.inl lAhA)))] [(cAtpR, .byte), (cAlTi, .long), (cAlAh, .long)] sz [.ref h0]) (MV (some (.int r0)) (fun t => ∃ (q2 : Nat) (nA2 : ClassId), va_P (dC, dI) classes [(h0, .inr (7, [.int v0_0, .int v0_1, .ref tTape, .ref tTable, .int v0_4, .int v0_5])), (tTape, .inr (0, [.ref q2, .int tpS])), (q2, .inl (nA2, tpN, .inl tpA)), (tTable, .inr (4, [.int v3_0, .ref lTi, .ref lAh, .long v3_3])), (lTi, .inl (cAlTi, 60, .inr (.inl v4_a))), (lAh, .inl (cAlAh, 60, .inr (.inl v5_a)))] t.heap ∧ va_K (dC, dI) classes [(nA2, .byte), (cAlTi, .long), (cAlAh, .long)] t ∧ va_D (va_A [(h0, .inr (7, [.int tFault, .int tPlace, .ref tTape, .ref tTable, .int tPos, .int tHas])), (tTape, .inr (0, [.ref tpR, .int tpS])), (tpR, .inl (cAtpR, tpN, .inl tpA)), (tTable, .inr (4, [.int lCount, .ref lTi, .ref lAh, .long lExp])), (lTi, .inl (cAlTi, 60, .inr (.inl lTiA))), (lAh, .inl (cAlAh, 60, .inr (.inl lAhA)))] sz) [(h0, .inr (7, [.int v0_0, .int v0_1, .ref tTape, .ref tTable, .int v0_4, .int v0_5])), (tTape, .inr (0, [.ref q2, .int tpS])), (q2, .inl (nA2, tpN, .inl tpA)), (tTable, .inr (4, [.int v3_0, .ref lTi, .ref lAh, .long v3_3])), (lTi, .inl (cAlTi, 60, .inr (.inl v4_a))), (lAh, .inl (cAlAh, 60, .inr (.inl v5_a)))]) (va_A [(h0, .inr (7, [.int tFault, .int tPlace, .ref tTape, .ref tTable, .int tPos, .int tHas])), (tTape, .inr (0, [.ref tpR, .int tpS])), (tpR, .inl (cAtpR, tpN, .inl tpA)), (tTable, .inr (4, [.int lCount, .ref lTi, .ref lAh, .long lExp])), (lTi, .inl (cAlTi, 60, .inr (.inl lTiA))), (lAh, .inl (cAlAh, 60, .inr (.inl lAhA)))] sz)) 0 0 (va_A [(h0, .inr (7, [.int tFault, .int tPlace, .ref tTape, .ref tTable, .int tPos, .int tHas])), (tTape, .inr (0, [.ref tpR, .int tpS])), (tpR, .inl (cAtpR, tpN, .inl tpA)), (tTable, .inr (4, [.int lCount, .ref lTi, .ref lAh, .long lExp])), (lTi, .inl (cAlTi, 60, .inr (.inl lTiA))), (lAh, .inl (cAlAh, 60, .inr (.inl lAhA)))] sz) :=
  met_M (plainFor_of_name (by decide)) (Nat.le_of_ble_eq_true rfl) (fun p e R s m args below meth c ls hRc hRs hsz hin C0 hST hK hP hD hl => by
    obtain ⟨hx, hb, hr, hml, hown, hts, hlocks, hRf, hRl⟩ := id C0
    subst hsz
    have hA : ∀ q : Nat, s.heap.size ≤ q → va_A [(h0, .inr (7, [.int tFault, .int tPlace, .ref tTape, .ref tTable, .int tPos, .int tHas])), (tTape, .inr (0, [.ref tpR, .int tpS])), (tpR, .inl (cAtpR, tpN, .inl tpA)), (tTable, .inr (4, [.int lCount, .ref lTi, .ref lAh, .long lExp])), (lTi, .inl (cAlTi, 60, .inr (.inl lTiA))), (lAh, .inl (cAlAh, 60, .inr (.inl lAhA)))] s.heap.size q := fun q h => Or.inr h
    have hS : va_S (va_A [(h0, .inr (7, [.int tFault, .int tPlace, .ref tTape, .ref tTable, .int tPos, .int tHas])), (tTape, .inr (0, [.ref tpR, .int tpS])), (tpR, .inl (cAtpR, tpN, .inl tpA)), (tTable, .inr (4, [.int lCount, .ref lTi, .ref lAh, .long lExp])), (lTi, .inl (cAlTi, 60, .inr (.inl lTiA))), (lAh, .inl (cAlAh, 60, .inr (.inl lAhA)))] s.heap.size) s.heap s.heap [] := va_S.rf
    unfold f_TP_readLines at hf
    exact k_TP_readLines_0 C0 hST hA (fun pc ls {q2} {nA2} H locs hd hn hP hD hS hK => W.zret hx hb hr hn (fun t ht hW => ⟨⟨rfl, ⟨q2, nA2, by rw [ht]; exact hP, va_K.moved hW.alike hK, hD⟩⟩, hS.F ht⟩) hS.2.2 hd) hf hK hP hD hS (lv_sub hl [0] rfl))
-- ZoneFiles$TableParser.readEnd()Z
def f_TP_readEnd_94 (nf : Nat) (s0 : Int32) (w0_0 : Int32) (w0_1 : Int32) : Option (Int32 × Int32 × Int32) :=
  if s0 = 0 ∨ s0 = 1 then some (s0, w0_0, w0_1) else none
def f_TP_readEnd_89 (nf : Nat) (w0_0 : Int32) (w0_1 : Int32) : Option (Int32 × Int32 × Int32) :=
  f_TP_readEnd_94 nf 1 w0_0 w0_1
def f_TP_readEnd_0 (nf : Nat) (tHas : Int32) (tpS : Int32) (lCount : Int32) (lExp : Int64) (lTiA : Nat → Int64) (w0_0 : Int32) (w0_1 : Int32) : Option (Int32 × Int32 × Int32) :=
  if lCount = 0 then
  (f_TP_fail nf 6 tpS w0_0 w0_1).bind fun (z_14, z_15, z_16) =>
    if z_14 = 0 ∨ z_14 = 1 then some (z_14, z_15, z_16) else none
  else
  if tHas = 0 then
    (f_TP_fail nf 7 tpS w0_0 w0_1).bind fun (z_10, z_11, z_12) =>
      if z_10 = 0 ∨ z_10 = 1 then some (z_10, z_11, z_12) else none
    else
    if (lCount - 1) < 0 ∨ 60 ≤ (lCount - 1).toNatClampNeg then none else
      if (lTiA (lCount - 1).toNatClampNeg) < lExp then
      f_TP_readEnd_89 nf w0_0 w0_1
      else
      (f_TP_fail nf 8 tpS w0_0 w0_1).bind fun (z_6, z_7, z_8) =>
        if z_6 = 0 then
        f_TP_readEnd_94 nf 0 z_7 z_8
        else
        f_TP_readEnd_89 nf z_7 z_8
def f_TP_readEnd (nf : Nat) (tFault : Int32) (tPlace : Int32) (tHas : Int32) (tpS : Int32) (lCount : Int32) (lExp : Int64) (lTiA : Nat → Int64) : Option (Int32 × Int32 × Int32) :=
  f_TP_readEnd_0 nf tHas tpS lCount lExp lTiA tFault tPlace
section
variable {p : Program} {l : Launch} {e : Env} {R : Room} {s : State} {m : MethodId} {args : Array Value} {below : List Frame} {meth : Method} {c : Code} {Q : State → Prop} {dC : Nat → ClassId} {dI : Nat → Nat → Nat} {nf : Nat} {A : Nat → Prop}
variable {h0 : Nat} {tTape : Nat} {tTable : Nat} {tpR : Nat} {lTi : Nat} {lAh : Nat} {cAlTi : ClassId} {tFault : Int32} {tPlace : Int32} {tPos : Int32} {tHas : Int32} {tpS : Int32} {lCount : Int32} {lExp : Int64} {lTiA : Nat → Int64} {r0 : Int32} {v0_0 : Int32} {v0_1 : Int32}
set_option maxHeartbeats 400000 in
set_option maxRecDepth 100000 in
theorem k_TP_readEnd_94 (C0 : Cx p s m meth c args R b_TP_readEnd "ZoneFiles$TableParser" 1 (some .boolean) 1 22) (hST : ST A s s.heap) (hA : ∀ q, s.heap.size ≤ q → A q) (hE : ∀ (pc : Nat) (ls : Array Slot) (H : Heap) (locs : List Loc), decode b_TP_readEnd pc = .ok (.ireturn, 1) → narrow .boolean (.int r0) = .int r0 → va_P (dC, dI) classes [(h0, .inr (7, [.int v0_0, .int v0_1, .ref tTape, .ref tTable, .int tPos, .int tHas])), (tTape, .inr (0, [.ref tpR, .int tpS])), (tTable, .inr (4, [.int lCount, .ref lTi, .ref lAh, .long lExp])), (lTi, .inl (cAlTi, 60, .inr (.inl lTiA)))] H → va_D A [(h0, .inr (7, [.int v0_0, .int v0_1, .ref tTape, .ref tTable, .int tPos, .int tHas])), (tTape, .inr (0, [.ref tpR, .int tpS])), (tTable, .inr (4, [.int lCount, .ref lTi, .ref lAh, .long lExp])), (lTi, .inl (cAlTi, 60, .inr (.inl lTiA)))] → va_S A s.heap H locs → va_K (dC, dI) classes [(cAlTi, .long)] s → W p l e R s m args below meth c H locs 0 0 Q (F0 m pc ls [.int r0])) {s0 : Int32} {w0_0 : Int32} {w0_1 : Int32} (hf : f_TP_readEnd_94 nf s0 w0_0 w0_1 = some (r0, v0_0, v0_1)) {H : Heap} {locs : List Loc} {ls : Array Slot} (hK : va_K (dC, dI) classes [(cAlTi, .long)] s) (hP : va_P (dC, dI) classes [(h0, .inr (7, [.int w0_0, .int w0_1, .ref tTape, .ref tTable, .int tPos, .int tHas])), (tTape, .inr (0, [.ref tpR, .int tpS])), (tTable, .inr (4, [.int lCount, .ref lTi, .ref lAh, .long lExp])), (lTi, .inl (cAlTi, 60, .inr (.inl lTiA)))] H) (hD : va_D A [(h0, .inr (7, [.int w0_0, .int w0_1, .ref tTape, .ref tTable, .int tPos, .int tHas])), (tTape, .inr (0, [.ref tpR, .int tpS])), (tTable, .inr (4, [.int lCount, .ref lTi, .ref lAh, .long lExp])), (lTi, .inl (cAlTi, 60, .inr (.inl lTiA)))]) (hS : va_S A s.heap H locs) (hl : lv_has ls 1 []) : W p l e R s m args below meth c H locs 0 0 Q (F0 m 94 ls [.int s0]) := by
  obtain ⟨hx, hb, hr, hml, hown, hts, hlocks, hRf, hRl⟩ := id C0
  obtain ⟨tms, hZms, hTms, tmg, hZmg, hTmg, hNW⟩ := id hST
  unfold f_TP_readEnd_94 at hf
  obtain ⟨c_5, hf⟩ := it_g hf
  cases rs hf
  exact hE _ _ _ _ d_TP_readEnd_94 (nb_of c_5) hP hD hS hK
set_option maxHeartbeats 400000 in
set_option maxRecDepth 100000 in
theorem k_TP_readEnd_89 (C0 : Cx p s m meth c args R b_TP_readEnd "ZoneFiles$TableParser" 1 (some .boolean) 1 22) (hST : ST A s s.heap) (hA : ∀ q, s.heap.size ≤ q → A q) (hE : ∀ (pc : Nat) (ls : Array Slot) (H : Heap) (locs : List Loc), decode b_TP_readEnd pc = .ok (.ireturn, 1) → narrow .boolean (.int r0) = .int r0 → va_P (dC, dI) classes [(h0, .inr (7, [.int v0_0, .int v0_1, .ref tTape, .ref tTable, .int tPos, .int tHas])), (tTape, .inr (0, [.ref tpR, .int tpS])), (tTable, .inr (4, [.int lCount, .ref lTi, .ref lAh, .long lExp])), (lTi, .inl (cAlTi, 60, .inr (.inl lTiA)))] H → va_D A [(h0, .inr (7, [.int v0_0, .int v0_1, .ref tTape, .ref tTable, .int tPos, .int tHas])), (tTape, .inr (0, [.ref tpR, .int tpS])), (tTable, .inr (4, [.int lCount, .ref lTi, .ref lAh, .long lExp])), (lTi, .inl (cAlTi, 60, .inr (.inl lTiA)))] → va_S A s.heap H locs → va_K (dC, dI) classes [(cAlTi, .long)] s → W p l e R s m args below meth c H locs 0 0 Q (F0 m pc ls [.int r0])) {w0_0 : Int32} {w0_1 : Int32} (hf : f_TP_readEnd_89 nf w0_0 w0_1 = some (r0, v0_0, v0_1)) {H : Heap} {locs : List Loc} {ls : Array Slot} (hK : va_K (dC, dI) classes [(cAlTi, .long)] s) (hP : va_P (dC, dI) classes [(h0, .inr (7, [.int w0_0, .int w0_1, .ref tTape, .ref tTable, .int tPos, .int tHas])), (tTape, .inr (0, [.ref tpR, .int tpS])), (tTable, .inr (4, [.int lCount, .ref lTi, .ref lAh, .long lExp])), (lTi, .inl (cAlTi, 60, .inr (.inl lTiA)))] H) (hD : va_D A [(h0, .inr (7, [.int w0_0, .int w0_1, .ref tTape, .ref tTable, .int tPos, .int tHas])), (tTape, .inr (0, [.ref tpR, .int tpS])), (tTable, .inr (4, [.int lCount, .ref lTi, .ref lAh, .long lExp])), (lTi, .inl (cAlTi, 60, .inr (.inl lTiA)))]) (hS : va_S A s.heap H locs) (hl : lv_has ls 1 []) : W p l e R s m args below meth c H locs 0 0 Q (F0 m 89 ls []) := by
  obtain ⟨hx, hb, hr, hml, hown, hts, hlocks, hRf, hRl⟩ := id C0
  obtain ⟨tms, hZms, hTms, tmg, hZmg, hTmg, hNW⟩ := id hST
  unfold f_TP_readEnd_89 at hf
  refine lv_iconst (v := 1) hx hb d_TP_readEnd_89 (by decide) ?_
  refine lv_goto (tgt := 94) hx hb d_TP_readEnd_90 (by decide) ?_
  exact k_TP_readEnd_94 C0 hST hA hE hf hK hP hD hS (lv_sub hl [] rfl)
set_option maxHeartbeats 400000 in
set_option maxRecDepth 100000 in
theorem k_TP_readEnd_0 (C0 : Cx p s m meth c args R b_TP_readEnd "ZoneFiles$TableParser" 1 (some .boolean) 1 22) (hST : ST A s s.heap) (hA : ∀ q, s.heap.size ≤ q → A q) (hE : ∀ (pc : Nat) (ls : Array Slot) (H : Heap) (locs : List Loc), decode b_TP_readEnd pc = .ok (.ireturn, 1) → narrow .boolean (.int r0) = .int r0 → va_P (dC, dI) classes [(h0, .inr (7, [.int v0_0, .int v0_1, .ref tTape, .ref tTable, .int tPos, .int tHas])), (tTape, .inr (0, [.ref tpR, .int tpS])), (tTable, .inr (4, [.int lCount, .ref lTi, .ref lAh, .long lExp])), (lTi, .inl (cAlTi, 60, .inr (.inl lTiA)))] H → va_D A [(h0, .inr (7, [.int v0_0, .int v0_1, .ref tTape, .ref tTable, .int tPos, .int tHas])), (tTape, .inr (0, [.ref tpR, .int tpS])), (tTable, .inr (4, [.int lCount, .ref lTi, .ref lAh, .long lExp])), (lTi, .inl (cAlTi, 60, .inr (.inl lTiA)))] → va_S A s.heap H locs → va_K (dC, dI) classes [(cAlTi, .long)] s → W p l e R s m args below meth c H locs 0 0 Q (F0 m pc ls [.int r0])) {w0_0 : Int32} {w0_1 : Int32} (hf : f_TP_readEnd_0 nf tHas tpS lCount lExp lTiA w0_0 w0_1 = some (r0, v0_0, v0_1)) {H : Heap} {locs : List Loc} {ls : Array Slot} (hK : va_K (dC, dI) classes [(cAlTi, .long)] s) (hP : va_P (dC, dI) classes [(h0, .inr (7, [.int w0_0, .int w0_1, .ref tTape, .ref tTable, .int tPos, .int tHas])), (tTape, .inr (0, [.ref tpR, .int tpS])), (tTable, .inr (4, [.int lCount, .ref lTi, .ref lAh, .long lExp])), (lTi, .inl (cAlTi, 60, .inr (.inl lTiA)))] H) (hD : va_D A [(h0, .inr (7, [.int w0_0, .int w0_1, .ref tTape, .ref tTable, .int tPos, .int tHas])), (tTape, .inr (0, [.ref tpR, .int tpS])), (tTable, .inr (4, [.int lCount, .ref lTi, .ref lAh, .long lExp])), (lTi, .inl (cAlTi, 60, .inr (.inl lTiA)))]) (hS : va_S A s.heap H locs) (hl : lv_has ls 1 [(0, .ref h0)]) : W p l e R s m args below meth c H locs 0 0 Q (F0 m 0 ls []) := by
  obtain ⟨hx, hb, hr, hml, hown, hts, hlocks, hRf, hRl⟩ := id C0
  obtain ⟨tms, hZms, hTms, tmg, hZmg, hTmg, hNW⟩ := id hST
  unfold f_TP_readEnd_0 at hf
  refine lv_aload_n hx hb d_TP_readEnd_0 rfl (lv_at hl 0 rfl) ?_
  refine va_get (D := (dC, dI)) (ci := 7) (v := .ref tTable) (C := RTableParser) (T := TTableParser) (N := 6) hx hb hts in_TableParser hown hK hP 0 rfl rfl 3 (by decide) (hts (.fieldLink "ZoneFiles$TableParser" 15 "ZoneFiles$TableParser" "table" "LZoneFiles$LeapTable;") m_2_160) (fun _ h9 => h9) rfl d_TP_readEnd_1 ?_
  refine va_get (D := (dC, dI)) (ci := 4) (v := .int lCount) (C := RLeapTable) (T := TLeapTable) (N := 4) hx hb hts in_LeapTable hown hK hP 2 rfl rfl 0 (by decide) (hts (.fieldLink "ZoneFiles$TableParser" 19 "ZoneFiles$LeapTable" "count" "I") m_2_97) (fun _ h9 => h9) rfl d_TP_readEnd_4 ?_
  refine lv_if_ne (tgt := 24) hx hb d_TP_readEnd_7 (by decide) (fun c_1 => ?_) (fun c_1 => ?_)
  · have hf := it_f c_1 hf
    refine lv_aload_n hx hb d_TP_readEnd_24 rfl (lv_at hl 0 rfl) ?_
    refine va_get (D := (dC, dI)) (ci := 7) (v := .int tHas) (C := RTableParser) (T := TTableParser) (N := 6) hx hb hts in_TableParser hown hK hP 0 rfl rfl 5 (by decide) (hts (.fieldLink "ZoneFiles$TableParser" 41 "ZoneFiles$TableParser" "hasExpiry" "Z") m_2_162) (fun _ h9 => h9) rfl d_TP_readEnd_25 ?_
    refine lv_if_ne (tgt := 45) hx hb d_TP_readEnd_28 (by decide) (fun c_2 => ?_) (fun c_2 => ?_)
    · have hf := it_f c_2 hf
      refine lv_aload_n hx hb d_TP_readEnd_45 rfl (lv_at hl 0 rfl) ?_
      refine va_get (D := (dC, dI)) (ci := 7) (v := .ref tTable) (C := RTableParser) (T := TTableParser) (N := 6) hx hb hts in_TableParser hown hK hP 0 rfl rfl 3 (by decide) (hts (.fieldLink "ZoneFiles$TableParser" 15 "ZoneFiles$TableParser" "table" "LZoneFiles$LeapTable;") m_2_160) (fun _ h9 => h9) rfl d_TP_readEnd_46 ?_
      refine va_get (D := (dC, dI)) (ci := 4) (v := .long lExp) (C := RLeapTable) (T := TLeapTable) (N := 4) hx hb hts in_LeapTable hown hK hP 2 rfl rfl 3 (by decide) (hts (.fieldLink "ZoneFiles$TableParser" 45 "ZoneFiles$LeapTable" "expires" "J") m_2_106) (fun _ h9 => h9) rfl d_TP_readEnd_49 ?_
      refine lv_aload_n hx hb d_TP_readEnd_52 rfl (lv_at hl 0 rfl) ?_
      refine va_get (D := (dC, dI)) (ci := 7) (v := .ref tTable) (C := RTableParser) (T := TTableParser) (N := 6) hx hb hts in_TableParser hown hK hP 0 rfl rfl 3 (by decide) (hts (.fieldLink "ZoneFiles$TableParser" 15 "ZoneFiles$TableParser" "table" "LZoneFiles$LeapTable;") m_2_160) (fun _ h9 => h9) rfl d_TP_readEnd_53 ?_
      refine va_get (D := (dC, dI)) (ci := 4) (v := .ref lTi) (C := RLeapTable) (T := TLeapTable) (N := 4) hx hb hts in_LeapTable hown hK hP 2 rfl rfl 1 (by decide) (hts (.fieldLink "ZoneFiles$TableParser" 49 "ZoneFiles$LeapTable" "times" "[J") m_2_100) (fun _ h9 => h9) rfl d_TP_readEnd_56 ?_
      refine lv_aload_n hx hb d_TP_readEnd_59 rfl (lv_at hl 0 rfl) ?_
      refine va_get (D := (dC, dI)) (ci := 7) (v := .ref tTable) (C := RTableParser) (T := TTableParser) (N := 6) hx hb hts in_TableParser hown hK hP 0 rfl rfl 3 (by decide) (hts (.fieldLink "ZoneFiles$TableParser" 15 "ZoneFiles$TableParser" "table" "LZoneFiles$LeapTable;") m_2_160) (fun _ h9 => h9) rfl d_TP_readEnd_60 ?_
      refine va_get (D := (dC, dI)) (ci := 4) (v := .int lCount) (C := RLeapTable) (T := TLeapTable) (N := 4) hx hb hts in_LeapTable hown hK hP 2 rfl rfl 0 (by decide) (hts (.fieldLink "ZoneFiles$TableParser" 19 "ZoneFiles$LeapTable" "count" "I") m_2_97) (fun _ h9 => h9) rfl d_TP_readEnd_63 ?_
      refine lv_iconst (v := 1) hx hb d_TP_readEnd_66 (by decide) ?_
      refine lv_isub hx hb d_TP_readEnd_67 ?_
      obtain ⟨c_3, hf⟩ := it_n hf
      refine va_lald hx hb hK hP 3 0 rfl rfl c_3 d_TP_readEnd_68 ?_
      refine lc_gt (tgt := 89) hx hb d_TP_readEnd_69 d_TP_readEnd_70 (by decide) (fun c_4 => ?_) (fun c_4 => ?_)
      · have hf := it_t c_4 hf
        exact k_TP_readEnd_89 C0 hST hA hE hf hK hP hD hS (lv_sub hl [] rfl)
      · have hf := it_f c_4 hf
        refine lv_aload_n hx hb d_TP_readEnd_73 rfl (lv_at hl 0 rfl) ?_
        refine lv_bipush (v := 8) hx hb d_TP_readEnd_74 (by decide) ?_
        refine lv_aload_n hx hb d_TP_readEnd_76 rfl (lv_at hl 0 rfl) ?_
        refine va_get (D := (dC, dI)) (ci := 7) (v := .ref tTape) (C := RTableParser) (T := TTableParser) (N := 6) hx hb hts in_TableParser hown hK hP 0 rfl rfl 2 (by decide) (hts (.fieldLink "ZoneFiles$TableParser" 9 "ZoneFiles$TableParser" "tape" "LZoneFiles$Bytes;") m_2_159) (fun _ h9 => h9) rfl d_TP_readEnd_77 ?_
        refine va_get (D := (dC, dI)) (ci := 0) (v := .int tpS) (C := RBytes) (T := TBytes) (N := 2) hx hb hts in_Bytes hown hK hP 1 rfl rfl 1 (by decide) (hts (.fieldLink "ZoneFiles$TableParser" 28 "ZoneFiles$Bytes" "size" "I") m_1_40) (fun _ h9 => h9) rfl d_TP_readEnd_80 ?_
        obtain ⟨⟨z_6, z_7, z_8⟩, hc, hf⟩ := ob hf
        have hPc := hP.sub (ws' := [(h0, .inr (7, [.int w0_0, .int w0_1, .ref tTape, .ref tTable, .int tPos, .int tHas]))]) [0] rfl
        have hDc := hD.sub (ws' := [(h0, .inr (7, [.int w0_0, .int w0_1, .ref tTape, .ref tTable, .int tPos, .int tHas]))]) [0] (by decide) rfl
        have hKc := hK.sub (tys' := []) [] rfl
        have hFc := va_free (wc := [(h0, .inr (7, [.int w0_0, .int w0_1, .ref tTape, .ref tTable, .int tPos, .int tHas]))]) hD hS hA [0] rfl
        refine cl_M (v := (some (.int z_6))) (st1 := [.int z_6]) (va_runV (As := [.int 8, .int tpS]) (rest := []) ⟨hx, hb, hml, hown, hts⟩ (c_TP_fail l dC dI h0 tTape tTable H.size nf 8 tpS w0_0 w0_1 tPos tHas hc) (cwV 2 hts (gdV m_2_204 m_2_206 msel_6 m_1_19 m_2_207) rfl rfl rfl (by decide +kernel) ⟨Nat.le_trans (Nat.le_of_ble_eq_true rfl) hRf, Nat.le_trans (Nat.le_of_ble_eq_true rfl) hRl⟩) ((MU.pre hPc hKc hDc (hST.mu hS hFc)).vir (va_recv hKc hPc (ci := 7) (q0 := 0) rfl rfl)) rfl rfl hl.1 rfl (lv_room (Nat.le_of_ble_eq_true rfl)) d_TP_readEnd_83 ⟨Nat.zero_le _, Nat.zero_le _⟩) rfl hS (fun q _ h => hFc q h) hFc (fun t H1 locs ht hvm hB hz1 hk1 hS => ?_)
        obtain ⟨hP1, hK1, hD1⟩ := hB
        rw [ht] at hP1
        have hK1 := va_K.moved hvm.symm hK1
        obtain ⟨hP, hD⟩ := va_join (wr := [(tTape, .inr (0, [.ref tpR, .int tpS])), (tTable, .inr (4, [.int lCount, .ref lTi, .ref lAh, .long lExp])), (lTi, .inl (cAlTi, 60, .inr (.inl lTiA)))]) (w1 := [(h0, .inr (7, [.int z_7, .int z_8, .ref tTape, .ref tTable, .int tPos, .int tHas]))]) hP hD [0] [1, 2, 3] rfl rfl (by decide) (by decide) hk1 hFc hP1 hD1
        have hK := (hK.sub (tys' := [(cAlTi, .long)]) [0] rfl).app hK1
        generalize H1 = H at hP hS ⊢
        have hP := hP.sub (ws' := [(h0, .inr (7, [.int z_7, .int z_8, .ref tTape, .ref tTable, .int tPos, .int tHas])), (tTape, .inr (0, [.ref tpR, .int tpS])), (tTable, .inr (4, [.int lCount, .ref lTi, .ref lAh, .long lExp])), (lTi, .inl (cAlTi, 60, .inr (.inl lTiA)))]) [3, 0, 1, 2] rfl
        have hD := hD.sub (ws' := [(h0, .inr (7, [.int z_7, .int z_8, .ref tTape, .ref tTable, .int tPos, .int tHas])), (tTape, .inr (0, [.ref tpR, .int tpS])), (tTable, .inr (4, [.int lCount, .ref lTi, .ref lAh, .long lExp])), (lTi, .inl (cAlTi, 60, .inr (.inl lTiA)))]) [3, 0, 1, 2] (by decide) rfl
        have hK := hK.sub (tys' := [(cAlTi, .long)]) [0] rfl
        refine lv_if_eq (tgt := 93) hx hb d_TP_readEnd_86 (by decide) (fun c_9 => ?_) (fun c_9 => ?_)
        · have hf := it_t c_9 hf
          refine lv_iconst (v := 0) hx hb d_TP_readEnd_93 (by decide) ?_
          exact k_TP_readEnd_94 C0 hST hA hE hf hK hP hD hS (lv_sub hl [] rfl)
        · have hf := it_f c_9 hf
          exact k_TP_readEnd_89 C0 hST hA hE hf hK hP hD hS (lv_sub hl [] rfl)
    · have hf := it_t c_2 hf
      refine lv_aload_n hx hb d_TP_readEnd_31 rfl (lv_at hl 0 rfl) ?_
      refine lv_bipush (v := 7) hx hb d_TP_readEnd_32 (by decide) ?_
      refine lv_aload_n hx hb d_TP_readEnd_34 rfl (lv_at hl 0 rfl) ?_
      refine va_get (D := (dC, dI)) (ci := 7) (v := .ref tTape) (C := RTableParser) (T := TTableParser) (N := 6) hx hb hts in_TableParser hown hK hP 0 rfl rfl 2 (by decide) (hts (.fieldLink "ZoneFiles$TableParser" 9 "ZoneFiles$TableParser" "tape" "LZoneFiles$Bytes;") m_2_159) (fun _ h9 => h9) rfl d_TP_readEnd_35 ?_
      refine va_get (D := (dC, dI)) (ci := 0) (v := .int tpS) (C := RBytes) (T := TBytes) (N := 2) hx hb hts in_Bytes hown hK hP 1 rfl rfl 1 (by decide) (hts (.fieldLink "ZoneFiles$TableParser" 28 "ZoneFiles$Bytes" "size" "I") m_1_40) (fun _ h9 => h9) rfl d_TP_readEnd_38 ?_
      obtain ⟨⟨z_10, z_11, z_12⟩, hc, hf⟩ := ob hf
      have hPc := hP.sub (ws' := [(h0, .inr (7, [.int w0_0, .int w0_1, .ref tTape, .ref tTable, .int tPos, .int tHas]))]) [0] rfl
      have hDc := hD.sub (ws' := [(h0, .inr (7, [.int w0_0, .int w0_1, .ref tTape, .ref tTable, .int tPos, .int tHas]))]) [0] (by decide) rfl
      have hKc := hK.sub (tys' := []) [] rfl
      have hFc := va_free (wc := [(h0, .inr (7, [.int w0_0, .int w0_1, .ref tTape, .ref tTable, .int tPos, .int tHas]))]) hD hS hA [0] rfl
      refine cl_M (v := (some (.int z_10))) (st1 := [.int z_10]) (va_runV (As := [.int 7, .int tpS]) (rest := []) ⟨hx, hb, hml, hown, hts⟩ (c_TP_fail l dC dI h0 tTape tTable H.size nf 7 tpS w0_0 w0_1 tPos tHas hc) (cwV 2 hts (gdV m_2_204 m_2_206 msel_6 m_1_19 m_2_207) rfl rfl rfl (by decide +kernel) ⟨Nat.le_trans (Nat.le_of_ble_eq_true rfl) hRf, Nat.le_trans (Nat.le_of_ble_eq_true rfl) hRl⟩) ((MU.pre hPc hKc hDc (hST.mu hS hFc)).vir (va_recv hKc hPc (ci := 7) (q0 := 0) rfl rfl)) rfl rfl hl.1 rfl (lv_room (Nat.le_of_ble_eq_true rfl)) d_TP_readEnd_41 ⟨Nat.zero_le _, Nat.zero_le _⟩) rfl hS (fun q _ h => hFc q h) hFc (fun t H1 locs ht hvm hB hz1 hk1 hS => ?_)
      obtain ⟨hP1, hK1, hD1⟩ := hB
      rw [ht] at hP1
      have hK1 := va_K.moved hvm.symm hK1
      obtain ⟨hP, hD⟩ := va_join (wr := [(tTape, .inr (0, [.ref tpR, .int tpS])), (tTable, .inr (4, [.int lCount, .ref lTi, .ref lAh, .long lExp])), (lTi, .inl (cAlTi, 60, .inr (.inl lTiA)))]) (w1 := [(h0, .inr (7, [.int z_11, .int z_12, .ref tTape, .ref tTable, .int tPos, .int tHas]))]) hP hD [0] [1, 2, 3] rfl rfl (by decide) (by decide) hk1 hFc hP1 hD1
      have hK := (hK.sub (tys' := [(cAlTi, .long)]) [0] rfl).app hK1
      generalize H1 = H at hP hS ⊢
      have hP := hP.sub (ws' := [(h0, .inr (7, [.int z_11, .int z_12, .ref tTape, .ref tTable, .int tPos, .int tHas])), (tTape, .inr (0, [.ref tpR, .int tpS])), (tTable, .inr (4, [.int lCount, .ref lTi, .ref lAh, .long lExp])), (lTi, .inl (cAlTi, 60, .inr (.inl lTiA)))]) [3, 0, 1, 2] rfl
      have hD := hD.sub (ws' := [(h0, .inr (7, [.int z_11, .int z_12, .ref tTape, .ref tTable, .int tPos, .int tHas])), (tTape, .inr (0, [.ref tpR, .int tpS])), (tTable, .inr (4, [.int lCount, .ref lTi, .ref lAh, .long lExp])), (lTi, .inl (cAlTi, 60, .inr (.inl lTiA)))]) [3, 0, 1, 2] (by decide) rfl
      have hK := hK.sub (tys' := [(cAlTi, .long)]) [0] rfl
      obtain ⟨c_13, hf⟩ := it_g hf
      cases rs hf
      exact hE _ _ _ _ d_TP_readEnd_44 (nb_of c_13) hP hD hS hK
  · have hf := it_t c_1 hf
    refine lv_aload_n hx hb d_TP_readEnd_10 rfl (lv_at hl 0 rfl) ?_
    refine lv_bipush (v := 6) hx hb d_TP_readEnd_11 (by decide) ?_
    refine lv_aload_n hx hb d_TP_readEnd_13 rfl (lv_at hl 0 rfl) ?_
    refine va_get (D := (dC, dI)) (ci := 7) (v := .ref tTape) (C := RTableParser) (T := TTableParser) (N := 6) hx hb hts in_TableParser hown hK hP 0 rfl rfl 2 (by decide) (hts (.fieldLink "ZoneFiles$TableParser" 9 "ZoneFiles$TableParser" "tape" "LZoneFiles$Bytes;") m_2_159) (fun _ h9 => h9) rfl d_TP_readEnd_14 ?_
    refine va_get (D := (dC, dI)) (ci := 0) (v := .int tpS) (C := RBytes) (T := TBytes) (N := 2) hx hb hts in_Bytes hown hK hP 1 rfl rfl 1 (by decide) (hts (.fieldLink "ZoneFiles$TableParser" 28 "ZoneFiles$Bytes" "size" "I") m_1_40) (fun _ h9 => h9) rfl d_TP_readEnd_17 ?_
    obtain ⟨⟨z_14, z_15, z_16⟩, hc, hf⟩ := ob hf
    have hPc := hP.sub (ws' := [(h0, .inr (7, [.int w0_0, .int w0_1, .ref tTape, .ref tTable, .int tPos, .int tHas]))]) [0] rfl
    have hDc := hD.sub (ws' := [(h0, .inr (7, [.int w0_0, .int w0_1, .ref tTape, .ref tTable, .int tPos, .int tHas]))]) [0] (by decide) rfl
    have hKc := hK.sub (tys' := []) [] rfl
    have hFc := va_free (wc := [(h0, .inr (7, [.int w0_0, .int w0_1, .ref tTape, .ref tTable, .int tPos, .int tHas]))]) hD hS hA [0] rfl
    refine cl_M (v := (some (.int z_14))) (st1 := [.int z_14]) (va_runV (As := [.int 6, .int tpS]) (rest := []) ⟨hx, hb, hml, hown, hts⟩ (c_TP_fail l dC dI h0 tTape tTable H.size nf 6 tpS w0_0 w0_1 tPos tHas hc) (cwV 2 hts (gdV m_2_204 m_2_206 msel_6 m_1_19 m_2_207) rfl rfl rfl (by decide +kernel) ⟨Nat.le_trans (Nat.le_of_ble_eq_true rfl) hRf, Nat.le_trans (Nat.le_of_ble_eq_true rfl) hRl⟩) ((MU.pre hPc hKc hDc (hST.mu hS hFc)).vir (va_recv hKc hPc (ci := 7) (q0 := 0) rfl rfl)) rfl rfl hl.1 rfl (lv_room (Nat.le_of_ble_eq_true rfl)) d_TP_readEnd_20 ⟨Nat.zero_le _, Nat.zero_le _⟩) rfl hS (fun q _ h => hFc q h) hFc (fun t H1 locs ht hvm hB hz1 hk1 hS => ?_)
    obtain ⟨hP1, hK1, hD1⟩ := hB
    rw [ht] at hP1
    have hK1 := va_K.moved hvm.symm hK1
    obtain ⟨hP, hD⟩ := va_join (wr := [(tTape, .inr (0, [.ref tpR, .int tpS])), (tTable, .inr (4, [.int lCount, .ref lTi, .ref lAh, .long lExp])), (lTi, .inl (cAlTi, 60, .inr (.inl lTiA)))]) (w1 := [(h0, .inr (7, [.int z_15, .int z_16, .ref tTape, .ref tTable, .int tPos, .int tHas]))]) hP hD [0] [1, 2, 3] rfl rfl (by decide) (by decide) hk1 hFc hP1 hD1
    have hK := (hK.sub (tys' := [(cAlTi, .long)]) [0] rfl).app hK1
    generalize H1 = H at hP hS ⊢
    have hP := hP.sub (ws' := [(h0, .inr (7, [.int z_15, .int z_16, .ref tTape, .ref tTable, .int tPos, .int tHas])), (tTape, .inr (0, [.ref tpR, .int tpS])), (tTable, .inr (4, [.int lCount, .ref lTi, .ref lAh, .long lExp])), (lTi, .inl (cAlTi, 60, .inr (.inl lTiA)))]) [3, 0, 1, 2] rfl
    have hD := hD.sub (ws' := [(h0, .inr (7, [.int z_15, .int z_16, .ref tTape, .ref tTable, .int tPos, .int tHas])), (tTape, .inr (0, [.ref tpR, .int tpS])), (tTable, .inr (4, [.int lCount, .ref lTi, .ref lAh, .long lExp])), (lTi, .inl (cAlTi, 60, .inr (.inl lTiA)))]) [3, 0, 1, 2] (by decide) rfl
    have hK := hK.sub (tys' := [(cAlTi, .long)]) [0] rfl
    obtain ⟨c_17, hf⟩ := it_g hf
    cases rs hf
    exact hE _ _ _ _ d_TP_readEnd_23 (nb_of c_17) hP hD hS hK
end
set_option maxHeartbeats 400000 in
set_option maxRecDepth 100000 in
theorem c_TP_readEnd (l : Launch) (dC : Nat → ClassId) (dI : Nat → Nat → Nat) (h0 : Nat) (tTape : Nat) (tTable : Nat) (tpR : Nat) (lTi : Nat) (lAh : Nat) (cAlTi : ClassId) (sz : Nat) (nf : Nat) (tFault : Int32) (tPlace : Int32) (tPos : Int32) (tHas : Int32) (tpS : Int32) (lCount : Int32) (lExp : Int64) (lTiA : Nat → Int64) {r0 : Int32} {v0_0 : Int32} {v0_1 : Int32} (hf : f_TP_readEnd nf tFault tPlace tHas tpS lCount lExp lTiA = some (r0, v0_0, v0_1)) : Met l y_TP_readEnd (wd y_TP_readEnd b_TP_readEnd 1 (some .boolean)) ({ frames := 1, cells := 0, slots := 0, locals := 22 }) (MU dC dI [(h0, .inr (7, [.int tFault, .int tPlace, .ref tTape, .ref tTable, .int tPos, .int tHas])), (tTape, .inr (0, [.ref tpR, .int tpS])), (tTable, .inr (4, [.int lCount, .ref lTi, .ref lAh, .long lExp])), (lTi, .inl (cAlTi, 60, .inr (.inl lTiA)))] [(cAlTi, .long)] sz [.ref h0]) (MV (some (.int r0)) (fun t => va_P (dC, dI) classes [(h0, .inr (7, [.int v0_0, .int v0_1, .ref tTape, .ref tTable, .int tPos, .int tHas])), (tTape, .inr (0, [.ref tpR, .int tpS])), (tTable, .inr (4, [.int lCount, .ref lTi, .ref lAh, .long lExp])), (lTi, .inl (cAlTi, 60, .inr (.inl lTiA)))] t.heap ∧ va_K (dC, dI) classes [(cAlTi, .long)] t ∧ va_D (va_A [(h0, .inr (7, [.int tFault, .int tPlace, .ref tTape, .ref tTable, .int tPos, .int tHas])), (tTape, .inr (0, [.ref tpR, .int tpS])), (tTable, .inr (4, [.int lCount, .ref lTi, .ref lAh, .long lExp])), (lTi, .inl (cAlTi, 60, .inr (.inl lTiA)))] sz) [(h0, .inr (7, [.int v0_0, .int v0_1, .ref tTape, .ref tTable, .int tPos, .int tHas])), (tTape, .inr (0, [.ref tpR, .int tpS])), (tTable, .inr (4, [.int lCount, .ref lTi, .ref lAh, .long lExp])), (lTi, .inl (cAlTi, 60, .inr (.inl lTiA)))]) (va_A [(h0, .inr (7, [.int tFault, .int tPlace, .ref tTape, .ref tTable, .int tPos, .int tHas])), (tTape, .inr (0, [.ref tpR, .int tpS])), (tTable, .inr (4, [.int lCount, .ref lTi, .ref lAh, .long lExp])), (lTi, .inl (cAlTi, 60, .inr (.inl lTiA)))] sz)) 0 0 (va_A [(h0, .inr (7, [.int tFault, .int tPlace, .ref tTape, .ref tTable, .int tPos, .int tHas])), (tTape, .inr (0, [.ref tpR, .int tpS])), (tTable, .inr (4, [.int lCount, .ref lTi, .ref lAh, .long lExp])), (lTi, .inl (cAlTi, 60, .inr (.inl lTiA)))] sz) :=
  met_M (plainFor_of_name (by decide)) (Nat.le_of_ble_eq_true rfl) (fun p e R s m args below meth c ls hRc hRs hsz hin C0 hST hK hP hD hl => by
    obtain ⟨hx, hb, hr, hml, hown, hts, hlocks, hRf, hRl⟩ := id C0
    subst hsz
    have hA : ∀ q : Nat, s.heap.size ≤ q → va_A [(h0, .inr (7, [.int tFault, .int tPlace, .ref tTape, .ref tTable, .int tPos, .int tHas])), (tTape, .inr (0, [.ref tpR, .int tpS])), (tTable, .inr (4, [.int lCount, .ref lTi, .ref lAh, .long lExp])), (lTi, .inl (cAlTi, 60, .inr (.inl lTiA)))] s.heap.size q := fun q h => Or.inr h
    have hS : va_S (va_A [(h0, .inr (7, [.int tFault, .int tPlace, .ref tTape, .ref tTable, .int tPos, .int tHas])), (tTape, .inr (0, [.ref tpR, .int tpS])), (tTable, .inr (4, [.int lCount, .ref lTi, .ref lAh, .long lExp])), (lTi, .inl (cAlTi, 60, .inr (.inl lTiA)))] s.heap.size) s.heap s.heap [] := va_S.rf
    unfold f_TP_readEnd at hf
    exact k_TP_readEnd_0 C0 hST hA (fun pc ls H locs hd hn hP hD hS hK => W.zret hx hb hr hn (fun t ht hW => ⟨⟨rfl, ⟨by rw [ht]; exact hP, va_K.moved hW.alike hK, hD⟩⟩, hS.F ht⟩) hS.2.2 hd) hf hK hP hD hS (lv_sub hl [0] rfl))
-- ZoneFiles$TableParser.<init>(LZoneFiles$Bytes;LZoneFiles$LeapTable;)V
def f_TP_init_0 (nf : Nat) : Option (Unit) :=
  some ()
def f_TP_init (nf : Nat) : Option (Unit) :=
  f_TP_init_0 nf
section
variable {p : Program} {l : Launch} {e : Env} {R : Room} {s : State} {m : MethodId} {args : Array Value} {below : List Frame} {meth : Method} {c : Code} {Q : State → Prop} {dC : Nat → ClassId} {dI : Nat → Nat → Nat} {nf : Nat} {A : Nat → Prop}
variable {h0 : Nat} {p0 : Nat} {p1 : Nat}
set_option maxHeartbeats 400000 in
set_option maxRecDepth 100000 in
theorem k_TP_init_0 (C0 : Cx p s m meth c args R b_TP_init "ZoneFiles$TableParser" 3 none 1 12) (hST : ST A s s.heap) (hA : ∀ q, s.heap.size ≤ q → A q) (hin : meth.name = "<init>") (hE : ∀ (pc : Nat) (ls : Array Slot) (H : Heap) (locs : List Loc), decode b_TP_init pc = .ok (.return_, 1) → va_P (dC, dI) classes [(h0, .inr (7, [.int 0, .int 0, .ref p0, .ref p1, .int 0, .int 0]))] H → va_D A [(h0, .inr (7, [.int 0, .int 0, .ref p0, .ref p1, .int 0, .int 0]))] → va_S A s.heap H locs → va_K (dC, dI) classes [] s → W p l e R s m args below meth c H locs 0 0 Q (F0 m pc ls [])) (hf : f_TP_init_0 nf = some ()) {H : Heap} {locs : List Loc} {ls : Array Slot} (hK : va_K (dC, dI) classes [] s) (hP : va_P (dC, dI) classes [(h0, .inr (7, [.int 0, .int 0, .null, .null, .int 0, .int 0]))] H) (hD : va_D A [(h0, .inr (7, [.int 0, .int 0, .null, .null, .int 0, .int 0]))]) (hS : va_S A s.heap H locs) (hl : lv_has ls 3 [(0, .ref h0), (1, .ref p0), (2, .ref p1)]) : W p l e R s m args below meth c H locs 0 0 Q (F0 m 0 ls []) := by
  obtain ⟨hx, hb, hr, hml, hown, hts, hlocks, hRf, hRl⟩ := id C0
  obtain ⟨tms, hZms, hTms, tmg, hZmg, hTmg, hNW⟩ := id hST
  unfold f_TP_init_0 at hf
  refine lv_aload_n hx hb d_TP_init_0 rfl (lv_at hl 0 rfl) ?_
  refine W.objInit hx hb hown (hts (.methodLink "ZoneFiles$TableParser" 3 objectInit) m_2_154) (hts (.instanceMethod objectInit) m_1_29) (hts (.code objectInit ⟨#[0xb1]⟩ 1 none) m_1_30) rfl (by rw [hml]; exact hl.1) rfl d_TP_init_1 (Nat.le_trans (Nat.le_of_ble_eq_true rfl) hRf) (Nat.le_trans (Nat.le_of_ble_eq_true rfl) hRl) ?_
  refine W.eq (g2 := F0 m 4 ls []) rfl ?_
  refine lv_aload_n hx hb d_TP_init_4 rfl (lv_at hl 0 rfl) ?_
  refine lv_aload_n hx hb d_TP_init_5 rfl (lv_at hl 1 rfl) ?_
  refine va_putF (D := (dC, dI)) (ci := 7) (v := .ref p0) (ty := .object "ZoneFiles$Bytes") (C := RTableParser) (T := TTableParser) (N := 6) hx hb hts in_TableParser tyTableParser ty_TableParser nm_TableParser hown hK hP hD hS 0 rfl rfl 2 (by decide) (hts (.fieldLink "ZoneFiles$TableParser" 9 "ZoneFiles$TableParser" "tape" "LZoneFiles$Bytes;") m_2_159) (fun _ h9 => h9) rfl hin rfl (by decide +kernel) rfl rfl (Nat.le_of_ble_eq_true rfl) d_TP_init_6 (fun H locs hP hD hS => ?_)
  have hP : va_P (dC, dI) classes [(h0, .inr (7, [.int 0, .int 0, .ref p0, .null, .int 0, .int 0]))] H := hP
  have hD : va_D A [(h0, .inr (7, [.int 0, .int 0, .ref p0, .null, .int 0, .int 0]))] := hD
  refine lv_aload_n hx hb d_TP_init_9 rfl (lv_at hl 0 rfl) ?_
  refine lv_aload_n hx hb d_TP_init_10 rfl (lv_at hl 2 rfl) ?_
  refine va_putF (D := (dC, dI)) (ci := 7) (v := .ref p1) (ty := .object "ZoneFiles$LeapTable") (C := RTableParser) (T := TTableParser) (N := 6) hx hb hts in_TableParser tyTableParser ty_TableParser nm_TableParser hown hK hP hD hS 0 rfl rfl 3 (by decide) (hts (.fieldLink "ZoneFiles$TableParser" 15 "ZoneFiles$TableParser" "table" "LZoneFiles$LeapTable;") m_2_160) (fun _ h9 => h9) rfl hin rfl (by decide +kernel) rfl rfl (Nat.le_of_ble_eq_true rfl) d_TP_init_11 (fun H locs hP hD hS => ?_)
  have hP : va_P (dC, dI) classes [(h0, .inr (7, [.int 0, .int 0, .ref p0, .ref p1, .int 0, .int 0]))] H := hP
  have hD : va_D A [(h0, .inr (7, [.int 0, .int 0, .ref p0, .ref p1, .int 0, .int 0]))] := hD
  cases rs hf
  exact hE _ _ _ _ d_TP_init_14 hP hD hS hK
end
set_option maxHeartbeats 400000 in
set_option maxRecDepth 100000 in
theorem c_TP_init (l : Launch) (dC : Nat → ClassId) (dI : Nat → Nat → Nat) (h0 : Nat) (p0 : Nat) (p1 : Nat) (sz : Nat) (nf : Nat) (hf : f_TP_init nf = some ()) : Met l y_TP_init (wd y_TP_init b_TP_init 3 none) ({ frames := 1, cells := 0, slots := 0, locals := 12 }) (MU dC dI [(h0, .inr (7, [.int 0, .int 0, .null, .null, .int 0, .int 0]))] [] sz [.ref h0, .ref p0, .ref p1]) (MV none (fun t => va_P (dC, dI) classes [(h0, .inr (7, [.int 0, .int 0, .ref p0, .ref p1, .int 0, .int 0]))] t.heap ∧ va_K (dC, dI) classes [] t ∧ va_D (va_A [(h0, .inr (7, [.int 0, .int 0, .null, .null, .int 0, .int 0]))] sz) [(h0, .inr (7, [.int 0, .int 0, .ref p0, .ref p1, .int 0, .int 0]))]) (va_A [(h0, .inr (7, [.int 0, .int 0, .null, .null, .int 0, .int 0]))] sz)) 0 0 (va_A [(h0, .inr (7, [.int 0, .int 0, .null, .null, .int 0, .int 0]))] sz) :=
  met_M (plainFor_of_name (by decide)) (Nat.le_of_ble_eq_true rfl) (fun p e R s m args below meth c ls hRc hRs hsz hin C0 hST hK hP hD hl => by
    obtain ⟨hx, hb, hr, hml, hown, hts, hlocks, hRf, hRl⟩ := id C0
    subst hsz
    have hA : ∀ q : Nat, s.heap.size ≤ q → va_A [(h0, .inr (7, [.int 0, .int 0, .null, .null, .int 0, .int 0]))] s.heap.size q := fun q h => Or.inr h
    have hS : va_S (va_A [(h0, .inr (7, [.int 0, .int 0, .null, .null, .int 0, .int 0]))] s.heap.size) s.heap s.heap [] := va_S.rf
    unfold f_TP_init at hf
    exact k_TP_init_0 C0 hST hA (hin rfl) (fun pc ls H locs hd hP hD hS hK => W.vret hx hb hr (fun t ht hW => ⟨⟨rfl, ⟨by rw [ht]; exact hP, va_K.moved hW.alike hK, hD⟩⟩, hS.F ht⟩) hS.2.2 hd) hf hK hP hD hS (lv_sub hl [0, 1, 2] rfl))
