theorem m_7_126 : Cond.methodLink "ZoneFilesModel" 272 ⟨"ZoneFilesModel", "header", "(Z)Z"⟩ ∈ T0 := tb_7 126 rfl rfl
theorem m_7_128 : Cond.instanceMethod ⟨"ZoneFilesModel", "header", "(Z)Z"⟩ ∈ T0 := tb_7 128 rfl rfl
theorem m_7_129 : Cond.code ⟨"ZoneFilesModel", "header", "(Z)Z"⟩ prog_14_method_23_code 6 (some .boolean) ∈ T0 := tb_7 129 rfl rfl
theorem m_7_143 : Cond.methodLink "ZoneFilesModel" 276 ⟨"ZoneFilesModel", "block", "(I)Z"⟩ ∈ T0 := tb_7 143 rfl rfl
theorem m_7_145 : Cond.instanceMethod ⟨"ZoneFilesModel", "block", "(I)Z"⟩ ∈ T0 := tb_7 145 rfl rfl
theorem m_7_146 : Cond.code ⟨"ZoneFilesModel", "block", "(I)Z"⟩ prog_14_method_25_code 3 (some .boolean) ∈ T0 := tb_7 146 rfl rfl
theorem m_7_147 : Cond.methodLink "ZoneFilesModel" 228 ⟨"ZoneFilesModel", "timeRows", "(I)Z"⟩ ∈ T0 := tb_7 147 rfl rfl
theorem m_7_149 : Cond.instanceMethod ⟨"ZoneFilesModel", "timeRows", "(I)Z"⟩ ∈ T0 := tb_7 149 rfl rfl
theorem m_7_150 : Cond.code ⟨"ZoneFilesModel", "timeRows", "(I)Z"⟩ prog_14_method_26_code 7 (some .boolean) ∈ T0 := tb_7 150 rfl rfl
theorem m_7_159 : Cond.methodLink "ZoneFilesModel" 251 ⟨"ZoneFilesModel", "isInstant", "(J)Z"⟩ ∈ T0 := tb_7 159 rfl rfl
theorem m_7_160 : Cond.static ⟨"ZoneFilesModel", "isInstant", "(J)Z"⟩ ∈ T0 := tb_7 160 rfl rfl
theorem m_7_161 : Cond.code ⟨"ZoneFilesModel", "isInstant", "(J)Z"⟩ prog_14_method_41_code 2 (some .boolean) ∈ T0 := tb_7 161 rfl rfl
theorem m_7_164 : Cond.methodLink "ZoneFilesModel" 231 ⟨"ZoneFilesModel", "typeRows", "()Z"⟩ ∈ T0 := tb_7 164 rfl rfl
theorem m_7_166 : Cond.instanceMethod ⟨"ZoneFilesModel", "typeRows", "()Z"⟩ ∈ T0 := tb_7 166 rfl rfl
theorem m_7_167 : Cond.code ⟨"ZoneFilesModel", "typeRows", "()Z"⟩ prog_14_method_27_code 5 (some .boolean) ∈ T0 := tb_7 167 rfl rfl
theorem m_7_168 : Cond.constantLong "ZoneFilesModel" 254 6 ∈ T0 := tb_7 168 rfl rfl
theorem m_7_169 : Cond.constantLong "ZoneFilesModel" 256 (-89999) ∈ T0 := tb_7 169 rfl rfl
theorem m_7_170 : Cond.constantLong "ZoneFilesModel" 258 93599 ∈ T0 := tb_7 170 rfl rfl
theorem m_7_171 : Cond.methodLink "ZoneFilesModel" 235 ⟨"ZoneFilesModel", "nameRows", "()Z"⟩ ∈ T0 := tb_7 171 rfl rfl
theorem m_7_173 : Cond.instanceMethod ⟨"ZoneFilesModel", "nameRows", "()Z"⟩ ∈ T0 := tb_7 173 rfl rfl
theorem m_7_174 : Cond.code ⟨"ZoneFilesModel", "nameRows", "()Z"⟩ prog_14_method_29_code 7 (some .boolean) ∈ T0 := tb_7 174 rfl rfl
theorem m_7_179 : Cond.methodLink "ZoneFilesModel" 238 ⟨"ZoneFilesModel", "leapRows", "(I)Z"⟩ ∈ T0 := tb_7 179 rfl rfl
theorem m_7_181 : Cond.instanceMethod ⟨"ZoneFilesModel", "leapRows", "(I)Z"⟩ ∈ T0 := tb_7 181 rfl rfl
theorem m_7_182 : Cond.code ⟨"ZoneFilesModel", "leapRows", "(I)Z"⟩ prog_14_method_30_code 11 (some .boolean) ∈ T0 := tb_7 182 rfl rfl
theorem m_7_186 : Cond.methodLink "ZoneFilesModel" 241 ⟨"ZoneFilesModel", "flagRows", "()Z"⟩ ∈ T0 := tb_7 186 rfl rfl
theorem m_7_188 : Cond.instanceMethod ⟨"ZoneFilesModel", "flagRows", "()Z"⟩ ∈ T0 := tb_7 188 rfl rfl
theorem m_7_189 : Cond.code ⟨"ZoneFilesModel", "flagRows", "()Z"⟩ prog_14_method_31_code 4 (some .boolean) ∈ T0 := tb_7 189 rfl rfl
theorem m_7_190 : Cond.constantLong "ZoneFilesModel" 279 5 ∈ T0 := tb_7 190 rfl rfl
theorem m_7_191 : Cond.constantLong "ZoneFilesModel" 281 8 ∈ T0 := tb_7 191 rfl rfl
theorem m_7_192 : Cond.methodLink "ZoneFilesModel" 283 ⟨"ZoneFilesModel", "footer", "()Z"⟩ ∈ T0 := tb_7 192 rfl rfl
theorem m_7_194 : Cond.instanceMethod ⟨"ZoneFilesModel", "footer", "()Z"⟩ ∈ T0 := tb_7 194 rfl rfl
theorem m_7_195 : Cond.code ⟨"ZoneFilesModel", "footer", "()Z"⟩ prog_14_method_32_code 5 (some .boolean) ∈ T0 := tb_7 195 rfl rfl
theorem m_7_224 : Cond.constantLong "ZoneFilesModel" 335 86400 ∈ T0 := tb_7 224 rfl rfl
theorem m_7_225 : Cond.methodLink "ZoneFilesModel" 292 ⟨"ZoneFilesModel", "floor", "(JJ)J"⟩ ∈ T0 := tb_7 225 rfl rfl
theorem m_7_226 : Cond.static ⟨"ZoneFilesModel", "floor", "(JJ)J"⟩ ∈ T0 := tb_7 226 rfl rfl
theorem m_7_227 : Cond.code ⟨"ZoneFilesModel", "floor", "(JJ)J"⟩ prog_14_method_35_code 6 (some .long) ∈ T0 := tb_7 227 rfl rfl
theorem m_7_228 : Cond.methodLink "ZoneFilesModel" 337 ⟨"ZoneFilesModel", "date", "(J)V"⟩ ∈ T0 := tb_7 228 rfl rfl
theorem m_7_230 : Cond.instanceMethod ⟨"ZoneFilesModel", "date", "(J)V"⟩ ∈ T0 := tb_7 230 rfl rfl
theorem m_7_231 : Cond.code ⟨"ZoneFilesModel", "date", "(J)V"⟩ prog_14_method_39_code 14 none ∈ T0 := tb_7 231 rfl rfl
theorem m_7_232 : Cond.constantLong "ZoneFilesModel" 311 719468 ∈ T0 := tb_7 232 rfl rfl
theorem m_7_233 : Cond.constantLong "ZoneFilesModel" 307 146097 ∈ T0 := tb_7 233 rfl rfl
theorem m_7_234 : Cond.constantLong "ZoneFilesModel" 313 1460 ∈ T0 := tb_7 234 rfl rfl
theorem m_7_235 : Cond.constantLong "ZoneFilesModel" 315 36524 ∈ T0 := tb_7 235 rfl rfl
theorem m_7_236 : Cond.constantLong "ZoneFilesModel" 317 146096 ∈ T0 := tb_7 236 rfl rfl
theorem m_7_237 : Cond.constantLong "ZoneFilesModel" 309 365 ∈ T0 := tb_7 237 rfl rfl
theorem m_7_238 : Cond.constantLong "ZoneFilesModel" 296 100 ∈ T0 := tb_7 238 rfl rfl
theorem m_7_239 : Cond.constantLong "ZoneFilesModel" 305 2 ∈ T0 := tb_7 239 rfl rfl
theorem m_8_0 : Cond.constantLong "ZoneFilesModel" 303 153 ∈ T0 := tb_8 0 rfl rfl
theorem m_8_1 : Cond.constantLong "ZoneFilesModel" 298 400 ∈ T0 := tb_8 1 rfl rfl
theorem m_8_7 : Cond.methodLink "ZoneFilesModel" 362 ⟨"ZoneFilesModel", "ruleDay", "(IJ)J"⟩ ∈ T0 := tb_8 7 rfl rfl
theorem m_8_9 : Cond.instanceMethod ⟨"ZoneFilesModel", "ruleDay", "(IJ)J"⟩ ∈ T0 := tb_8 9 rfl rfl
theorem m_8_10 : Cond.code ⟨"ZoneFilesModel", "ruleDay", "(IJ)J"⟩ prog_14_method_44_code 10 (some .long) ∈ T0 := tb_8 10 rfl rfl
theorem m_8_11 : Cond.methodLink "ZoneFilesModel" 349 ⟨"ZoneFilesModel", "days", "(JII)J"⟩ ∈ T0 := tb_8 11 rfl rfl
theorem m_8_12 : Cond.static ⟨"ZoneFilesModel", "days", "(JII)J"⟩ ∈ T0 := tb_8 12 rfl rfl
theorem m_8_13 : Cond.code ⟨"ZoneFilesModel", "days", "(JII)J"⟩ prog_14_method_38_code 12 (some .long) ∈ T0 := tb_8 13 rfl rfl
theorem m_8_14 : Cond.methodLink "ZoneFilesModel" 300 ⟨"ZoneFilesModel", "isLong", "(J)Z"⟩ ∈ T0 := tb_8 14 rfl rfl
theorem m_8_15 : Cond.static ⟨"ZoneFilesModel", "isLong", "(J)Z"⟩ ∈ T0 := tb_8 15 rfl rfl
theorem m_8_16 : Cond.code ⟨"ZoneFilesModel", "isLong", "(J)Z"⟩ prog_14_method_36_code 2 (some .boolean) ∈ T0 := tb_8 16 rfl rfl
theorem m_8_17 : Cond.methodLink "ZoneFilesModel" 345 ⟨"ZoneFilesModel", "weekday", "(J)I"⟩ ∈ T0 := tb_8 17 rfl rfl
theorem m_8_18 : Cond.static ⟨"ZoneFilesModel", "weekday", "(J)I"⟩ ∈ T0 := tb_8 18 rfl rfl
theorem m_8_19 : Cond.code ⟨"ZoneFilesModel", "weekday", "(J)I"⟩ prog_14_method_40_code 4 (some .int) ∈ T0 := tb_8 19 rfl rfl
theorem m_8_20 : Cond.constantLong "ZoneFilesModel" 329 7 ∈ T0 := tb_8 20 rfl rfl
theorem m_8_21 : Cond.methodLink "ZoneFilesModel" 357 ⟨"ZoneFilesModel", "length", "(JI)I"⟩ ∈ T0 := tb_8 21 rfl rfl
theorem m_8_22 : Cond.static ⟨"ZoneFilesModel", "length", "(JI)I"⟩ ∈ T0 := tb_8 22 rfl rfl
theorem m_8_23 : Cond.code ⟨"ZoneFilesModel", "length", "(JI)I"⟩ prog_14_method_37_code 3 (some .int) ∈ T0 := tb_8 23 rfl rfl
theorem msel_59 : Cond.selects "ZoneFilesModel" ⟨"ZoneFilesModel", "header", "(Z)Z"⟩ ⟨"ZoneFilesModel", "header", "(Z)Z"⟩ ∈ T0 := ps_4 (q := (⟨"ZoneFilesModel", "header", "(Z)Z"⟩, 72)) 11 rfl
theorem msel_62 : Cond.selects "ZoneFilesModel" ⟨"ZoneFilesModel", "block", "(I)Z"⟩ ⟨"ZoneFilesModel", "block", "(I)Z"⟩ ∈ T0 := ps_4 (q := (⟨"ZoneFilesModel", "block", "(I)Z"⟩, 72)) 14 rfl
theorem msel_63 : Cond.selects "ZoneFilesModel" ⟨"ZoneFilesModel", "timeRows", "(I)Z"⟩ ⟨"ZoneFilesModel", "timeRows", "(I)Z"⟩ ∈ T0 := ps_4 (q := (⟨"ZoneFilesModel", "timeRows", "(I)Z"⟩, 72)) 15 rfl
theorem msel_66 : Cond.selects "ZoneFilesModel" ⟨"ZoneFilesModel", "typeRows", "()Z"⟩ ⟨"ZoneFilesModel", "typeRows", "()Z"⟩ ∈ T0 := ps_5 (q := (⟨"ZoneFilesModel", "typeRows", "()Z"⟩, 72)) 2 rfl
theorem msel_67 : Cond.selects "ZoneFilesModel" ⟨"ZoneFilesModel", "nameRows", "()Z"⟩ ⟨"ZoneFilesModel", "nameRows", "()Z"⟩ ∈ T0 := ps_5 (q := (⟨"ZoneFilesModel", "nameRows", "()Z"⟩, 72)) 3 rfl
theorem msel_69 : Cond.selects "ZoneFilesModel" ⟨"ZoneFilesModel", "leapRows", "(I)Z"⟩ ⟨"ZoneFilesModel", "leapRows", "(I)Z"⟩ ∈ T0 := ps_5 (q := (⟨"ZoneFilesModel", "leapRows", "(I)Z"⟩, 72)) 5 rfl
theorem msel_70 : Cond.selects "ZoneFilesModel" ⟨"ZoneFilesModel", "flagRows", "()Z"⟩ ⟨"ZoneFilesModel", "flagRows", "()Z"⟩ ∈ T0 := ps_5 (q := (⟨"ZoneFilesModel", "flagRows", "()Z"⟩, 72)) 6 rfl
theorem msel_71 : Cond.selects "ZoneFilesModel" ⟨"ZoneFilesModel", "footer", "()Z"⟩ ⟨"ZoneFilesModel", "footer", "()Z"⟩ ∈ T0 := ps_5 (q := (⟨"ZoneFilesModel", "footer", "()Z"⟩, 72)) 7 rfl
theorem msel_79 : Cond.selects "ZoneFilesModel" ⟨"ZoneFilesModel", "date", "(J)V"⟩ ⟨"ZoneFilesModel", "date", "(J)V"⟩ ∈ T0 := ps_5 (q := (⟨"ZoneFilesModel", "date", "(J)V"⟩, 72)) 15 rfl
theorem msel_81 : Cond.selects "ZoneFilesModel" ⟨"ZoneFilesModel", "ruleDay", "(IJ)J"⟩ ⟨"ZoneFilesModel", "ruleDay", "(IJ)J"⟩ ∈ T0 := ps_6 (q := (⟨"ZoneFilesModel", "ruleDay", "(IJ)J"⟩, 72)) 1 rfl
abbrev b_Mo_timeRows : ByteArray := prog_14_method_26_code
def y_Mo_timeRows : MethodName := ⟨"ZoneFilesModel", "timeRows", "(I)Z"⟩
theorem d_Mo_timeRows_0 : decode b_Mo_timeRows 0 = .ok (.iconst 4, 1) := by decide +kernel
theorem d_Mo_timeRows_1 : decode b_Mo_timeRows 1 = .ok (.istore_n 2, 1) := by decide +kernel
theorem d_Mo_timeRows_2 : decode b_Mo_timeRows 2 = .ok (.aload_n 0, 1) := by decide +kernel
theorem d_Mo_timeRows_3 : decode b_Mo_timeRows 3 = .ok (.getfield 20, 3) := by decide +kernel
theorem d_Mo_timeRows_6 : decode b_Mo_timeRows 6 = .ok (.iload_n 2, 1) := by decide +kernel
theorem d_Mo_timeRows_7 : decode b_Mo_timeRows 7 = .ok (.iaload, 1) := by decide +kernel
theorem d_Mo_timeRows_8 : decode b_Mo_timeRows 8 = .ok (.istore_n 3, 1) := by decide +kernel
theorem d_Mo_timeRows_9 : decode b_Mo_timeRows 9 = .ok (.aload_n 0, 1) := by decide +kernel
theorem d_Mo_timeRows_10 : decode b_Mo_timeRows 10 = .ok (.iload_n 1, 1) := by decide +kernel
theorem d_Mo_timeRows_11 : decode b_Mo_timeRows 11 = .ok (.i2l, 1) := by decide +kernel
theorem d_Mo_timeRows_12 : decode b_Mo_timeRows 12 = .ok (.iload_n 3, 1) := by decide +kernel
theorem d_Mo_timeRows_13 : decode b_Mo_timeRows 13 = .ok (.i2l, 1) := by decide +kernel
theorem d_Mo_timeRows_14 : decode b_Mo_timeRows 14 = .ok (.lmul, 1) := by decide +kernel
theorem d_Mo_timeRows_15 : decode b_Mo_timeRows 15 = .ok (.invokevirtual 244, 3) := by decide +kernel
theorem d_Mo_timeRows_18 : decode b_Mo_timeRows 18 = .ok (.ifCond .ne 5, 3) := by decide +kernel
theorem d_Mo_timeRows_21 : decode b_Mo_timeRows 21 = .ok (.iconst 0, 1) := by decide +kernel
theorem d_Mo_timeRows_22 : decode b_Mo_timeRows 22 = .ok (.ireturn, 1) := by decide +kernel
theorem d_Mo_timeRows_23 : decode b_Mo_timeRows 23 = .ok (.iconst 0, 1) := by decide +kernel
theorem d_Mo_timeRows_24 : decode b_Mo_timeRows 24 = .ok (.istore 4, 2) := by decide +kernel
theorem d_Mo_timeRows_26 : decode b_Mo_timeRows 26 = .ok (.iload 4, 2) := by decide +kernel
theorem d_Mo_timeRows_28 : decode b_Mo_timeRows 28 = .ok (.iload_n 3, 1) := by decide +kernel
theorem d_Mo_timeRows_29 : decode b_Mo_timeRows 29 = .ok (.if_icmp .ge 89, 3) := by decide +kernel
theorem d_Mo_timeRows_32 : decode b_Mo_timeRows 32 = .ok (.aload_n 0, 1) := by decide +kernel
theorem d_Mo_timeRows_33 : decode b_Mo_timeRows 33 = .ok (.aload_n 0, 1) := by decide +kernel
theorem d_Mo_timeRows_34 : decode b_Mo_timeRows 34 = .ok (.getfield 155, 3) := by decide +kernel
theorem d_Mo_timeRows_37 : decode b_Mo_timeRows 37 = .ok (.iload_n 1, 1) := by decide +kernel
theorem d_Mo_timeRows_38 : decode b_Mo_timeRows 38 = .ok (.invokevirtual 248, 3) := by decide +kernel
theorem d_Mo_timeRows_41 : decode b_Mo_timeRows 41 = .ok (.lstore 5, 2) := by decide +kernel
theorem d_Mo_timeRows_43 : decode b_Mo_timeRows 43 = .ok (.lload 5, 2) := by decide +kernel
theorem d_Mo_timeRows_45 : decode b_Mo_timeRows 45 = .ok (.invokestatic 251, 3) := by decide +kernel
theorem d_Mo_timeRows_48 : decode b_Mo_timeRows 48 = .ok (.ifCond .eq 29, 3) := by decide +kernel
theorem d_Mo_timeRows_51 : decode b_Mo_timeRows 51 = .ok (.iload 4, 2) := by decide +kernel
theorem d_Mo_timeRows_53 : decode b_Mo_timeRows 53 = .ok (.ifCond .le 34, 3) := by decide +kernel
theorem d_Mo_timeRows_56 : decode b_Mo_timeRows 56 = .ok (.lload 5, 2) := by decide +kernel
theorem d_Mo_timeRows_58 : decode b_Mo_timeRows 58 = .ok (.aload_n 0, 1) := by decide +kernel
theorem d_Mo_timeRows_59 : decode b_Mo_timeRows 59 = .ok (.getfield 41, 3) := by decide +kernel
theorem d_Mo_timeRows_62 : decode b_Mo_timeRows 62 = .ok (.sipush 200, 3) := by decide +kernel
theorem d_Mo_timeRows_65 : decode b_Mo_timeRows 65 = .ok (.iload_n 2, 1) := by decide +kernel
theorem d_Mo_timeRows_66 : decode b_Mo_timeRows 66 = .ok (.imul, 1) := by decide +kernel
theorem d_Mo_timeRows_67 : decode b_Mo_timeRows 67 = .ok (.iload 4, 2) := by decide +kernel
theorem d_Mo_timeRows_69 : decode b_Mo_timeRows 69 = .ok (.iadd, 1) := by decide +kernel
theorem d_Mo_timeRows_70 : decode b_Mo_timeRows 70 = .ok (.iconst 1, 1) := by decide +kernel
theorem d_Mo_timeRows_71 : decode b_Mo_timeRows 71 = .ok (.isub, 1) := by decide +kernel
theorem d_Mo_timeRows_72 : decode b_Mo_timeRows 72 = .ok (.laload, 1) := by decide +kernel
theorem d_Mo_timeRows_73 : decode b_Mo_timeRows 73 = .ok (.lcmp, 1) := by decide +kernel
theorem d_Mo_timeRows_74 : decode b_Mo_timeRows 74 = .ok (.ifCond .gt 13, 3) := by decide +kernel
theorem d_Mo_timeRows_77 : decode b_Mo_timeRows 77 = .ok (.aload_n 0, 1) := by decide +kernel
theorem d_Mo_timeRows_78 : decode b_Mo_timeRows 78 = .ok (.iconst 5, 1) := by decide +kernel
theorem d_Mo_timeRows_79 : decode b_Mo_timeRows 79 = .ok (.aload_n 0, 1) := by decide +kernel
theorem d_Mo_timeRows_80 : decode b_Mo_timeRows 80 = .ok (.getfield 155, 3) := by decide +kernel
theorem d_Mo_timeRows_83 : decode b_Mo_timeRows 83 = .ok (.invokevirtual 217, 3) := by decide +kernel
theorem d_Mo_timeRows_86 : decode b_Mo_timeRows 86 = .ok (.ireturn, 1) := by decide +kernel
theorem d_Mo_timeRows_87 : decode b_Mo_timeRows 87 = .ok (.aload_n 0, 1) := by decide +kernel
theorem d_Mo_timeRows_88 : decode b_Mo_timeRows 88 = .ok (.getfield 41, 3) := by decide +kernel
theorem d_Mo_timeRows_91 : decode b_Mo_timeRows 91 = .ok (.sipush 200, 3) := by decide +kernel
theorem d_Mo_timeRows_94 : decode b_Mo_timeRows 94 = .ok (.iload_n 2, 1) := by decide +kernel
theorem d_Mo_timeRows_95 : decode b_Mo_timeRows 95 = .ok (.imul, 1) := by decide +kernel
theorem d_Mo_timeRows_96 : decode b_Mo_timeRows 96 = .ok (.iload 4, 2) := by decide +kernel
theorem d_Mo_timeRows_98 : decode b_Mo_timeRows 98 = .ok (.iadd, 1) := by decide +kernel
theorem d_Mo_timeRows_99 : decode b_Mo_timeRows 99 = .ok (.lload 5, 2) := by decide +kernel
theorem d_Mo_timeRows_101 : decode b_Mo_timeRows 101 = .ok (.lastore, 1) := by decide +kernel
theorem d_Mo_timeRows_102 : decode b_Mo_timeRows 102 = .ok (.aload_n 0, 1) := by decide +kernel
theorem d_Mo_timeRows_103 : decode b_Mo_timeRows 103 = .ok (.dup, 1) := by decide +kernel
theorem d_Mo_timeRows_104 : decode b_Mo_timeRows 104 = .ok (.getfield 155, 3) := by decide +kernel
theorem d_Mo_timeRows_107 : decode b_Mo_timeRows 107 = .ok (.iload_n 1, 1) := by decide +kernel
theorem d_Mo_timeRows_108 : decode b_Mo_timeRows 108 = .ok (.iadd, 1) := by decide +kernel
theorem d_Mo_timeRows_109 : decode b_Mo_timeRows 109 = .ok (.putfield 155, 3) := by decide +kernel
theorem d_Mo_timeRows_112 : decode b_Mo_timeRows 112 = .ok (.iinc 4 1, 3) := by decide +kernel
theorem d_Mo_timeRows_115 : decode b_Mo_timeRows 115 = .ok (.goto (-89), 3) := by decide +kernel
theorem d_Mo_timeRows_118 : decode b_Mo_timeRows 118 = .ok (.aload_n 0, 1) := by decide +kernel
theorem d_Mo_timeRows_119 : decode b_Mo_timeRows 119 = .ok (.iload_n 3, 1) := by decide +kernel
theorem d_Mo_timeRows_120 : decode b_Mo_timeRows 120 = .ok (.i2l, 1) := by decide +kernel
theorem d_Mo_timeRows_121 : decode b_Mo_timeRows 121 = .ok (.invokevirtual 244, 3) := by decide +kernel
theorem d_Mo_timeRows_124 : decode b_Mo_timeRows 124 = .ok (.ifCond .ne 5, 3) := by decide +kernel
theorem d_Mo_timeRows_127 : decode b_Mo_timeRows 127 = .ok (.iconst 0, 1) := by decide +kernel
theorem d_Mo_timeRows_128 : decode b_Mo_timeRows 128 = .ok (.ireturn, 1) := by decide +kernel
theorem d_Mo_timeRows_129 : decode b_Mo_timeRows 129 = .ok (.iconst 0, 1) := by decide +kernel
theorem d_Mo_timeRows_130 : decode b_Mo_timeRows 130 = .ok (.istore 4, 2) := by decide +kernel
theorem d_Mo_timeRows_132 : decode b_Mo_timeRows 132 = .ok (.iload 4, 2) := by decide +kernel
theorem d_Mo_timeRows_134 : decode b_Mo_timeRows 134 = .ok (.iload_n 3, 1) := by decide +kernel
theorem d_Mo_timeRows_135 : decode b_Mo_timeRows 135 = .ok (.if_icmp .ge 70, 3) := by decide +kernel
theorem d_Mo_timeRows_138 : decode b_Mo_timeRows 138 = .ok (.aload_n 0, 1) := by decide +kernel
theorem d_Mo_timeRows_139 : decode b_Mo_timeRows 139 = .ok (.getfield 7, 3) := by decide +kernel
theorem d_Mo_timeRows_142 : decode b_Mo_timeRows 142 = .ok (.aload_n 0, 1) := by decide +kernel
theorem d_Mo_timeRows_143 : decode b_Mo_timeRows 143 = .ok (.getfield 155, 3) := by decide +kernel
theorem d_Mo_timeRows_146 : decode b_Mo_timeRows 146 = .ok (.iaload, 1) := by decide +kernel
theorem d_Mo_timeRows_147 : decode b_Mo_timeRows 147 = .ok (.aload_n 0, 1) := by decide +kernel
theorem d_Mo_timeRows_148 : decode b_Mo_timeRows 148 = .ok (.getfield 23, 3) := by decide +kernel
theorem d_Mo_timeRows_151 : decode b_Mo_timeRows 151 = .ok (.iload_n 2, 1) := by decide +kernel
theorem d_Mo_timeRows_152 : decode b_Mo_timeRows 152 = .ok (.iaload, 1) := by decide +kernel
theorem d_Mo_timeRows_153 : decode b_Mo_timeRows 153 = .ok (.if_icmp .lt 14, 3) := by decide +kernel
theorem d_Mo_timeRows_156 : decode b_Mo_timeRows 156 = .ok (.aload_n 0, 1) := by decide +kernel
theorem d_Mo_timeRows_157 : decode b_Mo_timeRows 157 = .ok (.bipush 6, 2) := by decide +kernel
theorem d_Mo_timeRows_159 : decode b_Mo_timeRows 159 = .ok (.aload_n 0, 1) := by decide +kernel
theorem d_Mo_timeRows_160 : decode b_Mo_timeRows 160 = .ok (.getfield 155, 3) := by decide +kernel
theorem d_Mo_timeRows_163 : decode b_Mo_timeRows 163 = .ok (.invokevirtual 217, 3) := by decide +kernel
theorem d_Mo_timeRows_166 : decode b_Mo_timeRows 166 = .ok (.ireturn, 1) := by decide +kernel
theorem d_Mo_timeRows_167 : decode b_Mo_timeRows 167 = .ok (.aload_n 0, 1) := by decide +kernel
theorem d_Mo_timeRows_168 : decode b_Mo_timeRows 168 = .ok (.getfield 45, 3) := by decide +kernel
theorem d_Mo_timeRows_171 : decode b_Mo_timeRows 171 = .ok (.sipush 200, 3) := by decide +kernel
theorem d_Mo_timeRows_174 : decode b_Mo_timeRows 174 = .ok (.iload_n 2, 1) := by decide +kernel
theorem d_Mo_timeRows_175 : decode b_Mo_timeRows 175 = .ok (.imul, 1) := by decide +kernel
theorem d_Mo_timeRows_176 : decode b_Mo_timeRows 176 = .ok (.iload 4, 2) := by decide +kernel
theorem d_Mo_timeRows_178 : decode b_Mo_timeRows 178 = .ok (.iadd, 1) := by decide +kernel
theorem d_Mo_timeRows_179 : decode b_Mo_timeRows 179 = .ok (.aload_n 0, 1) := by decide +kernel
theorem d_Mo_timeRows_180 : decode b_Mo_timeRows 180 = .ok (.getfield 7, 3) := by decide +kernel
theorem d_Mo_timeRows_183 : decode b_Mo_timeRows 183 = .ok (.aload_n 0, 1) := by decide +kernel
theorem d_Mo_timeRows_184 : decode b_Mo_timeRows 184 = .ok (.getfield 155, 3) := by decide +kernel
theorem d_Mo_timeRows_187 : decode b_Mo_timeRows 187 = .ok (.iaload, 1) := by decide +kernel
theorem d_Mo_timeRows_188 : decode b_Mo_timeRows 188 = .ok (.iastore, 1) := by decide +kernel
theorem d_Mo_timeRows_189 : decode b_Mo_timeRows 189 = .ok (.aload_n 0, 1) := by decide +kernel
theorem d_Mo_timeRows_190 : decode b_Mo_timeRows 190 = .ok (.dup, 1) := by decide +kernel
theorem d_Mo_timeRows_191 : decode b_Mo_timeRows 191 = .ok (.getfield 155, 3) := by decide +kernel
theorem d_Mo_timeRows_194 : decode b_Mo_timeRows 194 = .ok (.iconst 1, 1) := by decide +kernel
theorem d_Mo_timeRows_195 : decode b_Mo_timeRows 195 = .ok (.iadd, 1) := by decide +kernel
theorem d_Mo_timeRows_196 : decode b_Mo_timeRows 196 = .ok (.putfield 155, 3) := by decide +kernel
theorem d_Mo_timeRows_199 : decode b_Mo_timeRows 199 = .ok (.iinc 4 1, 3) := by decide +kernel
theorem d_Mo_timeRows_202 : decode b_Mo_timeRows 202 = .ok (.goto (-70), 3) := by decide +kernel
theorem d_Mo_timeRows_205 : decode b_Mo_timeRows 205 = .ok (.iconst 1, 1) := by decide +kernel
theorem d_Mo_timeRows_206 : decode b_Mo_timeRows 206 = .ok (.ireturn, 1) := by decide +kernel
abbrev b_Mo_typeRows : ByteArray := prog_14_method_27_code
def y_Mo_typeRows : MethodName := ⟨"ZoneFilesModel", "typeRows", "()Z"⟩
theorem d_Mo_typeRows_0 : decode b_Mo_typeRows 0 = .ok (.iconst 4, 1) := by decide +kernel
theorem d_Mo_typeRows_1 : decode b_Mo_typeRows 1 = .ok (.istore_n 1, 1) := by decide +kernel
theorem d_Mo_typeRows_2 : decode b_Mo_typeRows 2 = .ok (.aload_n 0, 1) := by decide +kernel
theorem d_Mo_typeRows_3 : decode b_Mo_typeRows 3 = .ok (.ldc2_w 254, 3) := by decide +kernel
theorem d_Mo_typeRows_6 : decode b_Mo_typeRows 6 = .ok (.aload_n 0, 1) := by decide +kernel
theorem d_Mo_typeRows_7 : decode b_Mo_typeRows 7 = .ok (.getfield 23, 3) := by decide +kernel
theorem d_Mo_typeRows_10 : decode b_Mo_typeRows 10 = .ok (.iload_n 1, 1) := by decide +kernel
theorem d_Mo_typeRows_11 : decode b_Mo_typeRows 11 = .ok (.iaload, 1) := by decide +kernel
theorem d_Mo_typeRows_12 : decode b_Mo_typeRows 12 = .ok (.i2l, 1) := by decide +kernel
theorem d_Mo_typeRows_13 : decode b_Mo_typeRows 13 = .ok (.lmul, 1) := by decide +kernel
theorem d_Mo_typeRows_14 : decode b_Mo_typeRows 14 = .ok (.invokevirtual 244, 3) := by decide +kernel
theorem d_Mo_typeRows_17 : decode b_Mo_typeRows 17 = .ok (.ifCond .ne 5, 3) := by decide +kernel
theorem d_Mo_typeRows_20 : decode b_Mo_typeRows 20 = .ok (.iconst 0, 1) := by decide +kernel
theorem d_Mo_typeRows_21 : decode b_Mo_typeRows 21 = .ok (.ireturn, 1) := by decide +kernel
theorem d_Mo_typeRows_22 : decode b_Mo_typeRows 22 = .ok (.iconst 0, 1) := by decide +kernel
theorem d_Mo_typeRows_23 : decode b_Mo_typeRows 23 = .ok (.istore_n 2, 1) := by decide +kernel
theorem d_Mo_typeRows_24 : decode b_Mo_typeRows 24 = .ok (.iload_n 2, 1) := by decide +kernel
theorem d_Mo_typeRows_25 : decode b_Mo_typeRows 25 = .ok (.aload_n 0, 1) := by decide +kernel
theorem d_Mo_typeRows_26 : decode b_Mo_typeRows 26 = .ok (.getfield 23, 3) := by decide +kernel
theorem d_Mo_typeRows_29 : decode b_Mo_typeRows 29 = .ok (.iload_n 1, 1) := by decide +kernel
theorem d_Mo_typeRows_30 : decode b_Mo_typeRows 30 = .ok (.iaload, 1) := by decide +kernel
theorem d_Mo_typeRows_31 : decode b_Mo_typeRows 31 = .ok (.if_icmp .ge 175, 3) := by decide +kernel
theorem d_Mo_typeRows_34 : decode b_Mo_typeRows 34 = .ok (.aload_n 0, 1) := by decide +kernel
theorem d_Mo_typeRows_35 : decode b_Mo_typeRows 35 = .ok (.aload_n 0, 1) := by decide +kernel
theorem d_Mo_typeRows_36 : decode b_Mo_typeRows 36 = .ok (.getfield 155, 3) := by decide +kernel
theorem d_Mo_typeRows_39 : decode b_Mo_typeRows 39 = .ok (.iconst 4, 1) := by decide +kernel
theorem d_Mo_typeRows_40 : decode b_Mo_typeRows 40 = .ok (.invokevirtual 248, 3) := by decide +kernel
theorem d_Mo_typeRows_43 : decode b_Mo_typeRows 43 = .ok (.lstore_n 3, 1) := by decide +kernel
theorem d_Mo_typeRows_44 : decode b_Mo_typeRows 44 = .ok (.lload_n 3, 1) := by decide +kernel
theorem d_Mo_typeRows_45 : decode b_Mo_typeRows 45 = .ok (.ldc2_w 256, 3) := by decide +kernel
theorem d_Mo_typeRows_48 : decode b_Mo_typeRows 48 = .ok (.lcmp, 1) := by decide +kernel
theorem d_Mo_typeRows_49 : decode b_Mo_typeRows 49 = .ok (.ifCond .lt 11, 3) := by decide +kernel
theorem d_Mo_typeRows_52 : decode b_Mo_typeRows 52 = .ok (.lload_n 3, 1) := by decide +kernel
theorem d_Mo_typeRows_53 : decode b_Mo_typeRows 53 = .ok (.ldc2_w 258, 3) := by decide +kernel
theorem d_Mo_typeRows_56 : decode b_Mo_typeRows 56 = .ok (.lcmp, 1) := by decide +kernel
theorem d_Mo_typeRows_57 : decode b_Mo_typeRows 57 = .ok (.ifCond .le 14, 3) := by decide +kernel
theorem d_Mo_typeRows_60 : decode b_Mo_typeRows 60 = .ok (.aload_n 0, 1) := by decide +kernel
theorem d_Mo_typeRows_61 : decode b_Mo_typeRows 61 = .ok (.bipush 7, 2) := by decide +kernel
theorem d_Mo_typeRows_63 : decode b_Mo_typeRows 63 = .ok (.aload_n 0, 1) := by decide +kernel
theorem d_Mo_typeRows_64 : decode b_Mo_typeRows 64 = .ok (.getfield 155, 3) := by decide +kernel
theorem d_Mo_typeRows_67 : decode b_Mo_typeRows 67 = .ok (.invokevirtual 217, 3) := by decide +kernel
theorem d_Mo_typeRows_70 : decode b_Mo_typeRows 70 = .ok (.ireturn, 1) := by decide +kernel
theorem d_Mo_typeRows_71 : decode b_Mo_typeRows 71 = .ok (.aload_n 0, 1) := by decide +kernel
theorem d_Mo_typeRows_72 : decode b_Mo_typeRows 72 = .ok (.getfield 7, 3) := by decide +kernel
theorem d_Mo_typeRows_75 : decode b_Mo_typeRows 75 = .ok (.aload_n 0, 1) := by decide +kernel
theorem d_Mo_typeRows_76 : decode b_Mo_typeRows 76 = .ok (.getfield 155, 3) := by decide +kernel
theorem d_Mo_typeRows_79 : decode b_Mo_typeRows 79 = .ok (.iconst 4, 1) := by decide +kernel
theorem d_Mo_typeRows_80 : decode b_Mo_typeRows 80 = .ok (.iadd, 1) := by decide +kernel
theorem d_Mo_typeRows_81 : decode b_Mo_typeRows 81 = .ok (.iaload, 1) := by decide +kernel
theorem d_Mo_typeRows_82 : decode b_Mo_typeRows 82 = .ok (.iconst 1, 1) := by decide +kernel
theorem d_Mo_typeRows_83 : decode b_Mo_typeRows 83 = .ok (.if_icmp .le 16, 3) := by decide +kernel
theorem d_Mo_typeRows_86 : decode b_Mo_typeRows 86 = .ok (.aload_n 0, 1) := by decide +kernel
theorem d_Mo_typeRows_87 : decode b_Mo_typeRows 87 = .ok (.bipush 8, 2) := by decide +kernel
theorem d_Mo_typeRows_89 : decode b_Mo_typeRows 89 = .ok (.aload_n 0, 1) := by decide +kernel
theorem d_Mo_typeRows_90 : decode b_Mo_typeRows 90 = .ok (.getfield 155, 3) := by decide +kernel
theorem d_Mo_typeRows_93 : decode b_Mo_typeRows 93 = .ok (.iconst 4, 1) := by decide +kernel
theorem d_Mo_typeRows_94 : decode b_Mo_typeRows 94 = .ok (.iadd, 1) := by decide +kernel
theorem d_Mo_typeRows_95 : decode b_Mo_typeRows 95 = .ok (.invokevirtual 217, 3) := by decide +kernel
theorem d_Mo_typeRows_98 : decode b_Mo_typeRows 98 = .ok (.ireturn, 1) := by decide +kernel
theorem d_Mo_typeRows_99 : decode b_Mo_typeRows 99 = .ok (.aload_n 0, 1) := by decide +kernel
theorem d_Mo_typeRows_100 : decode b_Mo_typeRows 100 = .ok (.getfield 7, 3) := by decide +kernel
theorem d_Mo_typeRows_103 : decode b_Mo_typeRows 103 = .ok (.aload_n 0, 1) := by decide +kernel
theorem d_Mo_typeRows_104 : decode b_Mo_typeRows 104 = .ok (.getfield 155, 3) := by decide +kernel
theorem d_Mo_typeRows_107 : decode b_Mo_typeRows 107 = .ok (.iconst 5, 1) := by decide +kernel
theorem d_Mo_typeRows_108 : decode b_Mo_typeRows 108 = .ok (.iadd, 1) := by decide +kernel
theorem d_Mo_typeRows_109 : decode b_Mo_typeRows 109 = .ok (.iaload, 1) := by decide +kernel
theorem d_Mo_typeRows_110 : decode b_Mo_typeRows 110 = .ok (.aload_n 0, 1) := by decide +kernel
theorem d_Mo_typeRows_111 : decode b_Mo_typeRows 111 = .ok (.getfield 26, 3) := by decide +kernel
theorem d_Mo_typeRows_114 : decode b_Mo_typeRows 114 = .ok (.iload_n 1, 1) := by decide +kernel
theorem d_Mo_typeRows_115 : decode b_Mo_typeRows 115 = .ok (.iaload, 1) := by decide +kernel
theorem d_Mo_typeRows_116 : decode b_Mo_typeRows 116 = .ok (.if_icmp .lt 16, 3) := by decide +kernel
theorem d_Mo_typeRows_119 : decode b_Mo_typeRows 119 = .ok (.aload_n 0, 1) := by decide +kernel
theorem d_Mo_typeRows_120 : decode b_Mo_typeRows 120 = .ok (.bipush 9, 2) := by decide +kernel
theorem d_Mo_typeRows_122 : decode b_Mo_typeRows 122 = .ok (.aload_n 0, 1) := by decide +kernel
theorem d_Mo_typeRows_123 : decode b_Mo_typeRows 123 = .ok (.getfield 155, 3) := by decide +kernel
theorem d_Mo_typeRows_126 : decode b_Mo_typeRows 126 = .ok (.iconst 5, 1) := by decide +kernel
theorem d_Mo_typeRows_127 : decode b_Mo_typeRows 127 = .ok (.iadd, 1) := by decide +kernel
theorem d_Mo_typeRows_128 : decode b_Mo_typeRows 128 = .ok (.invokevirtual 217, 3) := by decide +kernel
theorem d_Mo_typeRows_131 : decode b_Mo_typeRows 131 = .ok (.ireturn, 1) := by decide +kernel
theorem d_Mo_typeRows_132 : decode b_Mo_typeRows 132 = .ok (.aload_n 0, 1) := by decide +kernel
theorem d_Mo_typeRows_133 : decode b_Mo_typeRows 133 = .ok (.getfield 48, 3) := by decide +kernel
theorem d_Mo_typeRows_136 : decode b_Mo_typeRows 136 = .ok (.bipush 40, 2) := by decide +kernel
theorem d_Mo_typeRows_138 : decode b_Mo_typeRows 138 = .ok (.iload_n 1, 1) := by decide +kernel
theorem d_Mo_typeRows_139 : decode b_Mo_typeRows 139 = .ok (.imul, 1) := by decide +kernel
theorem d_Mo_typeRows_140 : decode b_Mo_typeRows 140 = .ok (.iload_n 2, 1) := by decide +kernel
theorem d_Mo_typeRows_141 : decode b_Mo_typeRows 141 = .ok (.iadd, 1) := by decide +kernel
theorem d_Mo_typeRows_142 : decode b_Mo_typeRows 142 = .ok (.lload_n 3, 1) := by decide +kernel
theorem d_Mo_typeRows_143 : decode b_Mo_typeRows 143 = .ok (.l2i, 1) := by decide +kernel
theorem d_Mo_typeRows_144 : decode b_Mo_typeRows 144 = .ok (.iastore, 1) := by decide +kernel
theorem d_Mo_typeRows_145 : decode b_Mo_typeRows 145 = .ok (.aload_n 0, 1) := by decide +kernel
theorem d_Mo_typeRows_146 : decode b_Mo_typeRows 146 = .ok (.getfield 51, 3) := by decide +kernel
theorem d_Mo_typeRows_149 : decode b_Mo_typeRows 149 = .ok (.bipush 40, 2) := by decide +kernel
theorem d_Mo_typeRows_151 : decode b_Mo_typeRows 151 = .ok (.iload_n 1, 1) := by decide +kernel
theorem d_Mo_typeRows_152 : decode b_Mo_typeRows 152 = .ok (.imul, 1) := by decide +kernel
theorem d_Mo_typeRows_153 : decode b_Mo_typeRows 153 = .ok (.iload_n 2, 1) := by decide +kernel
theorem d_Mo_typeRows_154 : decode b_Mo_typeRows 154 = .ok (.iadd, 1) := by decide +kernel
theorem d_Mo_typeRows_155 : decode b_Mo_typeRows 155 = .ok (.aload_n 0, 1) := by decide +kernel
theorem d_Mo_typeRows_156 : decode b_Mo_typeRows 156 = .ok (.getfield 7, 3) := by decide +kernel
theorem d_Mo_typeRows_159 : decode b_Mo_typeRows 159 = .ok (.aload_n 0, 1) := by decide +kernel
theorem d_Mo_typeRows_160 : decode b_Mo_typeRows 160 = .ok (.getfield 155, 3) := by decide +kernel
theorem d_Mo_typeRows_163 : decode b_Mo_typeRows 163 = .ok (.iconst 4, 1) := by decide +kernel
theorem d_Mo_typeRows_164 : decode b_Mo_typeRows 164 = .ok (.iadd, 1) := by decide +kernel
theorem d_Mo_typeRows_165 : decode b_Mo_typeRows 165 = .ok (.iaload, 1) := by decide +kernel
theorem d_Mo_typeRows_166 : decode b_Mo_typeRows 166 = .ok (.iastore, 1) := by decide +kernel
theorem d_Mo_typeRows_167 : decode b_Mo_typeRows 167 = .ok (.aload_n 0, 1) := by decide +kernel
theorem d_Mo_typeRows_168 : decode b_Mo_typeRows 168 = .ok (.getfield 54, 3) := by decide +kernel
theorem d_Mo_typeRows_171 : decode b_Mo_typeRows 171 = .ok (.bipush 40, 2) := by decide +kernel
theorem d_Mo_typeRows_173 : decode b_Mo_typeRows 173 = .ok (.iload_n 1, 1) := by decide +kernel
theorem d_Mo_typeRows_174 : decode b_Mo_typeRows 174 = .ok (.imul, 1) := by decide +kernel
theorem d_Mo_typeRows_175 : decode b_Mo_typeRows 175 = .ok (.iload_n 2, 1) := by decide +kernel
theorem d_Mo_typeRows_176 : decode b_Mo_typeRows 176 = .ok (.iadd, 1) := by decide +kernel
theorem d_Mo_typeRows_177 : decode b_Mo_typeRows 177 = .ok (.aload_n 0, 1) := by decide +kernel
theorem d_Mo_typeRows_178 : decode b_Mo_typeRows 178 = .ok (.getfield 7, 3) := by decide +kernel
theorem d_Mo_typeRows_181 : decode b_Mo_typeRows 181 = .ok (.aload_n 0, 1) := by decide +kernel
theorem d_Mo_typeRows_182 : decode b_Mo_typeRows 182 = .ok (.getfield 155, 3) := by decide +kernel
theorem d_Mo_typeRows_185 : decode b_Mo_typeRows 185 = .ok (.iconst 5, 1) := by decide +kernel
theorem d_Mo_typeRows_186 : decode b_Mo_typeRows 186 = .ok (.iadd, 1) := by decide +kernel
theorem d_Mo_typeRows_187 : decode b_Mo_typeRows 187 = .ok (.iaload, 1) := by decide +kernel
theorem d_Mo_typeRows_188 : decode b_Mo_typeRows 188 = .ok (.iastore, 1) := by decide +kernel
theorem d_Mo_typeRows_189 : decode b_Mo_typeRows 189 = .ok (.aload_n 0, 1) := by decide +kernel
theorem d_Mo_typeRows_190 : decode b_Mo_typeRows 190 = .ok (.dup, 1) := by decide +kernel
theorem d_Mo_typeRows_191 : decode b_Mo_typeRows 191 = .ok (.getfield 155, 3) := by decide +kernel
theorem d_Mo_typeRows_194 : decode b_Mo_typeRows 194 = .ok (.bipush 6, 2) := by decide +kernel
theorem d_Mo_typeRows_196 : decode b_Mo_typeRows 196 = .ok (.iadd, 1) := by decide +kernel
theorem d_Mo_typeRows_197 : decode b_Mo_typeRows 197 = .ok (.putfield 155, 3) := by decide +kernel
theorem d_Mo_typeRows_200 : decode b_Mo_typeRows 200 = .ok (.iinc 2 1, 3) := by decide +kernel
theorem d_Mo_typeRows_203 : decode b_Mo_typeRows 203 = .ok (.goto (-179), 3) := by decide +kernel
theorem d_Mo_typeRows_206 : decode b_Mo_typeRows 206 = .ok (.iconst 1, 1) := by decide +kernel
theorem d_Mo_typeRows_207 : decode b_Mo_typeRows 207 = .ok (.ireturn, 1) := by decide +kernel
abbrev b_Mo_block : ByteArray := prog_14_method_25_code
def y_Mo_block : MethodName := ⟨"ZoneFilesModel", "block", "(I)Z"⟩
theorem d_Mo_block_0 : decode b_Mo_block 0 = .ok (.iconst 4, 1) := by decide +kernel
theorem d_Mo_block_1 : decode b_Mo_block 1 = .ok (.istore_n 2, 1) := by decide +kernel
theorem d_Mo_block_2 : decode b_Mo_block 2 = .ok (.aload_n 0, 1) := by decide +kernel
theorem d_Mo_block_3 : decode b_Mo_block 3 = .ok (.getfield 35, 3) := by decide +kernel
theorem d_Mo_block_6 : decode b_Mo_block 6 = .ok (.iload_n 2, 1) := by decide +kernel
theorem d_Mo_block_7 : decode b_Mo_block 7 = .ok (.aload_n 0, 1) := by decide +kernel
theorem d_Mo_block_8 : decode b_Mo_block 8 = .ok (.getfield 102, 3) := by decide +kernel
theorem d_Mo_block_11 : decode b_Mo_block 11 = .ok (.iconst 0, 1) := by decide +kernel
theorem d_Mo_block_12 : decode b_Mo_block 12 = .ok (.laload, 1) := by decide +kernel
theorem d_Mo_block_13 : decode b_Mo_block 13 = .ok (.l2i, 1) := by decide +kernel
theorem d_Mo_block_14 : decode b_Mo_block 14 = .ok (.iastore, 1) := by decide +kernel
theorem d_Mo_block_15 : decode b_Mo_block 15 = .ok (.aload_n 0, 1) := by decide +kernel
theorem d_Mo_block_16 : decode b_Mo_block 16 = .ok (.getfield 32, 3) := by decide +kernel
theorem d_Mo_block_19 : decode b_Mo_block 19 = .ok (.iload_n 2, 1) := by decide +kernel
theorem d_Mo_block_20 : decode b_Mo_block 20 = .ok (.aload_n 0, 1) := by decide +kernel
theorem d_Mo_block_21 : decode b_Mo_block 21 = .ok (.getfield 102, 3) := by decide +kernel
theorem d_Mo_block_24 : decode b_Mo_block 24 = .ok (.iconst 1, 1) := by decide +kernel
theorem d_Mo_block_25 : decode b_Mo_block 25 = .ok (.laload, 1) := by decide +kernel
theorem d_Mo_block_26 : decode b_Mo_block 26 = .ok (.l2i, 1) := by decide +kernel
theorem d_Mo_block_27 : decode b_Mo_block 27 = .ok (.iastore, 1) := by decide +kernel
theorem d_Mo_block_28 : decode b_Mo_block 28 = .ok (.aload_n 0, 1) := by decide +kernel
theorem d_Mo_block_29 : decode b_Mo_block 29 = .ok (.getfield 29, 3) := by decide +kernel
theorem d_Mo_block_32 : decode b_Mo_block 32 = .ok (.iload_n 2, 1) := by decide +kernel
theorem d_Mo_block_33 : decode b_Mo_block 33 = .ok (.aload_n 0, 1) := by decide +kernel
theorem d_Mo_block_34 : decode b_Mo_block 34 = .ok (.getfield 102, 3) := by decide +kernel
theorem d_Mo_block_37 : decode b_Mo_block 37 = .ok (.iconst 2, 1) := by decide +kernel
theorem d_Mo_block_38 : decode b_Mo_block 38 = .ok (.laload, 1) := by decide +kernel
theorem d_Mo_block_39 : decode b_Mo_block 39 = .ok (.l2i, 1) := by decide +kernel
theorem d_Mo_block_40 : decode b_Mo_block 40 = .ok (.iastore, 1) := by decide +kernel
theorem d_Mo_block_41 : decode b_Mo_block 41 = .ok (.aload_n 0, 1) := by decide +kernel
theorem d_Mo_block_42 : decode b_Mo_block 42 = .ok (.getfield 20, 3) := by decide +kernel
theorem d_Mo_block_45 : decode b_Mo_block 45 = .ok (.iload_n 2, 1) := by decide +kernel
theorem d_Mo_block_46 : decode b_Mo_block 46 = .ok (.aload_n 0, 1) := by decide +kernel
theorem d_Mo_block_47 : decode b_Mo_block 47 = .ok (.getfield 102, 3) := by decide +kernel
theorem d_Mo_block_50 : decode b_Mo_block 50 = .ok (.iconst 3, 1) := by decide +kernel
theorem d_Mo_block_51 : decode b_Mo_block 51 = .ok (.laload, 1) := by decide +kernel
theorem d_Mo_block_52 : decode b_Mo_block 52 = .ok (.l2i, 1) := by decide +kernel
theorem d_Mo_block_53 : decode b_Mo_block 53 = .ok (.iastore, 1) := by decide +kernel
theorem d_Mo_block_54 : decode b_Mo_block 54 = .ok (.aload_n 0, 1) := by decide +kernel
theorem d_Mo_block_55 : decode b_Mo_block 55 = .ok (.getfield 23, 3) := by decide +kernel
theorem d_Mo_block_58 : decode b_Mo_block 58 = .ok (.iload_n 2, 1) := by decide +kernel
theorem d_Mo_block_59 : decode b_Mo_block 59 = .ok (.aload_n 0, 1) := by decide +kernel
theorem d_Mo_block_60 : decode b_Mo_block 60 = .ok (.getfield 102, 3) := by decide +kernel
theorem d_Mo_block_63 : decode b_Mo_block 63 = .ok (.iconst 4, 1) := by decide +kernel
theorem d_Mo_block_64 : decode b_Mo_block 64 = .ok (.laload, 1) := by decide +kernel
theorem d_Mo_block_65 : decode b_Mo_block 65 = .ok (.l2i, 1) := by decide +kernel
theorem d_Mo_block_66 : decode b_Mo_block 66 = .ok (.iastore, 1) := by decide +kernel
theorem d_Mo_block_67 : decode b_Mo_block 67 = .ok (.aload_n 0, 1) := by decide +kernel
theorem d_Mo_block_68 : decode b_Mo_block 68 = .ok (.getfield 26, 3) := by decide +kernel
theorem d_Mo_block_71 : decode b_Mo_block 71 = .ok (.iload_n 2, 1) := by decide +kernel
theorem d_Mo_block_72 : decode b_Mo_block 72 = .ok (.aload_n 0, 1) := by decide +kernel
theorem d_Mo_block_73 : decode b_Mo_block 73 = .ok (.getfield 102, 3) := by decide +kernel
theorem d_Mo_block_76 : decode b_Mo_block 76 = .ok (.iconst 5, 1) := by decide +kernel
theorem d_Mo_block_77 : decode b_Mo_block 77 = .ok (.laload, 1) := by decide +kernel
theorem d_Mo_block_78 : decode b_Mo_block 78 = .ok (.l2i, 1) := by decide +kernel
theorem d_Mo_block_79 : decode b_Mo_block 79 = .ok (.iastore, 1) := by decide +kernel
theorem d_Mo_block_80 : decode b_Mo_block 80 = .ok (.aload_n 0, 1) := by decide +kernel
theorem d_Mo_block_81 : decode b_Mo_block 81 = .ok (.iload_n 1, 1) := by decide +kernel
theorem d_Mo_block_82 : decode b_Mo_block 82 = .ok (.invokevirtual 228, 3) := by decide +kernel
theorem d_Mo_block_85 : decode b_Mo_block 85 = .ok (.ifCond .eq 36, 3) := by decide +kernel
theorem d_Mo_block_88 : decode b_Mo_block 88 = .ok (.aload_n 0, 1) := by decide +kernel
theorem d_Mo_block_89 : decode b_Mo_block 89 = .ok (.invokevirtual 231, 3) := by decide +kernel
theorem d_Mo_block_92 : decode b_Mo_block 92 = .ok (.ifCond .eq 29, 3) := by decide +kernel
theorem d_Mo_block_95 : decode b_Mo_block 95 = .ok (.aload_n 0, 1) := by decide +kernel
theorem d_Mo_block_96 : decode b_Mo_block 96 = .ok (.invokevirtual 235, 3) := by decide +kernel
theorem d_Mo_block_99 : decode b_Mo_block 99 = .ok (.ifCond .eq 22, 3) := by decide +kernel
theorem d_Mo_block_102 : decode b_Mo_block 102 = .ok (.aload_n 0, 1) := by decide +kernel
theorem d_Mo_block_103 : decode b_Mo_block 103 = .ok (.iload_n 1, 1) := by decide +kernel
theorem d_Mo_block_104 : decode b_Mo_block 104 = .ok (.invokevirtual 238, 3) := by decide +kernel
theorem d_Mo_block_107 : decode b_Mo_block 107 = .ok (.ifCond .eq 14, 3) := by decide +kernel
theorem d_Mo_block_110 : decode b_Mo_block 110 = .ok (.aload_n 0, 1) := by decide +kernel
theorem d_Mo_block_111 : decode b_Mo_block 111 = .ok (.invokevirtual 241, 3) := by decide +kernel
theorem d_Mo_block_114 : decode b_Mo_block 114 = .ok (.ifCond .eq 7, 3) := by decide +kernel
theorem d_Mo_block_117 : decode b_Mo_block 117 = .ok (.iconst 1, 1) := by decide +kernel
theorem d_Mo_block_118 : decode b_Mo_block 118 = .ok (.goto 4, 3) := by decide +kernel
theorem d_Mo_block_121 : decode b_Mo_block 121 = .ok (.iconst 0, 1) := by decide +kernel
theorem d_Mo_block_122 : decode b_Mo_block 122 = .ok (.ireturn, 1) := by decide +kernel
abbrev b_Mo_footer : ByteArray := prog_14_method_32_code
def y_Mo_footer : MethodName := ⟨"ZoneFilesModel", "footer", "()Z"⟩
theorem d_Mo_footer_0 : decode b_Mo_footer 0 = .ok (.iconst 4, 1) := by decide +kernel
theorem d_Mo_footer_1 : decode b_Mo_footer 1 = .ok (.istore_n 1, 1) := by decide +kernel
theorem d_Mo_footer_2 : decode b_Mo_footer 2 = .ok (.aload_n 0, 1) := by decide +kernel
theorem d_Mo_footer_3 : decode b_Mo_footer 3 = .ok (.getfield 155, 3) := by decide +kernel
theorem d_Mo_footer_6 : decode b_Mo_footer 6 = .ok (.iconst 1, 1) := by decide +kernel
theorem d_Mo_footer_7 : decode b_Mo_footer 7 = .ok (.iadd, 1) := by decide +kernel
theorem d_Mo_footer_8 : decode b_Mo_footer 8 = .ok (.istore_n 2, 1) := by decide +kernel
theorem d_Mo_footer_9 : decode b_Mo_footer 9 = .ok (.iload_n 2, 1) := by decide +kernel
theorem d_Mo_footer_10 : decode b_Mo_footer 10 = .ok (.aload_n 0, 1) := by decide +kernel
theorem d_Mo_footer_11 : decode b_Mo_footer 11 = .ok (.getfield 135, 3) := by decide +kernel
theorem d_Mo_footer_14 : decode b_Mo_footer 14 = .ok (.if_icmp .ge 20, 3) := by decide +kernel
theorem d_Mo_footer_17 : decode b_Mo_footer 17 = .ok (.aload_n 0, 1) := by decide +kernel
theorem d_Mo_footer_18 : decode b_Mo_footer 18 = .ok (.getfield 7, 3) := by decide +kernel
theorem d_Mo_footer_21 : decode b_Mo_footer 21 = .ok (.iload_n 2, 1) := by decide +kernel
theorem d_Mo_footer_22 : decode b_Mo_footer 22 = .ok (.iaload, 1) := by decide +kernel
theorem d_Mo_footer_23 : decode b_Mo_footer 23 = .ok (.bipush 10, 2) := by decide +kernel
theorem d_Mo_footer_25 : decode b_Mo_footer 25 = .ok (.if_icmp .eq 9, 3) := by decide +kernel
theorem d_Mo_footer_28 : decode b_Mo_footer 28 = .ok (.iinc 2 1, 3) := by decide +kernel
theorem d_Mo_footer_31 : decode b_Mo_footer 31 = .ok (.goto (-22), 3) := by decide +kernel
theorem d_Mo_footer_34 : decode b_Mo_footer 34 = .ok (.iload_n 2, 1) := by decide +kernel
theorem d_Mo_footer_35 : decode b_Mo_footer 35 = .ok (.aload_n 0, 1) := by decide +kernel
theorem d_Mo_footer_36 : decode b_Mo_footer 36 = .ok (.getfield 135, 3) := by decide +kernel
theorem d_Mo_footer_39 : decode b_Mo_footer 39 = .ok (.if_icmp .lt 13, 3) := by decide +kernel
theorem d_Mo_footer_42 : decode b_Mo_footer 42 = .ok (.aload_n 0, 1) := by decide +kernel
theorem d_Mo_footer_43 : decode b_Mo_footer 43 = .ok (.iconst 1, 1) := by decide +kernel
theorem d_Mo_footer_44 : decode b_Mo_footer 44 = .ok (.aload_n 0, 1) := by decide +kernel
theorem d_Mo_footer_45 : decode b_Mo_footer 45 = .ok (.getfield 135, 3) := by decide +kernel
theorem d_Mo_footer_48 : decode b_Mo_footer 48 = .ok (.invokevirtual 217, 3) := by decide +kernel
theorem d_Mo_footer_51 : decode b_Mo_footer 51 = .ok (.ireturn, 1) := by decide +kernel
theorem d_Mo_footer_52 : decode b_Mo_footer 52 = .ok (.aload_n 0, 1) := by decide +kernel
theorem d_Mo_footer_53 : decode b_Mo_footer 53 = .ok (.getfield 7, 3) := by decide +kernel
theorem d_Mo_footer_56 : decode b_Mo_footer 56 = .ok (.aload_n 0, 1) := by decide +kernel
theorem d_Mo_footer_57 : decode b_Mo_footer 57 = .ok (.getfield 155, 3) := by decide +kernel
theorem d_Mo_footer_60 : decode b_Mo_footer 60 = .ok (.iaload, 1) := by decide +kernel
theorem d_Mo_footer_61 : decode b_Mo_footer 61 = .ok (.bipush 10, 2) := by decide +kernel
theorem d_Mo_footer_63 : decode b_Mo_footer 63 = .ok (.if_icmp .eq 14, 3) := by decide +kernel
theorem d_Mo_footer_66 : decode b_Mo_footer 66 = .ok (.aload_n 0, 1) := by decide +kernel
theorem d_Mo_footer_67 : decode b_Mo_footer 67 = .ok (.bipush 14, 2) := by decide +kernel
theorem d_Mo_footer_69 : decode b_Mo_footer 69 = .ok (.aload_n 0, 1) := by decide +kernel
theorem d_Mo_footer_70 : decode b_Mo_footer 70 = .ok (.getfield 155, 3) := by decide +kernel
theorem d_Mo_footer_73 : decode b_Mo_footer 73 = .ok (.invokevirtual 217, 3) := by decide +kernel
theorem d_Mo_footer_76 : decode b_Mo_footer 76 = .ok (.ireturn, 1) := by decide +kernel
theorem d_Mo_footer_77 : decode b_Mo_footer 77 = .ok (.aload_n 0, 1) := by decide +kernel
theorem d_Mo_footer_78 : decode b_Mo_footer 78 = .ok (.dup, 1) := by decide +kernel
theorem d_Mo_footer_79 : decode b_Mo_footer 79 = .ok (.getfield 155, 3) := by decide +kernel
theorem d_Mo_footer_82 : decode b_Mo_footer 82 = .ok (.iconst 1, 1) := by decide +kernel
theorem d_Mo_footer_83 : decode b_Mo_footer 83 = .ok (.iadd, 1) := by decide +kernel
theorem d_Mo_footer_84 : decode b_Mo_footer 84 = .ok (.putfield 155, 3) := by decide +kernel
theorem d_Mo_footer_87 : decode b_Mo_footer 87 = .ok (.aload_n 0, 1) := by decide +kernel
theorem d_Mo_footer_88 : decode b_Mo_footer 88 = .ok (.aload_n 0, 1) := by decide +kernel
theorem d_Mo_footer_89 : decode b_Mo_footer 89 = .ok (.getfield 155, 3) := by decide +kernel
theorem d_Mo_footer_92 : decode b_Mo_footer 92 = .ok (.putfield 269, 3) := by decide +kernel
theorem d_Mo_footer_95 : decode b_Mo_footer 95 = .ok (.aload_n 0, 1) := by decide +kernel
theorem d_Mo_footer_96 : decode b_Mo_footer 96 = .ok (.getfield 155, 3) := by decide +kernel
theorem d_Mo_footer_99 : decode b_Mo_footer 99 = .ok (.istore_n 3, 1) := by decide +kernel
theorem d_Mo_footer_100 : decode b_Mo_footer 100 = .ok (.aload_n 0, 1) := by decide +kernel
theorem d_Mo_footer_101 : decode b_Mo_footer 101 = .ok (.getfield 75, 3) := by decide +kernel
theorem d_Mo_footer_104 : decode b_Mo_footer 104 = .ok (.iload_n 1, 1) := by decide +kernel
theorem d_Mo_footer_105 : decode b_Mo_footer 105 = .ok (.iconst 0, 1) := by decide +kernel
theorem d_Mo_footer_106 : decode b_Mo_footer 106 = .ok (.iastore, 1) := by decide +kernel
theorem d_Mo_footer_107 : decode b_Mo_footer 107 = .ok (.iload_n 2, 1) := by decide +kernel
theorem d_Mo_footer_108 : decode b_Mo_footer 108 = .ok (.iload_n 3, 1) := by decide +kernel
theorem d_Mo_footer_109 : decode b_Mo_footer 109 = .ok (.if_icmp .le 27, 3) := by decide +kernel
theorem d_Mo_footer_112 : decode b_Mo_footer 112 = .ok (.aload_n 0, 1) := by decide +kernel
theorem d_Mo_footer_113 : decode b_Mo_footer 113 = .ok (.aload_n 0, 1) := by decide +kernel
theorem d_Mo_footer_114 : decode b_Mo_footer 114 = .ok (.getfield 221, 3) := by decide +kernel
theorem d_Mo_footer_117 : decode b_Mo_footer 117 = .ok (.iload_n 3, 1) := by decide +kernel
theorem d_Mo_footer_118 : decode b_Mo_footer 118 = .ok (.iload_n 2, 1) := by decide +kernel
theorem d_Mo_footer_119 : decode b_Mo_footer 119 = .ok (.invokevirtual 138, 3) := by decide +kernel
theorem d_Mo_footer_122 : decode b_Mo_footer 122 = .ok (.ifCond .ne 14, 3) := by decide +kernel
theorem d_Mo_footer_125 : decode b_Mo_footer 125 = .ok (.aload_n 0, 1) := by decide +kernel
theorem d_Mo_footer_126 : decode b_Mo_footer 126 = .ok (.bipush 15, 2) := by decide +kernel
theorem d_Mo_footer_128 : decode b_Mo_footer 128 = .ok (.aload_n 0, 1) := by decide +kernel
theorem d_Mo_footer_129 : decode b_Mo_footer 129 = .ok (.getfield 165, 3) := by decide +kernel
theorem d_Mo_footer_132 : decode b_Mo_footer 132 = .ok (.invokevirtual 217, 3) := by decide +kernel
theorem d_Mo_footer_135 : decode b_Mo_footer 135 = .ok (.ireturn, 1) := by decide +kernel
theorem d_Mo_footer_136 : decode b_Mo_footer 136 = .ok (.aload_n 0, 1) := by decide +kernel
theorem d_Mo_footer_137 : decode b_Mo_footer 137 = .ok (.getfield 38, 3) := by decide +kernel
theorem d_Mo_footer_140 : decode b_Mo_footer 140 = .ok (.iload_n 1, 1) := by decide +kernel
theorem d_Mo_footer_141 : decode b_Mo_footer 141 = .ok (.iload_n 2, 1) := by decide +kernel
theorem d_Mo_footer_142 : decode b_Mo_footer 142 = .ok (.iload_n 3, 1) := by decide +kernel
theorem d_Mo_footer_143 : decode b_Mo_footer 143 = .ok (.isub, 1) := by decide +kernel
theorem d_Mo_footer_144 : decode b_Mo_footer 144 = .ok (.iastore, 1) := by decide +kernel
theorem d_Mo_footer_145 : decode b_Mo_footer 145 = .ok (.iload_n 3, 1) := by decide +kernel
theorem d_Mo_footer_146 : decode b_Mo_footer 146 = .ok (.istore 4, 2) := by decide +kernel
theorem d_Mo_footer_148 : decode b_Mo_footer 148 = .ok (.iload 4, 2) := by decide +kernel
theorem d_Mo_footer_150 : decode b_Mo_footer 150 = .ok (.iload_n 2, 1) := by decide +kernel
theorem d_Mo_footer_151 : decode b_Mo_footer 151 = .ok (.if_icmp .ge 31, 3) := by decide +kernel
theorem d_Mo_footer_154 : decode b_Mo_footer 154 = .ok (.aload_n 0, 1) := by decide +kernel
theorem d_Mo_footer_155 : decode b_Mo_footer 155 = .ok (.getfield 72, 3) := by decide +kernel
theorem d_Mo_footer_158 : decode b_Mo_footer 158 = .ok (.sipush 128, 3) := by decide +kernel
theorem d_Mo_footer_161 : decode b_Mo_footer 161 = .ok (.iload_n 1, 1) := by decide +kernel
theorem d_Mo_footer_162 : decode b_Mo_footer 162 = .ok (.imul, 1) := by decide +kernel
theorem d_Mo_footer_163 : decode b_Mo_footer 163 = .ok (.iload 4, 2) := by decide +kernel
theorem d_Mo_footer_165 : decode b_Mo_footer 165 = .ok (.iadd, 1) := by decide +kernel
theorem d_Mo_footer_166 : decode b_Mo_footer 166 = .ok (.iload_n 3, 1) := by decide +kernel
theorem d_Mo_footer_167 : decode b_Mo_footer 167 = .ok (.isub, 1) := by decide +kernel
theorem d_Mo_footer_168 : decode b_Mo_footer 168 = .ok (.aload_n 0, 1) := by decide +kernel
theorem d_Mo_footer_169 : decode b_Mo_footer 169 = .ok (.getfield 7, 3) := by decide +kernel
theorem d_Mo_footer_172 : decode b_Mo_footer 172 = .ok (.iload 4, 2) := by decide +kernel
theorem d_Mo_footer_174 : decode b_Mo_footer 174 = .ok (.iaload, 1) := by decide +kernel
theorem d_Mo_footer_175 : decode b_Mo_footer 175 = .ok (.iastore, 1) := by decide +kernel
theorem d_Mo_footer_176 : decode b_Mo_footer 176 = .ok (.iinc 4 1, 3) := by decide +kernel
theorem d_Mo_footer_179 : decode b_Mo_footer 179 = .ok (.goto (-31), 3) := by decide +kernel
theorem d_Mo_footer_182 : decode b_Mo_footer 182 = .ok (.aload_n 0, 1) := by decide +kernel
theorem d_Mo_footer_183 : decode b_Mo_footer 183 = .ok (.iload_n 2, 1) := by decide +kernel
theorem d_Mo_footer_184 : decode b_Mo_footer 184 = .ok (.iconst 1, 1) := by decide +kernel
theorem d_Mo_footer_185 : decode b_Mo_footer 185 = .ok (.iadd, 1) := by decide +kernel
theorem d_Mo_footer_186 : decode b_Mo_footer 186 = .ok (.putfield 155, 3) := by decide +kernel
theorem d_Mo_footer_189 : decode b_Mo_footer 189 = .ok (.iconst 1, 1) := by decide +kernel
theorem d_Mo_footer_190 : decode b_Mo_footer 190 = .ok (.ireturn, 1) := by decide +kernel
abbrev b_Mo_file : ByteArray := prog_14_method_33_code
def y_Mo_file : MethodName := ⟨"ZoneFilesModel", "file", "()Z"⟩
theorem d_Mo_file_0 : decode b_Mo_file 0 = .ok (.iconst 4, 1) := by decide +kernel
theorem d_Mo_file_1 : decode b_Mo_file 1 = .ok (.istore_n 1, 1) := by decide +kernel
theorem d_Mo_file_2 : decode b_Mo_file 2 = .ok (.aload_n 0, 1) := by decide +kernel
theorem d_Mo_file_3 : decode b_Mo_file 3 = .ok (.iconst 0, 1) := by decide +kernel
theorem d_Mo_file_4 : decode b_Mo_file 4 = .ok (.putfield 155, 3) := by decide +kernel
theorem d_Mo_file_7 : decode b_Mo_file 7 = .ok (.aload_n 0, 1) := by decide +kernel
theorem d_Mo_file_8 : decode b_Mo_file 8 = .ok (.iconst 0, 1) := by decide +kernel
theorem d_Mo_file_9 : decode b_Mo_file 9 = .ok (.invokevirtual 272, 3) := by decide +kernel
theorem d_Mo_file_12 : decode b_Mo_file 12 = .ok (.ifCond .ne 5, 3) := by decide +kernel
theorem d_Mo_file_15 : decode b_Mo_file 15 = .ok (.iconst 0, 1) := by decide +kernel
theorem d_Mo_file_16 : decode b_Mo_file 16 = .ok (.ireturn, 1) := by decide +kernel
theorem d_Mo_file_17 : decode b_Mo_file 17 = .ok (.aload_n 0, 1) := by decide +kernel
theorem d_Mo_file_18 : decode b_Mo_file 18 = .ok (.getfield 221, 3) := by decide +kernel
theorem d_Mo_file_21 : decode b_Mo_file 21 = .ok (.ifCond .ne 27, 3) := by decide +kernel
theorem d_Mo_file_24 : decode b_Mo_file 24 = .ok (.aload_n 0, 1) := by decide +kernel
theorem d_Mo_file_25 : decode b_Mo_file 25 = .ok (.getfield 75, 3) := by decide +kernel
theorem d_Mo_file_28 : decode b_Mo_file 28 = .ok (.iload_n 1, 1) := by decide +kernel
theorem d_Mo_file_29 : decode b_Mo_file 29 = .ok (.iconst 0, 1) := by decide +kernel
theorem d_Mo_file_30 : decode b_Mo_file 30 = .ok (.iastore, 1) := by decide +kernel
theorem d_Mo_file_31 : decode b_Mo_file 31 = .ok (.aload_n 0, 1) := by decide +kernel
theorem d_Mo_file_32 : decode b_Mo_file 32 = .ok (.getfield 38, 3) := by decide +kernel
theorem d_Mo_file_35 : decode b_Mo_file 35 = .ok (.iload_n 1, 1) := by decide +kernel
theorem d_Mo_file_36 : decode b_Mo_file 36 = .ok (.iconst 0, 1) := by decide +kernel
theorem d_Mo_file_37 : decode b_Mo_file 37 = .ok (.iastore, 1) := by decide +kernel
theorem d_Mo_file_38 : decode b_Mo_file 38 = .ok (.aload_n 0, 1) := by decide +kernel
theorem d_Mo_file_39 : decode b_Mo_file 39 = .ok (.iconst 4, 1) := by decide +kernel
theorem d_Mo_file_40 : decode b_Mo_file 40 = .ok (.invokevirtual 276, 3) := by decide +kernel
theorem d_Mo_file_43 : decode b_Mo_file 43 = .ok (.ifCond .ne 106, 3) := by decide +kernel
theorem d_Mo_file_46 : decode b_Mo_file 46 = .ok (.iconst 0, 1) := by decide +kernel
theorem d_Mo_file_47 : decode b_Mo_file 47 = .ok (.ireturn, 1) := by decide +kernel
theorem d_Mo_file_48 : decode b_Mo_file 48 = .ok (.ldc2_w 279, 3) := by decide +kernel
theorem d_Mo_file_51 : decode b_Mo_file 51 = .ok (.aload_n 0, 1) := by decide +kernel
theorem d_Mo_file_52 : decode b_Mo_file 52 = .ok (.getfield 102, 3) := by decide +kernel
theorem d_Mo_file_55 : decode b_Mo_file 55 = .ok (.iconst 3, 1) := by decide +kernel
theorem d_Mo_file_56 : decode b_Mo_file 56 = .ok (.laload, 1) := by decide +kernel
theorem d_Mo_file_57 : decode b_Mo_file 57 = .ok (.lmul, 1) := by decide +kernel
theorem d_Mo_file_58 : decode b_Mo_file 58 = .ok (.ldc2_w 254, 3) := by decide +kernel
theorem d_Mo_file_61 : decode b_Mo_file 61 = .ok (.aload_n 0, 1) := by decide +kernel
theorem d_Mo_file_62 : decode b_Mo_file 62 = .ok (.getfield 102, 3) := by decide +kernel
theorem d_Mo_file_65 : decode b_Mo_file 65 = .ok (.iconst 4, 1) := by decide +kernel
theorem d_Mo_file_66 : decode b_Mo_file 66 = .ok (.laload, 1) := by decide +kernel
theorem d_Mo_file_67 : decode b_Mo_file 67 = .ok (.lmul, 1) := by decide +kernel
theorem d_Mo_file_68 : decode b_Mo_file 68 = .ok (.ladd, 1) := by decide +kernel
theorem d_Mo_file_69 : decode b_Mo_file 69 = .ok (.aload_n 0, 1) := by decide +kernel
theorem d_Mo_file_70 : decode b_Mo_file 70 = .ok (.getfield 102, 3) := by decide +kernel
theorem d_Mo_file_73 : decode b_Mo_file 73 = .ok (.iconst 5, 1) := by decide +kernel
theorem d_Mo_file_74 : decode b_Mo_file 74 = .ok (.laload, 1) := by decide +kernel
theorem d_Mo_file_75 : decode b_Mo_file 75 = .ok (.ladd, 1) := by decide +kernel
theorem d_Mo_file_76 : decode b_Mo_file 76 = .ok (.ldc2_w 281, 3) := by decide +kernel
theorem d_Mo_file_79 : decode b_Mo_file 79 = .ok (.aload_n 0, 1) := by decide +kernel
theorem d_Mo_file_80 : decode b_Mo_file 80 = .ok (.getfield 102, 3) := by decide +kernel
theorem d_Mo_file_83 : decode b_Mo_file 83 = .ok (.iconst 2, 1) := by decide +kernel
theorem d_Mo_file_84 : decode b_Mo_file 84 = .ok (.laload, 1) := by decide +kernel
theorem d_Mo_file_85 : decode b_Mo_file 85 = .ok (.lmul, 1) := by decide +kernel
theorem d_Mo_file_86 : decode b_Mo_file 86 = .ok (.ladd, 1) := by decide +kernel
theorem d_Mo_file_87 : decode b_Mo_file 87 = .ok (.aload_n 0, 1) := by decide +kernel
theorem d_Mo_file_88 : decode b_Mo_file 88 = .ok (.getfield 102, 3) := by decide +kernel
theorem d_Mo_file_91 : decode b_Mo_file 91 = .ok (.iconst 1, 1) := by decide +kernel
theorem d_Mo_file_92 : decode b_Mo_file 92 = .ok (.laload, 1) := by decide +kernel
theorem d_Mo_file_93 : decode b_Mo_file 93 = .ok (.ladd, 1) := by decide +kernel
theorem d_Mo_file_94 : decode b_Mo_file 94 = .ok (.aload_n 0, 1) := by decide +kernel
theorem d_Mo_file_95 : decode b_Mo_file 95 = .ok (.getfield 102, 3) := by decide +kernel
theorem d_Mo_file_98 : decode b_Mo_file 98 = .ok (.iconst 0, 1) := by decide +kernel
theorem d_Mo_file_99 : decode b_Mo_file 99 = .ok (.laload, 1) := by decide +kernel
theorem d_Mo_file_100 : decode b_Mo_file 100 = .ok (.ladd, 1) := by decide +kernel
theorem d_Mo_file_101 : decode b_Mo_file 101 = .ok (.lstore_n 2, 1) := by decide +kernel
theorem d_Mo_file_102 : decode b_Mo_file 102 = .ok (.aload_n 0, 1) := by decide +kernel
theorem d_Mo_file_103 : decode b_Mo_file 103 = .ok (.lload_n 2, 1) := by decide +kernel
theorem d_Mo_file_104 : decode b_Mo_file 104 = .ok (.invokevirtual 244, 3) := by decide +kernel
theorem d_Mo_file_107 : decode b_Mo_file 107 = .ok (.ifCond .ne 5, 3) := by decide +kernel
theorem d_Mo_file_110 : decode b_Mo_file 110 = .ok (.iconst 0, 1) := by decide +kernel
theorem d_Mo_file_111 : decode b_Mo_file 111 = .ok (.ireturn, 1) := by decide +kernel
theorem d_Mo_file_112 : decode b_Mo_file 112 = .ok (.aload_n 0, 1) := by decide +kernel
theorem d_Mo_file_113 : decode b_Mo_file 113 = .ok (.dup, 1) := by decide +kernel
theorem d_Mo_file_114 : decode b_Mo_file 114 = .ok (.getfield 155, 3) := by decide +kernel
theorem d_Mo_file_117 : decode b_Mo_file 117 = .ok (.lload_n 2, 1) := by decide +kernel
theorem d_Mo_file_118 : decode b_Mo_file 118 = .ok (.l2i, 1) := by decide +kernel
theorem d_Mo_file_119 : decode b_Mo_file 119 = .ok (.iadd, 1) := by decide +kernel
theorem d_Mo_file_120 : decode b_Mo_file 120 = .ok (.putfield 155, 3) := by decide +kernel
theorem d_Mo_file_123 : decode b_Mo_file 123 = .ok (.aload_n 0, 1) := by decide +kernel
theorem d_Mo_file_124 : decode b_Mo_file 124 = .ok (.iconst 1, 1) := by decide +kernel
theorem d_Mo_file_125 : decode b_Mo_file 125 = .ok (.invokevirtual 272, 3) := by decide +kernel
theorem d_Mo_file_128 : decode b_Mo_file 128 = .ok (.ifCond .eq 19, 3) := by decide +kernel
theorem d_Mo_file_131 : decode b_Mo_file 131 = .ok (.aload_n 0, 1) := by decide +kernel
theorem d_Mo_file_132 : decode b_Mo_file 132 = .ok (.bipush 8, 2) := by decide +kernel
theorem d_Mo_file_134 : decode b_Mo_file 134 = .ok (.invokevirtual 276, 3) := by decide +kernel
theorem d_Mo_file_137 : decode b_Mo_file 137 = .ok (.ifCond .eq 10, 3) := by decide +kernel
theorem d_Mo_file_140 : decode b_Mo_file 140 = .ok (.aload_n 0, 1) := by decide +kernel
theorem d_Mo_file_141 : decode b_Mo_file 141 = .ok (.invokevirtual 283, 3) := by decide +kernel
theorem d_Mo_file_144 : decode b_Mo_file 144 = .ok (.ifCond .ne 5, 3) := by decide +kernel
theorem d_Mo_file_147 : decode b_Mo_file 147 = .ok (.iconst 0, 1) := by decide +kernel
theorem d_Mo_file_148 : decode b_Mo_file 148 = .ok (.ireturn, 1) := by decide +kernel
theorem d_Mo_file_149 : decode b_Mo_file 149 = .ok (.aload_n 0, 1) := by decide +kernel
theorem d_Mo_file_150 : decode b_Mo_file 150 = .ok (.getfield 17, 3) := by decide +kernel
theorem d_Mo_file_153 : decode b_Mo_file 153 = .ok (.iload_n 1, 1) := by decide +kernel
theorem d_Mo_file_154 : decode b_Mo_file 154 = .ok (.aload_n 0, 1) := by decide +kernel
theorem d_Mo_file_155 : decode b_Mo_file 155 = .ok (.getfield 221, 3) := by decide +kernel
theorem d_Mo_file_158 : decode b_Mo_file 158 = .ok (.iastore, 1) := by decide +kernel
theorem d_Mo_file_159 : decode b_Mo_file 159 = .ok (.aload_n 0, 1) := by decide +kernel
theorem d_Mo_file_160 : decode b_Mo_file 160 = .ok (.getfield 155, 3) := by decide +kernel
theorem d_Mo_file_163 : decode b_Mo_file 163 = .ok (.aload_n 0, 1) := by decide +kernel
theorem d_Mo_file_164 : decode b_Mo_file 164 = .ok (.getfield 135, 3) := by decide +kernel
theorem d_Mo_file_167 : decode b_Mo_file 167 = .ok (.if_icmp .eq 16, 3) := by decide +kernel
theorem d_Mo_file_170 : decode b_Mo_file 170 = .ok (.aload_n 0, 1) := by decide +kernel
theorem d_Mo_file_171 : decode b_Mo_file 171 = .ok (.bipush 16, 2) := by decide +kernel
theorem d_Mo_file_173 : decode b_Mo_file 173 = .ok (.aload_n 0, 1) := by decide +kernel
theorem d_Mo_file_174 : decode b_Mo_file 174 = .ok (.getfield 155, 3) := by decide +kernel
theorem d_Mo_file_177 : decode b_Mo_file 177 = .ok (.invokevirtual 217, 3) := by decide +kernel
theorem d_Mo_file_180 : decode b_Mo_file 180 = .ok (.ifCond .eq 7, 3) := by decide +kernel
theorem d_Mo_file_183 : decode b_Mo_file 183 = .ok (.iconst 1, 1) := by decide +kernel
theorem d_Mo_file_184 : decode b_Mo_file 184 = .ok (.goto 4, 3) := by decide +kernel
theorem d_Mo_file_187 : decode b_Mo_file 187 = .ok (.iconst 0, 1) := by decide +kernel
theorem d_Mo_file_188 : decode b_Mo_file 188 = .ok (.ireturn, 1) := by decide +kernel
abbrev b_Mo_floor : ByteArray := prog_14_method_35_code
def y_Mo_floor : MethodName := ⟨"ZoneFilesModel", "floor", "(JJ)J"⟩
theorem d_Mo_floor_0 : decode b_Mo_floor 0 = .ok (.lload_n 0, 1) := by decide +kernel
theorem d_Mo_floor_1 : decode b_Mo_floor 1 = .ok (.lload_n 2, 1) := by decide +kernel
theorem d_Mo_floor_2 : decode b_Mo_floor 2 = .ok (.ldiv, 1) := by decide +kernel
theorem d_Mo_floor_3 : decode b_Mo_floor 3 = .ok (.lstore 4, 2) := by decide +kernel
theorem d_Mo_floor_5 : decode b_Mo_floor 5 = .ok (.lload 4, 2) := by decide +kernel
theorem d_Mo_floor_7 : decode b_Mo_floor 7 = .ok (.lload_n 2, 1) := by decide +kernel
theorem d_Mo_floor_8 : decode b_Mo_floor 8 = .ok (.lmul, 1) := by decide +kernel
theorem d_Mo_floor_9 : decode b_Mo_floor 9 = .ok (.lload_n 0, 1) := by decide +kernel
theorem d_Mo_floor_10 : decode b_Mo_floor 10 = .ok (.lcmp, 1) := by decide +kernel
theorem d_Mo_floor_11 : decode b_Mo_floor 11 = .ok (.ifCond .le 10, 3) := by decide +kernel
theorem d_Mo_floor_14 : decode b_Mo_floor 14 = .ok (.lload 4, 2) := by decide +kernel
theorem d_Mo_floor_16 : decode b_Mo_floor 16 = .ok (.lconst 1, 1) := by decide +kernel
theorem d_Mo_floor_17 : decode b_Mo_floor 17 = .ok (.lsub, 1) := by decide +kernel
theorem d_Mo_floor_18 : decode b_Mo_floor 18 = .ok (.goto 5, 3) := by decide +kernel
theorem d_Mo_floor_21 : decode b_Mo_floor 21 = .ok (.lload 4, 2) := by decide +kernel
theorem d_Mo_floor_23 : decode b_Mo_floor 23 = .ok (.lreturn, 1) := by decide +kernel
abbrev b_Mo_date : ByteArray := prog_14_method_39_code
def y_Mo_date : MethodName := ⟨"ZoneFilesModel", "date", "(J)V"⟩
theorem d_Mo_date_0 : decode b_Mo_date 0 = .ok (.lload_n 1, 1) := by decide +kernel
theorem d_Mo_date_1 : decode b_Mo_date 1 = .ok (.ldc2_w 311, 3) := by decide +kernel
theorem d_Mo_date_4 : decode b_Mo_date 4 = .ok (.ladd, 1) := by decide +kernel
theorem d_Mo_date_5 : decode b_Mo_date 5 = .ok (.lstore_n 3, 1) := by decide +kernel
theorem d_Mo_date_6 : decode b_Mo_date 6 = .ok (.lload_n 3, 1) := by decide +kernel
theorem d_Mo_date_7 : decode b_Mo_date 7 = .ok (.ldc2_w 307, 3) := by decide +kernel
theorem d_Mo_date_10 : decode b_Mo_date 10 = .ok (.invokestatic 292, 3) := by decide +kernel
theorem d_Mo_date_13 : decode b_Mo_date 13 = .ok (.lstore 5, 2) := by decide +kernel
theorem d_Mo_date_15 : decode b_Mo_date 15 = .ok (.lload_n 3, 1) := by decide +kernel
theorem d_Mo_date_16 : decode b_Mo_date 16 = .ok (.lload 5, 2) := by decide +kernel
theorem d_Mo_date_18 : decode b_Mo_date 18 = .ok (.ldc2_w 307, 3) := by decide +kernel
theorem d_Mo_date_21 : decode b_Mo_date 21 = .ok (.lmul, 1) := by decide +kernel
theorem d_Mo_date_22 : decode b_Mo_date 22 = .ok (.lsub, 1) := by decide +kernel
theorem d_Mo_date_23 : decode b_Mo_date 23 = .ok (.lstore 7, 2) := by decide +kernel
theorem d_Mo_date_25 : decode b_Mo_date 25 = .ok (.lload 7, 2) := by decide +kernel
theorem d_Mo_date_27 : decode b_Mo_date 27 = .ok (.lload 7, 2) := by decide +kernel
theorem d_Mo_date_29 : decode b_Mo_date 29 = .ok (.ldc2_w 313, 3) := by decide +kernel
theorem d_Mo_date_32 : decode b_Mo_date 32 = .ok (.ldiv, 1) := by decide +kernel
theorem d_Mo_date_33 : decode b_Mo_date 33 = .ok (.lsub, 1) := by decide +kernel
theorem d_Mo_date_34 : decode b_Mo_date 34 = .ok (.lload 7, 2) := by decide +kernel
theorem d_Mo_date_36 : decode b_Mo_date 36 = .ok (.ldc2_w 315, 3) := by decide +kernel
theorem d_Mo_date_39 : decode b_Mo_date 39 = .ok (.ldiv, 1) := by decide +kernel
theorem d_Mo_date_40 : decode b_Mo_date 40 = .ok (.ladd, 1) := by decide +kernel
theorem d_Mo_date_41 : decode b_Mo_date 41 = .ok (.lload 7, 2) := by decide +kernel
theorem d_Mo_date_43 : decode b_Mo_date 43 = .ok (.ldc2_w 317, 3) := by decide +kernel
theorem d_Mo_date_46 : decode b_Mo_date 46 = .ok (.ldiv, 1) := by decide +kernel
theorem d_Mo_date_47 : decode b_Mo_date 47 = .ok (.lsub, 1) := by decide +kernel
theorem d_Mo_date_48 : decode b_Mo_date 48 = .ok (.ldc2_w 309, 3) := by decide +kernel
theorem d_Mo_date_51 : decode b_Mo_date 51 = .ok (.ldiv, 1) := by decide +kernel
theorem d_Mo_date_52 : decode b_Mo_date 52 = .ok (.lstore 9, 2) := by decide +kernel
theorem d_Mo_date_54 : decode b_Mo_date 54 = .ok (.lload 7, 2) := by decide +kernel
theorem d_Mo_date_56 : decode b_Mo_date 56 = .ok (.ldc2_w 309, 3) := by decide +kernel
theorem d_Mo_date_59 : decode b_Mo_date 59 = .ok (.lload 9, 2) := by decide +kernel
theorem d_Mo_date_61 : decode b_Mo_date 61 = .ok (.lmul, 1) := by decide +kernel
theorem d_Mo_date_62 : decode b_Mo_date 62 = .ok (.lload 9, 2) := by decide +kernel
theorem d_Mo_date_64 : decode b_Mo_date 64 = .ok (.ldc2_w 263, 3) := by decide +kernel
theorem d_Mo_date_67 : decode b_Mo_date 67 = .ok (.ldiv, 1) := by decide +kernel
theorem d_Mo_date_68 : decode b_Mo_date 68 = .ok (.ladd, 1) := by decide +kernel
theorem d_Mo_date_69 : decode b_Mo_date 69 = .ok (.lload 9, 2) := by decide +kernel
theorem d_Mo_date_71 : decode b_Mo_date 71 = .ok (.ldc2_w 296, 3) := by decide +kernel
theorem d_Mo_date_74 : decode b_Mo_date 74 = .ok (.ldiv, 1) := by decide +kernel
theorem d_Mo_date_75 : decode b_Mo_date 75 = .ok (.lsub, 1) := by decide +kernel
theorem d_Mo_date_76 : decode b_Mo_date 76 = .ok (.lsub, 1) := by decide +kernel
theorem d_Mo_date_77 : decode b_Mo_date 77 = .ok (.lstore 11, 2) := by decide +kernel
theorem d_Mo_date_79 : decode b_Mo_date 79 = .ok (.ldc2_w 279, 3) := by decide +kernel
theorem d_Mo_date_82 : decode b_Mo_date 82 = .ok (.lload 11, 2) := by decide +kernel
theorem d_Mo_date_84 : decode b_Mo_date 84 = .ok (.lmul, 1) := by decide +kernel
theorem d_Mo_date_85 : decode b_Mo_date 85 = .ok (.ldc2_w 305, 3) := by decide +kernel
theorem d_Mo_date_88 : decode b_Mo_date 88 = .ok (.ladd, 1) := by decide +kernel
theorem d_Mo_date_89 : decode b_Mo_date 89 = .ok (.ldc2_w 303, 3) := by decide +kernel
theorem d_Mo_date_92 : decode b_Mo_date 92 = .ok (.ldiv, 1) := by decide +kernel
theorem d_Mo_date_93 : decode b_Mo_date 93 = .ok (.l2i, 1) := by decide +kernel
theorem d_Mo_date_94 : decode b_Mo_date 94 = .ok (.istore 13, 2) := by decide +kernel
theorem d_Mo_date_96 : decode b_Mo_date 96 = .ok (.aload_n 0, 1) := by decide +kernel
theorem d_Mo_date_97 : decode b_Mo_date 97 = .ok (.lload 11, 2) := by decide +kernel
theorem d_Mo_date_99 : decode b_Mo_date 99 = .ok (.ldc2_w 303, 3) := by decide +kernel
theorem d_Mo_date_102 : decode b_Mo_date 102 = .ok (.iload 13, 2) := by decide +kernel
theorem d_Mo_date_104 : decode b_Mo_date 104 = .ok (.i2l, 1) := by decide +kernel
theorem d_Mo_date_105 : decode b_Mo_date 105 = .ok (.lmul, 1) := by decide +kernel
theorem d_Mo_date_106 : decode b_Mo_date 106 = .ok (.ldc2_w 305, 3) := by decide +kernel
theorem d_Mo_date_109 : decode b_Mo_date 109 = .ok (.ladd, 1) := by decide +kernel
theorem d_Mo_date_110 : decode b_Mo_date 110 = .ok (.ldc2_w 279, 3) := by decide +kernel
theorem d_Mo_date_113 : decode b_Mo_date 113 = .ok (.ldiv, 1) := by decide +kernel
theorem d_Mo_date_114 : decode b_Mo_date 114 = .ok (.lsub, 1) := by decide +kernel
theorem d_Mo_date_115 : decode b_Mo_date 115 = .ok (.l2i, 1) := by decide +kernel
theorem d_Mo_date_116 : decode b_Mo_date 116 = .ok (.iconst 1, 1) := by decide +kernel
theorem d_Mo_date_117 : decode b_Mo_date 117 = .ok (.iadd, 1) := by decide +kernel
theorem d_Mo_date_118 : decode b_Mo_date 118 = .ok (.putfield 319, 3) := by decide +kernel
theorem d_Mo_date_121 : decode b_Mo_date 121 = .ok (.aload_n 0, 1) := by decide +kernel
theorem d_Mo_date_122 : decode b_Mo_date 122 = .ok (.iload 13, 2) := by decide +kernel
theorem d_Mo_date_124 : decode b_Mo_date 124 = .ok (.bipush 10, 2) := by decide +kernel
theorem d_Mo_date_126 : decode b_Mo_date 126 = .ok (.if_icmp .ge 10, 3) := by decide +kernel
theorem d_Mo_date_129 : decode b_Mo_date 129 = .ok (.iload 13, 2) := by decide +kernel
theorem d_Mo_date_131 : decode b_Mo_date 131 = .ok (.iconst 3, 1) := by decide +kernel
theorem d_Mo_date_132 : decode b_Mo_date 132 = .ok (.iadd, 1) := by decide +kernel
theorem d_Mo_date_133 : decode b_Mo_date 133 = .ok (.goto 8, 3) := by decide +kernel
theorem d_Mo_date_136 : decode b_Mo_date 136 = .ok (.iload 13, 2) := by decide +kernel
theorem d_Mo_date_138 : decode b_Mo_date 138 = .ok (.bipush 9, 2) := by decide +kernel
theorem d_Mo_date_140 : decode b_Mo_date 140 = .ok (.isub, 1) := by decide +kernel
theorem d_Mo_date_141 : decode b_Mo_date 141 = .ok (.putfield 322, 3) := by decide +kernel
theorem d_Mo_date_144 : decode b_Mo_date 144 = .ok (.aload_n 0, 1) := by decide +kernel
theorem d_Mo_date_145 : decode b_Mo_date 145 = .ok (.lload 9, 2) := by decide +kernel
theorem d_Mo_date_147 : decode b_Mo_date 147 = .ok (.lload 5, 2) := by decide +kernel
theorem d_Mo_date_149 : decode b_Mo_date 149 = .ok (.ldc2_w 298, 3) := by decide +kernel
theorem d_Mo_date_152 : decode b_Mo_date 152 = .ok (.lmul, 1) := by decide +kernel
theorem d_Mo_date_153 : decode b_Mo_date 153 = .ok (.ladd, 1) := by decide +kernel
theorem d_Mo_date_154 : decode b_Mo_date 154 = .ok (.aload_n 0, 1) := by decide +kernel
theorem d_Mo_date_155 : decode b_Mo_date 155 = .ok (.getfield 322, 3) := by decide +kernel
theorem d_Mo_date_158 : decode b_Mo_date 158 = .ok (.iconst 2, 1) := by decide +kernel
theorem d_Mo_date_159 : decode b_Mo_date 159 = .ok (.if_icmp .gt 7, 3) := by decide +kernel
theorem d_Mo_date_162 : decode b_Mo_date 162 = .ok (.lconst 1, 1) := by decide +kernel
theorem d_Mo_date_163 : decode b_Mo_date 163 = .ok (.goto 4, 3) := by decide +kernel
theorem d_Mo_date_166 : decode b_Mo_date 166 = .ok (.lconst 0, 1) := by decide +kernel
theorem d_Mo_date_167 : decode b_Mo_date 167 = .ok (.ladd, 1) := by decide +kernel
theorem d_Mo_date_168 : decode b_Mo_date 168 = .ok (.putfield 325, 3) := by decide +kernel
theorem d_Mo_date_171 : decode b_Mo_date 171 = .ok (.return_, 1) := by decide +kernel
abbrev b_Mo_about : ByteArray := prog_14_method_46_code
def y_Mo_about : MethodName := ⟨"ZoneFilesModel", "about", "(J)J"⟩
theorem d_Mo_about_0 : decode b_Mo_about 0 = .ok (.aload_n 0, 1) := by decide +kernel
theorem d_Mo_about_1 : decode b_Mo_about 1 = .ok (.lload_n 1, 1) := by decide +kernel
theorem d_Mo_about_2 : decode b_Mo_about 2 = .ok (.ldc2_w 335, 3) := by decide +kernel
theorem d_Mo_about_5 : decode b_Mo_about 5 = .ok (.invokestatic 292, 3) := by decide +kernel
theorem d_Mo_about_8 : decode b_Mo_about 8 = .ok (.invokevirtual 337, 3) := by decide +kernel
theorem d_Mo_about_11 : decode b_Mo_about 11 = .ok (.aload_n 0, 1) := by decide +kernel
theorem d_Mo_about_12 : decode b_Mo_about 12 = .ok (.getfield 325, 3) := by decide +kernel
theorem d_Mo_about_15 : decode b_Mo_about 15 = .ok (.lreturn, 1) := by decide +kernel
abbrev b_Mo_days : ByteArray := prog_14_method_38_code
def y_Mo_days : MethodName := ⟨"ZoneFilesModel", "days", "(JII)J"⟩
theorem d_Mo_days_0 : decode b_Mo_days 0 = .ok (.iload_n 2, 1) := by decide +kernel
theorem d_Mo_days_1 : decode b_Mo_days 1 = .ok (.iconst 2, 1) := by decide +kernel
theorem d_Mo_days_2 : decode b_Mo_days 2 = .ok (.if_icmp .gt 9, 3) := by decide +kernel
theorem d_Mo_days_5 : decode b_Mo_days 5 = .ok (.lload_n 0, 1) := by decide +kernel
theorem d_Mo_days_6 : decode b_Mo_days 6 = .ok (.lconst 1, 1) := by decide +kernel
theorem d_Mo_days_7 : decode b_Mo_days 7 = .ok (.lsub, 1) := by decide +kernel
theorem d_Mo_days_8 : decode b_Mo_days 8 = .ok (.goto 4, 3) := by decide +kernel
theorem d_Mo_days_11 : decode b_Mo_days 11 = .ok (.lload_n 0, 1) := by decide +kernel
theorem d_Mo_days_12 : decode b_Mo_days 12 = .ok (.lstore 4, 2) := by decide +kernel
theorem d_Mo_days_14 : decode b_Mo_days 14 = .ok (.lload 4, 2) := by decide +kernel
theorem d_Mo_days_16 : decode b_Mo_days 16 = .ok (.ldc2_w 298, 3) := by decide +kernel
theorem d_Mo_days_19 : decode b_Mo_days 19 = .ok (.invokestatic 292, 3) := by decide +kernel
theorem d_Mo_days_22 : decode b_Mo_days 22 = .ok (.lstore 6, 2) := by decide +kernel
theorem d_Mo_days_24 : decode b_Mo_days 24 = .ok (.lload 4, 2) := by decide +kernel
theorem d_Mo_days_26 : decode b_Mo_days 26 = .ok (.lload 6, 2) := by decide +kernel
theorem d_Mo_days_28 : decode b_Mo_days 28 = .ok (.ldc2_w 298, 3) := by decide +kernel
theorem d_Mo_days_31 : decode b_Mo_days 31 = .ok (.lmul, 1) := by decide +kernel
theorem d_Mo_days_32 : decode b_Mo_days 32 = .ok (.lsub, 1) := by decide +kernel
theorem d_Mo_days_33 : decode b_Mo_days 33 = .ok (.lstore 8, 2) := by decide +kernel
theorem d_Mo_days_35 : decode b_Mo_days 35 = .ok (.ldc2_w 303, 3) := by decide +kernel
theorem d_Mo_days_38 : decode b_Mo_days 38 = .ok (.iload_n 2, 1) := by decide +kernel
theorem d_Mo_days_39 : decode b_Mo_days 39 = .ok (.iconst 2, 1) := by decide +kernel
theorem d_Mo_days_40 : decode b_Mo_days 40 = .ok (.if_icmp .le 9, 3) := by decide +kernel
theorem d_Mo_days_43 : decode b_Mo_days 43 = .ok (.iload_n 2, 1) := by decide +kernel
theorem d_Mo_days_44 : decode b_Mo_days 44 = .ok (.iconst 3, 1) := by decide +kernel
theorem d_Mo_days_45 : decode b_Mo_days 45 = .ok (.isub, 1) := by decide +kernel
theorem d_Mo_days_46 : decode b_Mo_days 46 = .ok (.goto 7, 3) := by decide +kernel
theorem d_Mo_days_49 : decode b_Mo_days 49 = .ok (.iload_n 2, 1) := by decide +kernel
theorem d_Mo_days_50 : decode b_Mo_days 50 = .ok (.bipush 9, 2) := by decide +kernel
theorem d_Mo_days_52 : decode b_Mo_days 52 = .ok (.iadd, 1) := by decide +kernel
theorem d_Mo_days_53 : decode b_Mo_days 53 = .ok (.i2l, 1) := by decide +kernel
theorem d_Mo_days_54 : decode b_Mo_days 54 = .ok (.lmul, 1) := by decide +kernel
theorem d_Mo_days_55 : decode b_Mo_days 55 = .ok (.ldc2_w 305, 3) := by decide +kernel
theorem d_Mo_days_58 : decode b_Mo_days 58 = .ok (.ladd, 1) := by decide +kernel
theorem d_Mo_days_59 : decode b_Mo_days 59 = .ok (.ldc2_w 279, 3) := by decide +kernel
theorem d_Mo_days_62 : decode b_Mo_days 62 = .ok (.ldiv, 1) := by decide +kernel
theorem d_Mo_days_63 : decode b_Mo_days 63 = .ok (.iload_n 3, 1) := by decide +kernel
theorem d_Mo_days_64 : decode b_Mo_days 64 = .ok (.i2l, 1) := by decide +kernel
theorem d_Mo_days_65 : decode b_Mo_days 65 = .ok (.ladd, 1) := by decide +kernel
theorem d_Mo_days_66 : decode b_Mo_days 66 = .ok (.lconst 1, 1) := by decide +kernel
theorem d_Mo_days_67 : decode b_Mo_days 67 = .ok (.lsub, 1) := by decide +kernel
theorem d_Mo_days_68 : decode b_Mo_days 68 = .ok (.lstore 10, 2) := by decide +kernel
theorem d_Mo_days_70 : decode b_Mo_days 70 = .ok (.lload 6, 2) := by decide +kernel
theorem d_Mo_days_72 : decode b_Mo_days 72 = .ok (.ldc2_w 307, 3) := by decide +kernel
theorem d_Mo_days_75 : decode b_Mo_days 75 = .ok (.lmul, 1) := by decide +kernel
theorem d_Mo_days_76 : decode b_Mo_days 76 = .ok (.lload 8, 2) := by decide +kernel
theorem d_Mo_days_78 : decode b_Mo_days 78 = .ok (.ldc2_w 309, 3) := by decide +kernel
theorem d_Mo_days_81 : decode b_Mo_days 81 = .ok (.lmul, 1) := by decide +kernel
theorem d_Mo_days_82 : decode b_Mo_days 82 = .ok (.ladd, 1) := by decide +kernel
theorem d_Mo_days_83 : decode b_Mo_days 83 = .ok (.lload 8, 2) := by decide +kernel
theorem d_Mo_days_85 : decode b_Mo_days 85 = .ok (.ldc2_w 263, 3) := by decide +kernel
theorem d_Mo_days_88 : decode b_Mo_days 88 = .ok (.ldiv, 1) := by decide +kernel
theorem d_Mo_days_89 : decode b_Mo_days 89 = .ok (.ladd, 1) := by decide +kernel
theorem d_Mo_days_90 : decode b_Mo_days 90 = .ok (.lload 8, 2) := by decide +kernel
theorem d_Mo_days_92 : decode b_Mo_days 92 = .ok (.ldc2_w 296, 3) := by decide +kernel
theorem d_Mo_days_95 : decode b_Mo_days 95 = .ok (.ldiv, 1) := by decide +kernel
theorem d_Mo_days_96 : decode b_Mo_days 96 = .ok (.lsub, 1) := by decide +kernel
theorem d_Mo_days_97 : decode b_Mo_days 97 = .ok (.lload 10, 2) := by decide +kernel
theorem d_Mo_days_99 : decode b_Mo_days 99 = .ok (.ladd, 1) := by decide +kernel
theorem d_Mo_days_100 : decode b_Mo_days 100 = .ok (.ldc2_w 311, 3) := by decide +kernel
theorem d_Mo_days_103 : decode b_Mo_days 103 = .ok (.lsub, 1) := by decide +kernel
theorem d_Mo_days_104 : decode b_Mo_days 104 = .ok (.lreturn, 1) := by decide +kernel
abbrev b_Mo_isLong : ByteArray := prog_14_method_36_code
def y_Mo_isLong : MethodName := ⟨"ZoneFilesModel", "isLong", "(J)Z"⟩
theorem d_Mo_isLong_0 : decode b_Mo_isLong 0 = .ok (.lload_n 0, 1) := by decide +kernel
theorem d_Mo_isLong_1 : decode b_Mo_isLong 1 = .ok (.ldc2_w 263, 3) := by decide +kernel
theorem d_Mo_isLong_4 : decode b_Mo_isLong 4 = .ok (.invokestatic 292, 3) := by decide +kernel
theorem d_Mo_isLong_7 : decode b_Mo_isLong 7 = .ok (.ldc2_w 263, 3) := by decide +kernel
theorem d_Mo_isLong_10 : decode b_Mo_isLong 10 = .ok (.lmul, 1) := by decide +kernel
theorem d_Mo_isLong_11 : decode b_Mo_isLong 11 = .ok (.lload_n 0, 1) := by decide +kernel
theorem d_Mo_isLong_12 : decode b_Mo_isLong 12 = .ok (.lcmp, 1) := by decide +kernel
theorem d_Mo_isLong_13 : decode b_Mo_isLong 13 = .ok (.ifCond .ne 39, 3) := by decide +kernel
theorem d_Mo_isLong_16 : decode b_Mo_isLong 16 = .ok (.lload_n 0, 1) := by decide +kernel
theorem d_Mo_isLong_17 : decode b_Mo_isLong 17 = .ok (.ldc2_w 296, 3) := by decide +kernel
theorem d_Mo_isLong_20 : decode b_Mo_isLong 20 = .ok (.invokestatic 292, 3) := by decide +kernel
theorem d_Mo_isLong_23 : decode b_Mo_isLong 23 = .ok (.ldc2_w 296, 3) := by decide +kernel
theorem d_Mo_isLong_26 : decode b_Mo_isLong 26 = .ok (.lmul, 1) := by decide +kernel
theorem d_Mo_isLong_27 : decode b_Mo_isLong 27 = .ok (.lload_n 0, 1) := by decide +kernel
theorem d_Mo_isLong_28 : decode b_Mo_isLong 28 = .ok (.lcmp, 1) := by decide +kernel
theorem d_Mo_isLong_29 : decode b_Mo_isLong 29 = .ok (.ifCond .ne 19, 3) := by decide +kernel
theorem d_Mo_isLong_32 : decode b_Mo_isLong 32 = .ok (.lload_n 0, 1) := by decide +kernel
theorem d_Mo_isLong_33 : decode b_Mo_isLong 33 = .ok (.ldc2_w 298, 3) := by decide +kernel
theorem d_Mo_isLong_36 : decode b_Mo_isLong 36 = .ok (.invokestatic 292, 3) := by decide +kernel
theorem d_Mo_isLong_39 : decode b_Mo_isLong 39 = .ok (.ldc2_w 298, 3) := by decide +kernel
theorem d_Mo_isLong_42 : decode b_Mo_isLong 42 = .ok (.lmul, 1) := by decide +kernel
theorem d_Mo_isLong_43 : decode b_Mo_isLong 43 = .ok (.lload_n 0, 1) := by decide +kernel
theorem d_Mo_isLong_44 : decode b_Mo_isLong 44 = .ok (.lcmp, 1) := by decide +kernel
theorem d_Mo_isLong_45 : decode b_Mo_isLong 45 = .ok (.ifCond .ne 7, 3) := by decide +kernel
theorem d_Mo_isLong_48 : decode b_Mo_isLong 48 = .ok (.iconst 1, 1) := by decide +kernel
theorem d_Mo_isLong_49 : decode b_Mo_isLong 49 = .ok (.goto 4, 3) := by decide +kernel
theorem d_Mo_isLong_52 : decode b_Mo_isLong 52 = .ok (.iconst 0, 1) := by decide +kernel
theorem d_Mo_isLong_53 : decode b_Mo_isLong 53 = .ok (.ireturn, 1) := by decide +kernel
abbrev b_Mo_length : ByteArray := prog_14_method_37_code
def y_Mo_length : MethodName := ⟨"ZoneFilesModel", "length", "(JI)I"⟩
theorem d_Mo_length_0 : decode b_Mo_length 0 = .ok (.iload_n 2, 1) := by decide +kernel
theorem d_Mo_length_1 : decode b_Mo_length 1 = .ok (.iconst 2, 1) := by decide +kernel
theorem d_Mo_length_2 : decode b_Mo_length 2 = .ok (.if_icmp .ne 20, 3) := by decide +kernel
theorem d_Mo_length_5 : decode b_Mo_length 5 = .ok (.lload_n 0, 1) := by decide +kernel
theorem d_Mo_length_6 : decode b_Mo_length 6 = .ok (.invokestatic 300, 3) := by decide +kernel
theorem d_Mo_length_9 : decode b_Mo_length 9 = .ok (.ifCond .eq 8, 3) := by decide +kernel
theorem d_Mo_length_12 : decode b_Mo_length 12 = .ok (.bipush 29, 2) := by decide +kernel
theorem d_Mo_length_14 : decode b_Mo_length 14 = .ok (.goto 38, 3) := by decide +kernel
theorem d_Mo_length_17 : decode b_Mo_length 17 = .ok (.bipush 28, 2) := by decide +kernel
theorem d_Mo_length_19 : decode b_Mo_length 19 = .ok (.goto 33, 3) := by decide +kernel
theorem d_Mo_length_22 : decode b_Mo_length 22 = .ok (.iload_n 2, 1) := by decide +kernel
theorem d_Mo_length_23 : decode b_Mo_length 23 = .ok (.iconst 4, 1) := by decide +kernel
theorem d_Mo_length_24 : decode b_Mo_length 24 = .ok (.if_icmp .eq 21, 3) := by decide +kernel
theorem d_Mo_length_27 : decode b_Mo_length 27 = .ok (.iload_n 2, 1) := by decide +kernel
theorem d_Mo_length_28 : decode b_Mo_length 28 = .ok (.bipush 6, 2) := by decide +kernel
theorem d_Mo_length_30 : decode b_Mo_length 30 = .ok (.if_icmp .eq 15, 3) := by decide +kernel
theorem d_Mo_length_33 : decode b_Mo_length 33 = .ok (.iload_n 2, 1) := by decide +kernel
theorem d_Mo_length_34 : decode b_Mo_length 34 = .ok (.bipush 9, 2) := by decide +kernel
theorem d_Mo_length_36 : decode b_Mo_length 36 = .ok (.if_icmp .eq 9, 3) := by decide +kernel
theorem d_Mo_length_39 : decode b_Mo_length 39 = .ok (.iload_n 2, 1) := by decide +kernel
theorem d_Mo_length_40 : decode b_Mo_length 40 = .ok (.bipush 11, 2) := by decide +kernel
theorem d_Mo_length_42 : decode b_Mo_length 42 = .ok (.if_icmp .ne 8, 3) := by decide +kernel
theorem d_Mo_length_45 : decode b_Mo_length 45 = .ok (.bipush 30, 2) := by decide +kernel
theorem d_Mo_length_47 : decode b_Mo_length 47 = .ok (.goto 5, 3) := by decide +kernel
theorem d_Mo_length_50 : decode b_Mo_length 50 = .ok (.bipush 31, 2) := by decide +kernel
theorem d_Mo_length_52 : decode b_Mo_length 52 = .ok (.ireturn, 1) := by decide +kernel
abbrev b_Mo_weekday : ByteArray := prog_14_method_40_code
def y_Mo_weekday : MethodName := ⟨"ZoneFilesModel", "weekday", "(J)I"⟩
theorem d_Mo_weekday_0 : decode b_Mo_weekday 0 = .ok (.lload_n 0, 1) := by decide +kernel
theorem d_Mo_weekday_1 : decode b_Mo_weekday 1 = .ok (.ldc2_w 263, 3) := by decide +kernel
theorem d_Mo_weekday_4 : decode b_Mo_weekday 4 = .ok (.ladd, 1) := by decide +kernel
theorem d_Mo_weekday_5 : decode b_Mo_weekday 5 = .ok (.lstore_n 2, 1) := by decide +kernel
theorem d_Mo_weekday_6 : decode b_Mo_weekday 6 = .ok (.lload_n 2, 1) := by decide +kernel
theorem d_Mo_weekday_7 : decode b_Mo_weekday 7 = .ok (.lload_n 2, 1) := by decide +kernel
theorem d_Mo_weekday_8 : decode b_Mo_weekday 8 = .ok (.ldc2_w 329, 3) := by decide +kernel
theorem d_Mo_weekday_11 : decode b_Mo_weekday 11 = .ok (.invokestatic 292, 3) := by decide +kernel
theorem d_Mo_weekday_14 : decode b_Mo_weekday 14 = .ok (.ldc2_w 329, 3) := by decide +kernel
theorem d_Mo_weekday_17 : decode b_Mo_weekday 17 = .ok (.lmul, 1) := by decide +kernel
theorem d_Mo_weekday_18 : decode b_Mo_weekday 18 = .ok (.lsub, 1) := by decide +kernel
theorem d_Mo_weekday_19 : decode b_Mo_weekday 19 = .ok (.l2i, 1) := by decide +kernel
theorem d_Mo_weekday_20 : decode b_Mo_weekday 20 = .ok (.ireturn, 1) := by decide +kernel
abbrev b_Mo_ruleDay : ByteArray := prog_14_method_44_code
def y_Mo_ruleDay : MethodName := ⟨"ZoneFilesModel", "ruleDay", "(IJ)J"⟩
theorem d_Mo_ruleDay_0 : decode b_Mo_ruleDay 0 = .ok (.lload_n 2, 1) := by decide +kernel
theorem d_Mo_ruleDay_1 : decode b_Mo_ruleDay 1 = .ok (.iconst 1, 1) := by decide +kernel
theorem d_Mo_ruleDay_2 : decode b_Mo_ruleDay 2 = .ok (.iconst 1, 1) := by decide +kernel
theorem d_Mo_ruleDay_3 : decode b_Mo_ruleDay 3 = .ok (.invokestatic 349, 3) := by decide +kernel
theorem d_Mo_ruleDay_6 : decode b_Mo_ruleDay 6 = .ok (.lstore 4, 2) := by decide +kernel
theorem d_Mo_ruleDay_8 : decode b_Mo_ruleDay 8 = .ok (.aload_n 0, 1) := by decide +kernel
theorem d_Mo_ruleDay_9 : decode b_Mo_ruleDay 9 = .ok (.getfield 87, 3) := by decide +kernel
theorem d_Mo_ruleDay_12 : decode b_Mo_ruleDay 12 = .ok (.iload_n 1, 1) := by decide +kernel
theorem d_Mo_ruleDay_13 : decode b_Mo_ruleDay 13 = .ok (.iaload, 1) := by decide +kernel
theorem d_Mo_ruleDay_14 : decode b_Mo_ruleDay 14 = .ok (.bipush 74, 2) := by decide +kernel
theorem d_Mo_ruleDay_16 : decode b_Mo_ruleDay 16 = .ok (.if_icmp .ne 40, 3) := by decide +kernel
theorem d_Mo_ruleDay_19 : decode b_Mo_ruleDay 19 = .ok (.lload 4, 2) := by decide +kernel
theorem d_Mo_ruleDay_21 : decode b_Mo_ruleDay 21 = .ok (.aload_n 0, 1) := by decide +kernel
theorem d_Mo_ruleDay_22 : decode b_Mo_ruleDay 22 = .ok (.getfield 90, 3) := by decide +kernel
theorem d_Mo_ruleDay_25 : decode b_Mo_ruleDay 25 = .ok (.iload_n 1, 1) := by decide +kernel
theorem d_Mo_ruleDay_26 : decode b_Mo_ruleDay 26 = .ok (.iaload, 1) := by decide +kernel
theorem d_Mo_ruleDay_27 : decode b_Mo_ruleDay 27 = .ok (.i2l, 1) := by decide +kernel
theorem d_Mo_ruleDay_28 : decode b_Mo_ruleDay 28 = .ok (.ladd, 1) := by decide +kernel
theorem d_Mo_ruleDay_29 : decode b_Mo_ruleDay 29 = .ok (.lconst 1, 1) := by decide +kernel
theorem d_Mo_ruleDay_30 : decode b_Mo_ruleDay 30 = .ok (.lsub, 1) := by decide +kernel
theorem d_Mo_ruleDay_31 : decode b_Mo_ruleDay 31 = .ok (.lload_n 2, 1) := by decide +kernel
theorem d_Mo_ruleDay_32 : decode b_Mo_ruleDay 32 = .ok (.invokestatic 300, 3) := by decide +kernel
theorem d_Mo_ruleDay_35 : decode b_Mo_ruleDay 35 = .ok (.ifCond .eq 18, 3) := by decide +kernel
theorem d_Mo_ruleDay_38 : decode b_Mo_ruleDay 38 = .ok (.aload_n 0, 1) := by decide +kernel
theorem d_Mo_ruleDay_39 : decode b_Mo_ruleDay 39 = .ok (.getfield 90, 3) := by decide +kernel
theorem d_Mo_ruleDay_42 : decode b_Mo_ruleDay 42 = .ok (.iload_n 1, 1) := by decide +kernel
theorem d_Mo_ruleDay_43 : decode b_Mo_ruleDay 43 = .ok (.iaload, 1) := by decide +kernel
theorem d_Mo_ruleDay_44 : decode b_Mo_ruleDay 44 = .ok (.bipush 60, 2) := by decide +kernel
theorem d_Mo_ruleDay_46 : decode b_Mo_ruleDay 46 = .ok (.if_icmp .lt 7, 3) := by decide +kernel
theorem d_Mo_ruleDay_49 : decode b_Mo_ruleDay 49 = .ok (.lconst 1, 1) := by decide +kernel
theorem d_Mo_ruleDay_50 : decode b_Mo_ruleDay 50 = .ok (.goto 4, 3) := by decide +kernel
theorem d_Mo_ruleDay_53 : decode b_Mo_ruleDay 53 = .ok (.lconst 0, 1) := by decide +kernel
theorem d_Mo_ruleDay_54 : decode b_Mo_ruleDay 54 = .ok (.ladd, 1) := by decide +kernel
theorem d_Mo_ruleDay_55 : decode b_Mo_ruleDay 55 = .ok (.lreturn, 1) := by decide +kernel
theorem d_Mo_ruleDay_56 : decode b_Mo_ruleDay 56 = .ok (.aload_n 0, 1) := by decide +kernel
theorem d_Mo_ruleDay_57 : decode b_Mo_ruleDay 57 = .ok (.getfield 87, 3) := by decide +kernel
theorem d_Mo_ruleDay_60 : decode b_Mo_ruleDay 60 = .ok (.iload_n 1, 1) := by decide +kernel
theorem d_Mo_ruleDay_61 : decode b_Mo_ruleDay 61 = .ok (.iaload, 1) := by decide +kernel
theorem d_Mo_ruleDay_62 : decode b_Mo_ruleDay 62 = .ok (.ifCond .ne 14, 3) := by decide +kernel
theorem d_Mo_ruleDay_65 : decode b_Mo_ruleDay 65 = .ok (.lload 4, 2) := by decide +kernel
theorem d_Mo_ruleDay_67 : decode b_Mo_ruleDay 67 = .ok (.aload_n 0, 1) := by decide +kernel
theorem d_Mo_ruleDay_68 : decode b_Mo_ruleDay 68 = .ok (.getfield 90, 3) := by decide +kernel
theorem d_Mo_ruleDay_71 : decode b_Mo_ruleDay 71 = .ok (.iload_n 1, 1) := by decide +kernel
theorem d_Mo_ruleDay_72 : decode b_Mo_ruleDay 72 = .ok (.iaload, 1) := by decide +kernel
theorem d_Mo_ruleDay_73 : decode b_Mo_ruleDay 73 = .ok (.i2l, 1) := by decide +kernel
theorem d_Mo_ruleDay_74 : decode b_Mo_ruleDay 74 = .ok (.ladd, 1) := by decide +kernel
theorem d_Mo_ruleDay_75 : decode b_Mo_ruleDay 75 = .ok (.lreturn, 1) := by decide +kernel
theorem d_Mo_ruleDay_76 : decode b_Mo_ruleDay 76 = .ok (.lload_n 2, 1) := by decide +kernel
theorem d_Mo_ruleDay_77 : decode b_Mo_ruleDay 77 = .ok (.aload_n 0, 1) := by decide +kernel
theorem d_Mo_ruleDay_78 : decode b_Mo_ruleDay 78 = .ok (.getfield 90, 3) := by decide +kernel
theorem d_Mo_ruleDay_81 : decode b_Mo_ruleDay 81 = .ok (.iload_n 1, 1) := by decide +kernel
theorem d_Mo_ruleDay_82 : decode b_Mo_ruleDay 82 = .ok (.iaload, 1) := by decide +kernel
theorem d_Mo_ruleDay_83 : decode b_Mo_ruleDay 83 = .ok (.iconst 1, 1) := by decide +kernel
theorem d_Mo_ruleDay_84 : decode b_Mo_ruleDay 84 = .ok (.invokestatic 349, 3) := by decide +kernel
theorem d_Mo_ruleDay_87 : decode b_Mo_ruleDay 87 = .ok (.lstore 6, 2) := by decide +kernel
theorem d_Mo_ruleDay_89 : decode b_Mo_ruleDay 89 = .ok (.aload_n 0, 1) := by decide +kernel
theorem d_Mo_ruleDay_90 : decode b_Mo_ruleDay 90 = .ok (.getfield 96, 3) := by decide +kernel
theorem d_Mo_ruleDay_93 : decode b_Mo_ruleDay 93 = .ok (.iload_n 1, 1) := by decide +kernel
theorem d_Mo_ruleDay_94 : decode b_Mo_ruleDay 94 = .ok (.iaload, 1) := by decide +kernel
theorem d_Mo_ruleDay_95 : decode b_Mo_ruleDay 95 = .ok (.lload 6, 2) := by decide +kernel
theorem d_Mo_ruleDay_97 : decode b_Mo_ruleDay 97 = .ok (.invokestatic 345, 3) := by decide +kernel
theorem d_Mo_ruleDay_100 : decode b_Mo_ruleDay 100 = .ok (.isub, 1) := by decide +kernel
theorem d_Mo_ruleDay_101 : decode b_Mo_ruleDay 101 = .ok (.bipush 7, 2) := by decide +kernel
theorem d_Mo_ruleDay_103 : decode b_Mo_ruleDay 103 = .ok (.iadd, 1) := by decide +kernel
theorem d_Mo_ruleDay_104 : decode b_Mo_ruleDay 104 = .ok (.bipush 7, 2) := by decide +kernel
theorem d_Mo_ruleDay_106 : decode b_Mo_ruleDay 106 = .ok (.irem, 1) := by decide +kernel
theorem d_Mo_ruleDay_107 : decode b_Mo_ruleDay 107 = .ok (.i2l, 1) := by decide +kernel
theorem d_Mo_ruleDay_108 : decode b_Mo_ruleDay 108 = .ok (.ldc2_w 329, 3) := by decide +kernel
theorem d_Mo_ruleDay_111 : decode b_Mo_ruleDay 111 = .ok (.aload_n 0, 1) := by decide +kernel
theorem d_Mo_ruleDay_112 : decode b_Mo_ruleDay 112 = .ok (.getfield 93, 3) := by decide +kernel
theorem d_Mo_ruleDay_115 : decode b_Mo_ruleDay 115 = .ok (.iload_n 1, 1) := by decide +kernel
theorem d_Mo_ruleDay_116 : decode b_Mo_ruleDay 116 = .ok (.iaload, 1) := by decide +kernel
theorem d_Mo_ruleDay_117 : decode b_Mo_ruleDay 117 = .ok (.iconst 1, 1) := by decide +kernel
theorem d_Mo_ruleDay_118 : decode b_Mo_ruleDay 118 = .ok (.isub, 1) := by decide +kernel
theorem d_Mo_ruleDay_119 : decode b_Mo_ruleDay 119 = .ok (.i2l, 1) := by decide +kernel
theorem d_Mo_ruleDay_120 : decode b_Mo_ruleDay 120 = .ok (.lmul, 1) := by decide +kernel
theorem d_Mo_ruleDay_121 : decode b_Mo_ruleDay 121 = .ok (.ladd, 1) := by decide +kernel
theorem d_Mo_ruleDay_122 : decode b_Mo_ruleDay 122 = .ok (.lstore 8, 2) := by decide +kernel
theorem d_Mo_ruleDay_124 : decode b_Mo_ruleDay 124 = .ok (.lload 6, 2) := by decide +kernel
theorem d_Mo_ruleDay_126 : decode b_Mo_ruleDay 126 = .ok (.lload 8, 2) := by decide +kernel
theorem d_Mo_ruleDay_128 : decode b_Mo_ruleDay 128 = .ok (.lload_n 2, 1) := by decide +kernel
theorem d_Mo_ruleDay_129 : decode b_Mo_ruleDay 129 = .ok (.aload_n 0, 1) := by decide +kernel
theorem d_Mo_ruleDay_130 : decode b_Mo_ruleDay 130 = .ok (.getfield 90, 3) := by decide +kernel
theorem d_Mo_ruleDay_133 : decode b_Mo_ruleDay 133 = .ok (.iload_n 1, 1) := by decide +kernel
theorem d_Mo_ruleDay_134 : decode b_Mo_ruleDay 134 = .ok (.iaload, 1) := by decide +kernel
theorem d_Mo_ruleDay_135 : decode b_Mo_ruleDay 135 = .ok (.invokestatic 357, 3) := by decide +kernel
theorem d_Mo_ruleDay_138 : decode b_Mo_ruleDay 138 = .ok (.i2l, 1) := by decide +kernel
theorem d_Mo_ruleDay_139 : decode b_Mo_ruleDay 139 = .ok (.lcmp, 1) := by decide +kernel
theorem d_Mo_ruleDay_140 : decode b_Mo_ruleDay 140 = .ok (.ifCond .lt 12, 3) := by decide +kernel
theorem d_Mo_ruleDay_143 : decode b_Mo_ruleDay 143 = .ok (.lload 8, 2) := by decide +kernel
theorem d_Mo_ruleDay_145 : decode b_Mo_ruleDay 145 = .ok (.ldc2_w 329, 3) := by decide +kernel
theorem d_Mo_ruleDay_148 : decode b_Mo_ruleDay 148 = .ok (.lsub, 1) := by decide +kernel
theorem d_Mo_ruleDay_149 : decode b_Mo_ruleDay 149 = .ok (.goto 5, 3) := by decide +kernel
theorem d_Mo_ruleDay_152 : decode b_Mo_ruleDay 152 = .ok (.lload 8, 2) := by decide +kernel
theorem d_Mo_ruleDay_154 : decode b_Mo_ruleDay 154 = .ok (.ladd, 1) := by decide +kernel
theorem d_Mo_ruleDay_155 : decode b_Mo_ruleDay 155 = .ok (.lreturn, 1) := by decide +kernel
abbrev b_Mo_event : ByteArray := prog_14_method_45_code
def y_Mo_event : MethodName := ⟨"ZoneFilesModel", "event", "(IJI)J"⟩
theorem d_Mo_event_0 : decode b_Mo_event 0 = .ok (.aload_n 0, 1) := by decide +kernel
theorem d_Mo_event_1 : decode b_Mo_event 1 = .ok (.iconst 2, 1) := by decide +kernel
theorem d_Mo_event_2 : decode b_Mo_event 2 = .ok (.iload_n 1, 1) := by decide +kernel
theorem d_Mo_event_3 : decode b_Mo_event 3 = .ok (.imul, 1) := by decide +kernel
theorem d_Mo_event_4 : decode b_Mo_event 4 = .ok (.iload 4, 2) := by decide +kernel
theorem d_Mo_event_6 : decode b_Mo_event 6 = .ok (.iadd, 1) := by decide +kernel
theorem d_Mo_event_7 : decode b_Mo_event 7 = .ok (.lload_n 2, 1) := by decide +kernel
theorem d_Mo_event_8 : decode b_Mo_event 8 = .ok (.invokevirtual 362, 3) := by decide +kernel
theorem d_Mo_event_11 : decode b_Mo_event 11 = .ok (.ldc2_w 335, 3) := by decide +kernel
theorem d_Mo_event_14 : decode b_Mo_event 14 = .ok (.lmul, 1) := by decide +kernel
theorem d_Mo_event_15 : decode b_Mo_event 15 = .ok (.aload_n 0, 1) := by decide +kernel
theorem d_Mo_event_16 : decode b_Mo_event 16 = .ok (.getfield 99, 3) := by decide +kernel
theorem d_Mo_event_19 : decode b_Mo_event 19 = .ok (.iconst 2, 1) := by decide +kernel
theorem d_Mo_event_20 : decode b_Mo_event 20 = .ok (.iload_n 1, 1) := by decide +kernel
theorem d_Mo_event_21 : decode b_Mo_event 21 = .ok (.imul, 1) := by decide +kernel
theorem d_Mo_event_22 : decode b_Mo_event 22 = .ok (.iload 4, 2) := by decide +kernel
theorem d_Mo_event_24 : decode b_Mo_event 24 = .ok (.iadd, 1) := by decide +kernel
theorem d_Mo_event_25 : decode b_Mo_event 25 = .ok (.iaload, 1) := by decide +kernel
theorem d_Mo_event_26 : decode b_Mo_event 26 = .ok (.i2l, 1) := by decide +kernel
theorem d_Mo_event_27 : decode b_Mo_event 27 = .ok (.ladd, 1) := by decide +kernel
theorem d_Mo_event_28 : decode b_Mo_event 28 = .ok (.aload_n 0, 1) := by decide +kernel
theorem d_Mo_event_29 : decode b_Mo_event 29 = .ok (.getfield 78, 3) := by decide +kernel
theorem d_Mo_event_32 : decode b_Mo_event 32 = .ok (.iconst 2, 1) := by decide +kernel
theorem d_Mo_event_33 : decode b_Mo_event 33 = .ok (.iload_n 1, 1) := by decide +kernel
theorem d_Mo_event_34 : decode b_Mo_event 34 = .ok (.imul, 1) := by decide +kernel
theorem d_Mo_event_35 : decode b_Mo_event 35 = .ok (.iload 4, 2) := by decide +kernel
theorem d_Mo_event_37 : decode b_Mo_event 37 = .ok (.iadd, 1) := by decide +kernel
theorem d_Mo_event_38 : decode b_Mo_event 38 = .ok (.iaload, 1) := by decide +kernel
theorem d_Mo_event_39 : decode b_Mo_event 39 = .ok (.i2l, 1) := by decide +kernel
theorem d_Mo_event_40 : decode b_Mo_event 40 = .ok (.lsub, 1) := by decide +kernel
theorem d_Mo_event_41 : decode b_Mo_event 41 = .ok (.lreturn, 1) := by decide +kernel
-- ZoneFilesModel.timeRows(I)Z
def f_Mo_timeRows_132 (nf : Nat) : Nat → Int32 → Int32 → Int32 → (Nat → Int32) → (Nat → Int64) → (Nat → Nat → Int32) → (Nat → Nat → Int64) → Option (Int32 × (Nat → Int32) × (Nat → Int64) × (Nat → Nat → Int32) × (Nat → Nat → Int64))
  | 0, _, _, _, _, _, _, _ => none
  | n + 1, x4, x3, x2, si, sj, sa, sb =>
    if x3 ≤ x4 then
    some (1, si, sj, sa, sb)
    else
    if (si 32) < 0 ∨ 6000 ≤ (si 32).toNatClampNeg then none else
      if x2 < 0 ∨ 5 ≤ x2.toNatClampNeg then none else
      if (sa 0 (si 32).toNatClampNeg) < (sa 6 x2.toNatClampNeg) then
      if (si 32) < 0 ∨ 6000 ≤ (si 32).toNatClampNeg then none else
        if ((200 * x2) + x4) < 0 ∨ 1000 ≤ ((200 * x2) + x4).toNatClampNeg then none else
        f_Mo_timeRows_132 nf n (x4 + 1) x3 x2 (va_up si 32 ((si 32) + 1)) sj (va_up sa 13 (upd (sa 13) ((200 * x2) + x4).toNatClampNeg (sa 0 (si 32).toNatClampNeg))) sb
      else
      (f_Mo_faulty nf 6 (si 32) si sj sa sb).bind fun (z_25, i_21, j_22, a_23, b_24) =>
        if z_25 = 0 ∨ z_25 = 1 then some (z_25, i_21, j_22, a_23, b_24) else none
def f_Mo_timeRows_77 (nf : Nat) (si : Nat → Int32) (sj : Nat → Int64) (sa : Nat → Nat → Int32) (sb : Nat → Nat → Int64) : Option (Int32 × (Nat → Int32) × (Nat → Int64) × (Nat → Nat → Int32) × (Nat → Nat → Int64)) :=
  (f_Mo_faulty nf 5 (si 32) si sj sa sb).bind fun (z_34, i_30, j_31, a_32, b_33) =>
  if z_34 = 0 ∨ z_34 = 1 then some (z_34, i_30, j_31, a_32, b_33) else none
def f_Mo_timeRows_87 (nf : Nat) (K26 : Int32 → Int32 → Int32 → Int32 → (Nat → Int32) → (Nat → Int64) → (Nat → Nat → Int32) → (Nat → Nat → Int64) → Option (Int32 × (Nat → Int32) × (Nat → Int64) × (Nat → Nat → Int32) × (Nat → Nat → Int64))) (x5 : Int64) (x4 : Int32) (x3 : Int32) (x2 : Int32) (x1 : Int32) (si : Nat → Int32) (sj : Nat → Int64) (sa : Nat → Nat → Int32) (sb : Nat → Nat → Int64) : Option (Int32 × (Nat → Int32) × (Nat → Int64) × (Nat → Nat → Int32) × (Nat → Nat → Int64)) :=
  if ((200 * x2) + x4) < 0 ∨ 1000 ≤ ((200 * x2) + x4).toNatClampNeg then none else
  K26 (x4 + 1) x3 x2 x1 (va_up si 32 ((si 32) + x1)) sj sa (va_up sb 12 (vp_updL (sb 12) ((200 * x2) + x4).toNatClampNeg x5))
def f_Mo_timeRows_26 (nf : Nat) : Nat → Int32 → Int32 → Int32 → Int32 → (Nat → Int32) → (Nat → Int64) → (Nat → Nat → Int32) → (Nat → Nat → Int64) → Option (Int32 × (Nat → Int32) × (Nat → Int64) × (Nat → Nat → Int32) × (Nat → Nat → Int64))
  | 0, _, _, _, _, _, _, _, _ => none
  | n + 1, x4, x3, x2, x1, si, sj, sa, sb =>
    if x3 ≤ x4 then
    (f_Mo_needs nf x3.toInt64 si sj sa sb).bind fun (z_13, i_9, j_10, a_11, b_12) =>
      if z_13 = 0 then
      some (0, i_9, j_10, a_11, b_12)
      else
      f_Mo_timeRows_132 nf nf 0 x3 x2 i_9 j_10 a_11 b_12
    else
    (f_Mo_signed nf (si 32) x1 si sj sa sb).bind fun r_27 =>
      (f_Mo_isInstant nf r_27).bind fun r_28 =>
      if r_28 = 0 then
      f_Mo_timeRows_77 nf si sj sa sb
      else
      if x4 ≤ 0 then
        f_Mo_timeRows_87 nf (f_Mo_timeRows_26 nf n) r_27 x4 x3 x2 x1 si sj sa sb
        else
        if (((200 * x2) + x4) - 1) < 0 ∨ 1000 ≤ (((200 * x2) + x4) - 1).toNatClampNeg then none else
          if (sb 12 (((200 * x2) + x4) - 1).toNatClampNeg) < r_27 then
          f_Mo_timeRows_87 nf (f_Mo_timeRows_26 nf n) r_27 x4 x3 x2 x1 si sj sa sb
          else
          f_Mo_timeRows_77 nf si sj sa sb
def f_Mo_timeRows_0 (nf : Nat) (x1 : Int32) (si : Nat → Int32) (sj : Nat → Int64) (sa : Nat → Nat → Int32) (sb : Nat → Nat → Int64) : Option (Int32 × (Nat → Int32) × (Nat → Int64) × (Nat → Nat → Int32) × (Nat → Nat → Int64)) :=
  if (4 : Int32) < 0 ∨ 5 ≤ (4 : Int32).toNatClampNeg then none else
  (f_Mo_needs nf (x1.toInt64 * ((sa 5 (4 : Int32).toNatClampNeg).toInt64)) si sj sa sb).bind fun (z_6, i_2, j_3, a_4, b_5) =>
  if z_6 = 0 then
  some (0, i_2, j_3, a_4, b_5)
  else
  f_Mo_timeRows_26 nf nf 0 (sa 5 (4 : Int32).toNatClampNeg) 4 x1 i_2 j_3 a_4 b_5
def f_Mo_timeRows (nf : Nat) (p0 : Int32) (si : Nat → Int32) (sj : Nat → Int64) (sa : Nat → Nat → Int32) (sb : Nat → Nat → Int64) : Option (Int32 × (Nat → Int32) × (Nat → Int64) × (Nat → Nat → Int32) × (Nat → Nat → Int64)) :=
  f_Mo_timeRows_0 nf p0 si sj sa sb
section
variable {p : Program} {l : Launch} {e : Env} {R : Room} {s : State} {m : MethodId} {args : Array Value} {below : List Frame} {meth : Method} {c : Code} {Q : State → Prop} {dC : Nat → ClassId} {dI : Nat → Nat → Nat} {nf : Nat} {A : Nat → Prop} {h0 : Nat} {r : Nat → Nat} {cA : Nat → ClassId}
variable {r0 : Int32} {vi : Nat → Int32} {vj : Nat → Int64} {va : Nat → Nat → Int32} {vb : Nat → Nat → Int64}
set_option maxHeartbeats 400000 in
set_option maxRecDepth 100000 in
theorem k_Mo_timeRows_132 (C0 : Cx p s m meth c args R b_Mo_timeRows "ZoneFilesModel" 7 (some .boolean) 2 49) (hST : ST A s s.heap) (hA : ∀ q, s.heap.size ≤ q → A q) (hK : va_K (dC, dI) classes (moT cA) s) (hE : ∀ (pc : Nat) (ls : Array Slot) (H : Heap) (locs : List Loc), decode b_Mo_timeRows pc = .ok (.ireturn, 1) → narrow .boolean (.int r0) = .int r0 → va_P (dC, dI) classes (moW h0 r cA vi vj va vb) H → va_D A (moW h0 r cA vi vj va vb) → va_S A s.heap H locs → W p l e R s m args below meth c H locs 0 0 Q (F0 m pc ls [.int r0])) : ∀ (n : Nat) {x4 : Int32} {x3 : Int32} {x2 : Int32} {si : Nat → Int32} {sj : Nat → Int64} {sa : Nat → Nat → Int32} {sb : Nat → Nat → Int64}, f_Mo_timeRows_132 nf n x4 x3 x2 si sj sa sb = some (r0, vi, vj, va, vb) → ∀ {H : Heap} {locs : List Loc} {ls : Array Slot}, va_P (dC, dI) classes (moW h0 r cA si sj sa sb) H → va_D A (moW h0 r cA si sj sa sb) → va_S A s.heap H locs → lv_has ls 7 [(4, .int x4), (3, .int x3), (2, .int x2), (0, .ref h0)] → W p l e R s m args below meth c H locs 0 0 Q (F0 m 132 ls []) := by
  obtain ⟨hx, hb, hr, hml, hown, hts, hlocks, hRf, hRl⟩ := id C0
  intro n
  induction n with
  | zero =>
    intro x4 x3 x2 si sj sa sb hf
    exact absurd hf (by simp [f_Mo_timeRows_132])
  | succ n ih =>
    intro x4 x3 x2 si sj sa sb hf H locs ls hP hD hS hl
    unfold f_Mo_timeRows_132 at hf
    refine lv_iload hx hb d_Mo_timeRows_132 (lv_at hl 0 rfl) ?_
    refine lv_iload_n hx hb d_Mo_timeRows_134 rfl (lv_at hl 1 rfl) ?_
    refine lv_icmp_ge (tgt := 205) hx hb d_Mo_timeRows_135 (by decide) (fun c_15 => ?_) (fun c_15 => ?_)
    · have hf := it_t c_15 hf
      refine lv_iconst (v := 1) hx hb d_Mo_timeRows_205 (by decide) ?_
      cases rs hf
      exact hE _ _ _ _ d_Mo_timeRows_206 rfl hP hD hS
    · have hf := it_f c_15 hf
      refine lv_aload_n hx hb d_Mo_timeRows_138 rfl (lv_at hl 3 rfl) ?_
      refine mg_0 hx hb hts hown hK hP d_Mo_timeRows_139 ?_
      refine lv_aload_n hx hb d_Mo_timeRows_142 rfl (lv_at hl 3 rfl) ?_
      refine mg_32 (v := si 32) hx hb hts hown hK hP rfl d_Mo_timeRows_143 ?_
      obtain ⟨c_16, hf⟩ := it_n hf
      refine ma_0 (v := sa 0 (si 32).toNatClampNeg) hx hb hK hP c_16 rfl d_Mo_timeRows_146 ?_
      refine lv_aload_n hx hb d_Mo_timeRows_147 rfl (lv_at hl 3 rfl) ?_
      refine mg_6 hx hb hts hown hK hP d_Mo_timeRows_148 ?_
      refine lv_iload_n hx hb d_Mo_timeRows_151 rfl (lv_at hl 2 rfl) ?_
      obtain ⟨c_17, hf⟩ := it_n hf
      refine ma_6 (v := sa 6 x2.toNatClampNeg) hx hb hK hP c_17 rfl d_Mo_timeRows_152 ?_
      refine lv_icmp_lt (tgt := 167) hx hb d_Mo_timeRows_153 (by decide) (fun c_18 => ?_) (fun c_18 => ?_)
      · have hf := it_t c_18 hf
        refine lv_aload_n hx hb d_Mo_timeRows_167 rfl (lv_at hl 3 rfl) ?_
        refine mg_13 hx hb hts hown hK hP d_Mo_timeRows_168 ?_
        refine lv_sipush (v := 200) hx hb d_Mo_timeRows_171 (by decide) ?_
        refine lv_iload_n hx hb d_Mo_timeRows_174 rfl (lv_at hl 2 rfl) ?_
        refine lv_imul hx hb d_Mo_timeRows_175 ?_
        refine lv_iload hx hb d_Mo_timeRows_176 (lv_at hl 0 rfl) ?_
        refine lv_iadd hx hb d_Mo_timeRows_178 ?_
        refine lv_aload_n hx hb d_Mo_timeRows_179 rfl (lv_at hl 3 rfl) ?_
        refine mg_0 hx hb hts hown hK hP d_Mo_timeRows_180 ?_
        refine lv_aload_n hx hb d_Mo_timeRows_183 rfl (lv_at hl 3 rfl) ?_
        refine mg_32 (v := si 32) hx hb hts hown hK hP rfl d_Mo_timeRows_184 ?_
        obtain ⟨c_19, hf⟩ := it_n hf
        refine ma_0 (v := sa 0 (si 32).toNatClampNeg) hx hb hK hP c_19 rfl d_Mo_timeRows_187 ?_
        obtain ⟨c_20, hf⟩ := it_n hf
        refine mz_13 hx hb hK hP hD hS c_20 d_Mo_timeRows_188 (fun H locs hP hD hS => ?_)
        refine lv_aload_n hx hb d_Mo_timeRows_189 rfl (lv_at hl 3 rfl) ?_
        refine lv_dup hx hb d_Mo_timeRows_190 rfl ?_
        refine mg_32 (v := si 32) hx hb hts hown hK hP rfl d_Mo_timeRows_191 ?_
        refine lv_iconst (v := 1) hx hb d_Mo_timeRows_194 (by decide) ?_
        refine lv_iadd hx hb d_Mo_timeRows_195 ?_
        refine mp_32 hx hb hts hown hK hP hD hS d_Mo_timeRows_196 (fun H locs hP hD hS => ?_)
        refine lv_iinc (v := x4 + 1) (lv' := [(4, .int (x4 + 1)), (3, .int x3), (2, .int x2), (0, .ref h0)]) hx hb d_Mo_timeRows_199 hl (k := 0) rfl rfl (by decide) rfl (fun ls hl => ?_)
        refine lv_goto (tgt := 132) hx hb d_Mo_timeRows_202 (by decide) ?_
        exact ih hf hP hD hS (lv_sub hl [0, 1, 2, 3] rfl)
      · have hf := it_f c_18 hf
        refine lv_aload_n hx hb d_Mo_timeRows_156 rfl (lv_at hl 3 rfl) ?_
        refine lv_bipush (v := 6) hx hb d_Mo_timeRows_157 (by decide) ?_
        refine lv_aload_n hx hb d_Mo_timeRows_159 rfl (lv_at hl 3 rfl) ?_
        refine mg_32 (v := si 32) hx hb hts hown hK hP rfl d_Mo_timeRows_160 ?_
        obtain ⟨⟨z_25, i_21, j_22, a_23, b_24⟩, hc, hf⟩ := ob hf
        have hFc := mo_free hD hS hA
        refine cl_M (v := (some (.int z_25))) (st1 := [.int z_25]) (va_runV (As := [.int 6, .int (si 32)]) (rest := []) ⟨hx, hb, hml, hown, hts⟩ (c_Mo_faulty l dC dI h0 r cA H.size nf 6 (si 32) si sj sa sb hc) (cwV 2 hts (gdV m_7_133 m_7_135 msel_60 m_1_10 m_7_136) rfl rfl rfl (by decide +kernel) ⟨Nat.le_trans (Nat.le_of_ble_eq_true rfl) hRf, Nat.le_trans (Nat.le_of_ble_eq_true rfl) hRl⟩) ((MU.pre hP hK hD (hST.mu hS hFc)).vir (va_recv hK hP (ci := 10) (q0 := 0) rfl rfl)) rfl rfl hl.1 rfl (lv_room (Nat.le_of_ble_eq_true rfl)) d_Mo_timeRows_163 ⟨Nat.zero_le _, Nat.zero_le _⟩) rfl hS (fun q _ h => hFc q h) hFc (fun t H1 locs ht hvm hB hz1 hk1 hS => ?_)
        obtain ⟨hP, hD⟩ := mo_back ht hD hB
        generalize H1 = H at hP hS ⊢
        obtain ⟨c_26, hf⟩ := it_g hf
        cases rs hf
        exact hE _ _ _ _ d_Mo_timeRows_166 (nb_of c_26) hP hD hS
set_option maxHeartbeats 400000 in
set_option maxRecDepth 100000 in
theorem k_Mo_timeRows_77 (C0 : Cx p s m meth c args R b_Mo_timeRows "ZoneFilesModel" 7 (some .boolean) 2 49) (hST : ST A s s.heap) (hA : ∀ q, s.heap.size ≤ q → A q) (hK : va_K (dC, dI) classes (moT cA) s) (hE : ∀ (pc : Nat) (ls : Array Slot) (H : Heap) (locs : List Loc), decode b_Mo_timeRows pc = .ok (.ireturn, 1) → narrow .boolean (.int r0) = .int r0 → va_P (dC, dI) classes (moW h0 r cA vi vj va vb) H → va_D A (moW h0 r cA vi vj va vb) → va_S A s.heap H locs → W p l e R s m args below meth c H locs 0 0 Q (F0 m pc ls [.int r0])) {si : Nat → Int32} {sj : Nat → Int64} {sa : Nat → Nat → Int32} {sb : Nat → Nat → Int64} (hf : f_Mo_timeRows_77 nf si sj sa sb = some (r0, vi, vj, va, vb)) {H : Heap} {locs : List Loc} {ls : Array Slot} (hP : va_P (dC, dI) classes (moW h0 r cA si sj sa sb) H) (hD : va_D A (moW h0 r cA si sj sa sb)) (hS : va_S A s.heap H locs) (hl : lv_has ls 7 [(0, .ref h0)]) : W p l e R s m args below meth c H locs 0 0 Q (F0 m 77 ls []) := by
  obtain ⟨hx, hb, hr, hml, hown, hts, hlocks, hRf, hRl⟩ := id C0
  unfold f_Mo_timeRows_77 at hf
  refine lv_aload_n hx hb d_Mo_timeRows_77 rfl (lv_at hl 0 rfl) ?_
  refine lv_iconst (v := 5) hx hb d_Mo_timeRows_78 (by decide) ?_
  refine lv_aload_n hx hb d_Mo_timeRows_79 rfl (lv_at hl 0 rfl) ?_
  refine mg_32 (v := si 32) hx hb hts hown hK hP rfl d_Mo_timeRows_80 ?_
  obtain ⟨⟨z_34, i_30, j_31, a_32, b_33⟩, hc, hf⟩ := ob hf
  have hFc := mo_free hD hS hA
  refine cl_M (v := (some (.int z_34))) (st1 := [.int z_34]) (va_runV (As := [.int 5, .int (si 32)]) (rest := []) ⟨hx, hb, hml, hown, hts⟩ (c_Mo_faulty l dC dI h0 r cA H.size nf 5 (si 32) si sj sa sb hc) (cwV 2 hts (gdV m_7_133 m_7_135 msel_60 m_1_10 m_7_136) rfl rfl rfl (by decide +kernel) ⟨Nat.le_trans (Nat.le_of_ble_eq_true rfl) hRf, Nat.le_trans (Nat.le_of_ble_eq_true rfl) hRl⟩) ((MU.pre hP hK hD (hST.mu hS hFc)).vir (va_recv hK hP (ci := 10) (q0 := 0) rfl rfl)) rfl rfl hl.1 rfl (lv_room (Nat.le_of_ble_eq_true rfl)) d_Mo_timeRows_83 ⟨Nat.zero_le _, Nat.zero_le _⟩) rfl hS (fun q _ h => hFc q h) hFc (fun t H1 locs ht hvm hB hz1 hk1 hS => ?_)
  obtain ⟨hP, hD⟩ := mo_back ht hD hB
  generalize H1 = H at hP hS ⊢
  obtain ⟨c_35, hf⟩ := it_g hf
  cases rs hf
  exact hE _ _ _ _ d_Mo_timeRows_86 (nb_of c_35) hP hD hS
set_option maxHeartbeats 400000 in
set_option maxRecDepth 100000 in
theorem k_Mo_timeRows_87 (C0 : Cx p s m meth c args R b_Mo_timeRows "ZoneFilesModel" 7 (some .boolean) 2 49) (hST : ST A s s.heap) (hA : ∀ q, s.heap.size ≤ q → A q) (hK : va_K (dC, dI) classes (moT cA) s) (hE : ∀ (pc : Nat) (ls : Array Slot) (H : Heap) (locs : List Loc), decode b_Mo_timeRows pc = .ok (.ireturn, 1) → narrow .boolean (.int r0) = .int r0 → va_P (dC, dI) classes (moW h0 r cA vi vj va vb) H → va_D A (moW h0 r cA vi vj va vb) → va_S A s.heap H locs → W p l e R s m args below meth c H locs 0 0 Q (F0 m pc ls [.int r0])) {K26 : Int32 → Int32 → Int32 → Int32 → (Nat → Int32) → (Nat → Int64) → (Nat → Nat → Int32) → (Nat → Nat → Int64) → Option (Int32 × (Nat → Int32) × (Nat → Int64) × (Nat → Nat → Int32) × (Nat → Nat → Int64))} (hK26 : ∀ {x4 : Int32} {x3 : Int32} {x2 : Int32} {x1 : Int32} {si : Nat → Int32} {sj : Nat → Int64} {sa : Nat → Nat → Int32} {sb : Nat → Nat → Int64}, K26 x4 x3 x2 x1 si sj sa sb = some (r0, vi, vj, va, vb) → ∀ {H : Heap} {locs : List Loc} {ls : Array Slot}, va_P (dC, dI) classes (moW h0 r cA si sj sa sb) H → va_D A (moW h0 r cA si sj sa sb) → va_S A s.heap H locs → lv_has ls 7 [(4, .int x4), (3, .int x3), (2, .int x2), (0, .ref h0), (1, .int x1)] → W p l e R s m args below meth c H locs 0 0 Q (F0 m 26 ls [])) {x5 : Int64} {x4 : Int32} {x3 : Int32} {x2 : Int32} {x1 : Int32} {si : Nat → Int32} {sj : Nat → Int64} {sa : Nat → Nat → Int32} {sb : Nat → Nat → Int64} (hf : f_Mo_timeRows_87 nf K26 x5 x4 x3 x2 x1 si sj sa sb = some (r0, vi, vj, va, vb)) {H : Heap} {locs : List Loc} {ls : Array Slot} (hP : va_P (dC, dI) classes (moW h0 r cA si sj sa sb) H) (hD : va_D A (moW h0 r cA si sj sa sb)) (hS : va_S A s.heap H locs) (hl : lv_has ls 7 [(5, .long x5), (4, .int x4), (3, .int x3), (2, .int x2), (0, .ref h0), (1, .int x1)]) : W p l e R s m args below meth c H locs 0 0 Q (F0 m 87 ls []) := by
  obtain ⟨hx, hb, hr, hml, hown, hts, hlocks, hRf, hRl⟩ := id C0
  unfold f_Mo_timeRows_87 at hf
  refine lv_aload_n hx hb d_Mo_timeRows_87 rfl (lv_at hl 4 rfl) ?_
  refine mg_12 hx hb hts hown hK hP d_Mo_timeRows_88 ?_
  refine lv_sipush (v := 200) hx hb d_Mo_timeRows_91 (by decide) ?_
  refine lv_iload_n hx hb d_Mo_timeRows_94 rfl (lv_at hl 3 rfl) ?_
  refine lv_imul hx hb d_Mo_timeRows_95 ?_
  refine lv_iload hx hb d_Mo_timeRows_96 (lv_at hl 1 rfl) ?_
  refine lv_iadd hx hb d_Mo_timeRows_98 ?_
  refine lv_lload hx hb d_Mo_timeRows_99 (lv_at hl 0 rfl) ?_
  obtain ⟨c_37, hf⟩ := it_n hf
  refine mz_12 hx hb hK hP hD hS c_37 d_Mo_timeRows_101 (fun H locs hP hD hS => ?_)
  refine lv_aload_n hx hb d_Mo_timeRows_102 rfl (lv_at hl 4 rfl) ?_
  refine lv_dup hx hb d_Mo_timeRows_103 rfl ?_
  refine mg_32 (v := si 32) hx hb hts hown hK hP rfl d_Mo_timeRows_104 ?_
  refine lv_iload_n hx hb d_Mo_timeRows_107 rfl (lv_at hl 5 rfl) ?_
  refine lv_iadd hx hb d_Mo_timeRows_108 ?_
  refine mp_32 hx hb hts hown hK hP hD hS d_Mo_timeRows_109 (fun H locs hP hD hS => ?_)
  refine lv_iinc (v := x4 + 1) (lv' := [(4, .int (x4 + 1)), (5, .long x5), (3, .int x3), (2, .int x2), (0, .ref h0), (1, .int x1)]) hx hb d_Mo_timeRows_112 hl (k := 1) rfl rfl (by decide) rfl (fun ls hl => ?_)
  refine lv_goto (tgt := 26) hx hb d_Mo_timeRows_115 (by decide) ?_
  exact hK26 hf hP hD hS (lv_sub hl [0, 2, 3, 4, 5] rfl)
set_option maxHeartbeats 400000 in
set_option maxRecDepth 100000 in
theorem k_Mo_timeRows_26 (C0 : Cx p s m meth c args R b_Mo_timeRows "ZoneFilesModel" 7 (some .boolean) 2 49) (hST : ST A s s.heap) (hA : ∀ q, s.heap.size ≤ q → A q) (hK : va_K (dC, dI) classes (moT cA) s) (hE : ∀ (pc : Nat) (ls : Array Slot) (H : Heap) (locs : List Loc), decode b_Mo_timeRows pc = .ok (.ireturn, 1) → narrow .boolean (.int r0) = .int r0 → va_P (dC, dI) classes (moW h0 r cA vi vj va vb) H → va_D A (moW h0 r cA vi vj va vb) → va_S A s.heap H locs → W p l e R s m args below meth c H locs 0 0 Q (F0 m pc ls [.int r0])) : ∀ (n : Nat) {x4 : Int32} {x3 : Int32} {x2 : Int32} {x1 : Int32} {si : Nat → Int32} {sj : Nat → Int64} {sa : Nat → Nat → Int32} {sb : Nat → Nat → Int64}, f_Mo_timeRows_26 nf n x4 x3 x2 x1 si sj sa sb = some (r0, vi, vj, va, vb) → ∀ {H : Heap} {locs : List Loc} {ls : Array Slot}, va_P (dC, dI) classes (moW h0 r cA si sj sa sb) H → va_D A (moW h0 r cA si sj sa sb) → va_S A s.heap H locs → lv_has ls 7 [(4, .int x4), (3, .int x3), (2, .int x2), (0, .ref h0), (1, .int x1)] → W p l e R s m args below meth c H locs 0 0 Q (F0 m 26 ls []) := by
  obtain ⟨hx, hb, hr, hml, hown, hts, hlocks, hRf, hRl⟩ := id C0
  intro n
  induction n with
  | zero =>
    intro x4 x3 x2 x1 si sj sa sb hf
    exact absurd hf (by simp [f_Mo_timeRows_26])
  | succ n ih =>
    intro x4 x3 x2 x1 si sj sa sb hf H locs ls hP hD hS hl
    unfold f_Mo_timeRows_26 at hf
    refine lv_iload hx hb d_Mo_timeRows_26 (lv_at hl 0 rfl) ?_
    refine lv_iload_n hx hb d_Mo_timeRows_28 rfl (lv_at hl 1 rfl) ?_
    refine lv_icmp_ge (tgt := 118) hx hb d_Mo_timeRows_29 (by decide) (fun c_8 => ?_) (fun c_8 => ?_)
    · have hf := it_t c_8 hf
      refine lv_aload_n hx hb d_Mo_timeRows_118 rfl (lv_at hl 3 rfl) ?_
      refine lv_iload_n hx hb d_Mo_timeRows_119 rfl (lv_at hl 1 rfl) ?_
      refine lv_i2l hx hb d_Mo_timeRows_120 rfl ?_
      obtain ⟨⟨z_13, i_9, j_10, a_11, b_12⟩, hc, hf⟩ := ob hf
      have hFc := mo_free hD hS hA
      refine cl_M (v := (some (.int z_13))) (st1 := [.int z_13]) (va_runV (As := [.long x3.toInt64]) (rest := []) ⟨hx, hb, hml, hown, hts⟩ (c_Mo_needs l dC dI h0 r cA H.size nf x3.toInt64 si sj sa sb hc) (cwV 1 hts (gdV m_7_151 m_7_153 msel_64 m_1_10 m_7_154) rfl rfl rfl (by decide +kernel) ⟨Nat.le_trans (Nat.le_of_ble_eq_true rfl) hRf, Nat.le_trans (Nat.le_of_ble_eq_true rfl) hRl⟩) ((MU.pre hP hK hD (hST.mu hS hFc)).vir (va_recv hK hP (ci := 10) (q0 := 0) rfl rfl)) rfl rfl hl.1 rfl (lv_room (Nat.le_of_ble_eq_true rfl)) d_Mo_timeRows_121 ⟨Nat.zero_le _, Nat.zero_le _⟩) rfl hS (fun q _ h => hFc q h) hFc (fun t H1 locs ht hvm hB hz1 hk1 hS => ?_)
      obtain ⟨hP, hD⟩ := mo_back ht hD hB
      generalize H1 = H at hP hS ⊢
      refine lv_if_ne (tgt := 129) hx hb d_Mo_timeRows_124 (by decide) (fun c_14 => ?_) (fun c_14 => ?_)
      · have hf := it_f c_14 hf
        refine lv_iconst (v := 0) hx hb d_Mo_timeRows_129 (by decide) ?_
        refine lv_istore (lv' := [(4, .int 0), (3, .int x3), (2, .int x2), (0, .ref h0), (1, .int x1)]) hx hb d_Mo_timeRows_130 hl (by decide) rfl (fun ls hl => ?_)
        exact k_Mo_timeRows_132 C0 hST hA hK hE nf hf hP hD hS (lv_sub hl [0, 1, 2, 3] rfl)
      · have hf := it_t c_14 hf
        refine lv_iconst (v := 0) hx hb d_Mo_timeRows_127 (by decide) ?_
        cases rs hf
        exact hE _ _ _ _ d_Mo_timeRows_128 rfl hP hD hS
    · have hf := it_f c_8 hf
      refine lv_aload_n hx hb d_Mo_timeRows_32 rfl (lv_at hl 3 rfl) ?_
      refine lv_aload_n hx hb d_Mo_timeRows_33 rfl (lv_at hl 3 rfl) ?_
      refine mg_32 (v := si 32) hx hb hts hown hK hP rfl d_Mo_timeRows_34 ?_
      refine lv_iload_n hx hb d_Mo_timeRows_37 rfl (lv_at hl 4 rfl) ?_
      obtain ⟨r_27, hc, hf⟩ := ob hf
      refine cl_S (v := (some (.long r_27))) (st1 := [.long r_27]) (va_runV (As := [.int (si 32), .int x1]) (rest := []) ⟨hx, hb, hml, hown, hts⟩ (c_Mo_signed l dC dI h0 r cA nf (si 32) x1 si sj sa sb hc) (cwV 2 hts (gdV m_7_155 m_7_157 msel_65 m_1_10 m_7_158) rfl rfl rfl (by decide +kernel) ⟨Nat.le_trans (Nat.le_of_ble_eq_true rfl) hRf, Nat.le_trans (Nat.le_of_ble_eq_true rfl) hRl⟩) ((RO.pre hP hK (hST.ro hS)).vir (va_recv hK hP (ci := 10) (q0 := 0) rfl rfl)) rfl rfl hl.1 rfl (lv_room (Nat.le_of_ble_eq_true rfl)) d_Mo_timeRows_38 ⟨Nat.zero_le _, Nat.zero_le _⟩) rfl ?_
      refine lv_lstore (lv' := [(5, .long r_27), (4, .int x4), (3, .int x3), (2, .int x2), (0, .ref h0), (1, .int x1)]) hx hb d_Mo_timeRows_41 hl (by decide) rfl (fun ls hl => ?_)
      refine lv_lload hx hb d_Mo_timeRows_43 (lv_at hl 0 rfl) ?_
      obtain ⟨r_28, hc, hf⟩ := ob hf
      refine cl_S (v := (some (.int r_28))) (st1 := [.int r_28]) (va_runS (As := [.long r_27]) (rest := []) ⟨hx, hb, hml, hown, hts⟩ (c_Mo_isInstant l dC dI nf r_27 hc) (va_cwS 1 hts (gdS m_7_159 m_7_160 m_1_10 m_7_161) rfl rfl rfl (by decide +kernel) ⟨Nat.le_trans (Nat.le_of_ble_eq_true rfl) hRf, Nat.le_trans (Nat.le_of_ble_eq_true rfl) hRl⟩) (RO.pre0 hK (hST.ro hS)).sta rfl rfl hl.1 rfl (lv_room (Nat.le_of_ble_eq_true rfl)) d_Mo_timeRows_45 ⟨Nat.zero_le _, Nat.zero_le _⟩) rfl ?_
      refine lv_if_eq (tgt := 77) hx hb d_Mo_timeRows_48 (by decide) (fun c_29 => ?_) (fun c_29 => ?_)
      · have hf := it_t c_29 hf
        exact k_Mo_timeRows_77 C0 hST hA hK hE hf hP hD hS (lv_sub hl [4] rfl)
      · have hf := it_f c_29 hf
        refine lv_iload hx hb d_Mo_timeRows_51 (lv_at hl 1 rfl) ?_
        refine lv_if_le (tgt := 87) hx hb d_Mo_timeRows_53 (by decide) (fun c_36 => ?_) (fun c_36 => ?_)
        · have hf := it_t c_36 hf
          exact k_Mo_timeRows_87 C0 hST hA hK hE (fun hf => ih hf) hf hP hD hS (lv_sub hl [0, 1, 2, 3, 4, 5] rfl)
        · have hf := it_f c_36 hf
          refine lv_lload hx hb d_Mo_timeRows_56 (lv_at hl 0 rfl) ?_
          refine lv_aload_n hx hb d_Mo_timeRows_58 rfl (lv_at hl 4 rfl) ?_
          refine mg_12 hx hb hts hown hK hP d_Mo_timeRows_59 ?_
          refine lv_sipush (v := 200) hx hb d_Mo_timeRows_62 (by decide) ?_
          refine lv_iload_n hx hb d_Mo_timeRows_65 rfl (lv_at hl 3 rfl) ?_
          refine lv_imul hx hb d_Mo_timeRows_66 ?_
          refine lv_iload hx hb d_Mo_timeRows_67 (lv_at hl 1 rfl) ?_
          refine lv_iadd hx hb d_Mo_timeRows_69 ?_
          refine lv_iconst (v := 1) hx hb d_Mo_timeRows_70 (by decide) ?_
          refine lv_isub hx hb d_Mo_timeRows_71 ?_
          obtain ⟨c_38, hf⟩ := it_n hf
          refine ma_12 (v := sb 12 (((200 * x2) + x4) - 1).toNatClampNeg) hx hb hK hP c_38 rfl d_Mo_timeRows_72 ?_
          refine lc_gt (tgt := 87) hx hb d_Mo_timeRows_73 d_Mo_timeRows_74 (by decide) (fun c_39 => ?_) (fun c_39 => ?_)
          · have hf := it_t c_39 hf
            exact k_Mo_timeRows_87 C0 hST hA hK hE (fun hf => ih hf) hf hP hD hS (lv_sub hl [0, 1, 2, 3, 4, 5] rfl)
          · have hf := it_f c_39 hf
            exact k_Mo_timeRows_77 C0 hST hA hK hE hf hP hD hS (lv_sub hl [4] rfl)
set_option maxHeartbeats 400000 in
set_option maxRecDepth 100000 in
theorem k_Mo_timeRows_0 (C0 : Cx p s m meth c args R b_Mo_timeRows "ZoneFilesModel" 7 (some .boolean) 2 49) (hST : ST A s s.heap) (hA : ∀ q, s.heap.size ≤ q → A q) (hK : va_K (dC, dI) classes (moT cA) s) (hE : ∀ (pc : Nat) (ls : Array Slot) (H : Heap) (locs : List Loc), decode b_Mo_timeRows pc = .ok (.ireturn, 1) → narrow .boolean (.int r0) = .int r0 → va_P (dC, dI) classes (moW h0 r cA vi vj va vb) H → va_D A (moW h0 r cA vi vj va vb) → va_S A s.heap H locs → W p l e R s m args below meth c H locs 0 0 Q (F0 m pc ls [.int r0])) {x1 : Int32} {si : Nat → Int32} {sj : Nat → Int64} {sa : Nat → Nat → Int32} {sb : Nat → Nat → Int64} (hf : f_Mo_timeRows_0 nf x1 si sj sa sb = some (r0, vi, vj, va, vb)) {H : Heap} {locs : List Loc} {ls : Array Slot} (hP : va_P (dC, dI) classes (moW h0 r cA si sj sa sb) H) (hD : va_D A (moW h0 r cA si sj sa sb)) (hS : va_S A s.heap H locs) (hl : lv_has ls 7 [(0, .ref h0), (1, .int x1)]) : W p l e R s m args below meth c H locs 0 0 Q (F0 m 0 ls []) := by
  obtain ⟨hx, hb, hr, hml, hown, hts, hlocks, hRf, hRl⟩ := id C0
  unfold f_Mo_timeRows_0 at hf
  refine lv_iconst (v := 4) hx hb d_Mo_timeRows_0 (by decide) ?_
  refine lv_istore_n (lv' := [(2, .int 4), (0, .ref h0), (1, .int x1)]) hx hb d_Mo_timeRows_1 rfl hl (by decide) rfl (fun ls hl => ?_)
  refine lv_aload_n hx hb d_Mo_timeRows_2 rfl (lv_at hl 1 rfl) ?_
  refine mg_5 hx hb hts hown hK hP d_Mo_timeRows_3 ?_
  refine lv_iload_n hx hb d_Mo_timeRows_6 rfl (lv_at hl 0 rfl) ?_
  obtain ⟨c_1, hf⟩ := it_n hf
  refine ma_5 (v := sa 5 (4 : Int32).toNatClampNeg) hx hb hK hP c_1 rfl d_Mo_timeRows_7 ?_
  refine lv_istore_n (lv' := [(3, .int (sa 5 (4 : Int32).toNatClampNeg)), (2, .int 4), (0, .ref h0), (1, .int x1)]) hx hb d_Mo_timeRows_8 rfl hl (by decide) rfl (fun ls hl => ?_)
  refine lv_aload_n hx hb d_Mo_timeRows_9 rfl (lv_at hl 2 rfl) ?_
  refine lv_iload_n hx hb d_Mo_timeRows_10 rfl (lv_at hl 3 rfl) ?_
  refine lv_i2l hx hb d_Mo_timeRows_11 rfl ?_
  refine lv_iload_n hx hb d_Mo_timeRows_12 rfl (lv_at hl 0 rfl) ?_
  refine lv_i2l hx hb d_Mo_timeRows_13 rfl ?_
  refine lv_lmul hx hb d_Mo_timeRows_14 ?_
  obtain ⟨⟨z_6, i_2, j_3, a_4, b_5⟩, hc, hf⟩ := ob hf
  have hFc := mo_free hD hS hA
  refine cl_M (v := (some (.int z_6))) (st1 := [.int z_6]) (va_runV (As := [.long (x1.toInt64 * ((sa 5 (4 : Int32).toNatClampNeg).toInt64))]) (rest := []) ⟨hx, hb, hml, hown, hts⟩ (c_Mo_needs l dC dI h0 r cA H.size nf (x1.toInt64 * ((sa 5 (4 : Int32).toNatClampNeg).toInt64)) si sj sa sb hc) (cwV 1 hts (gdV m_7_151 m_7_153 msel_64 m_1_10 m_7_154) rfl rfl rfl (by decide +kernel) ⟨Nat.le_trans (Nat.le_of_ble_eq_true rfl) hRf, Nat.le_trans (Nat.le_of_ble_eq_true rfl) hRl⟩) ((MU.pre hP hK hD (hST.mu hS hFc)).vir (va_recv hK hP (ci := 10) (q0 := 0) rfl rfl)) rfl rfl hl.1 rfl (lv_room (Nat.le_of_ble_eq_true rfl)) d_Mo_timeRows_15 ⟨Nat.zero_le _, Nat.zero_le _⟩) rfl hS (fun q _ h => hFc q h) hFc (fun t H1 locs ht hvm hB hz1 hk1 hS => ?_)
  obtain ⟨hP, hD⟩ := mo_back ht hD hB
  generalize H1 = H at hP hS ⊢
  refine lv_if_ne (tgt := 23) hx hb d_Mo_timeRows_18 (by decide) (fun c_7 => ?_) (fun c_7 => ?_)
  · have hf := it_f c_7 hf
    refine lv_iconst (v := 0) hx hb d_Mo_timeRows_23 (by decide) ?_
    refine lv_istore (lv' := [(4, .int 0), (3, .int (sa 5 (4 : Int32).toNatClampNeg)), (2, .int 4), (0, .ref h0), (1, .int x1)]) hx hb d_Mo_timeRows_24 hl (by decide) rfl (fun ls hl => ?_)
    exact k_Mo_timeRows_26 C0 hST hA hK hE nf hf hP hD hS (lv_sub hl [0, 1, 2, 3, 4] rfl)
  · have hf := it_t c_7 hf
    refine lv_iconst (v := 0) hx hb d_Mo_timeRows_21 (by decide) ?_
    cases rs hf
    exact hE _ _ _ _ d_Mo_timeRows_22 rfl hP hD hS
end
set_option maxHeartbeats 400000 in
set_option maxRecDepth 100000 in
theorem c_Mo_timeRows (l : Launch) (dC : Nat → ClassId) (dI : Nat → Nat → Nat) (h0 : Nat) (r : Nat → Nat) (cA : Nat → ClassId) (sz : Nat) (nf : Nat) (p0 : Int32) (si : Nat → Int32) (sj : Nat → Int64) (sa : Nat → Nat → Int32) (sb : Nat → Nat → Int64) {r0 : Int32} {vi : Nat → Int32} {vj : Nat → Int64} {va : Nat → Nat → Int32} {vb : Nat → Nat → Int64} (hf : f_Mo_timeRows nf p0 si sj sa sb = some (r0, vi, vj, va, vb)) : Met l y_Mo_timeRows (wd y_Mo_timeRows b_Mo_timeRows 7 (some .boolean)) ({ frames := 2, cells := 0, slots := 0, locals := 49 }) (MU dC dI (moW h0 r cA si sj sa sb) (moT cA) sz [.ref h0, .int p0]) (MV (some (.int r0)) (fun t => va_P (dC, dI) classes (moW h0 r cA vi vj va vb) t.heap) (va_A (moW h0 r cA si sj sa sb) sz)) 0 0 (va_A (moW h0 r cA si sj sa sb) sz) :=
  met_M (plainFor_of_name (by decide)) (Nat.le_of_ble_eq_true rfl) (fun p e R s m args below meth c ls hRc hRs hsz hin C0 hST hK hP hD hl => by
    obtain ⟨hx, hb, hr, hml, hown, hts, hlocks, hRf, hRl⟩ := id C0
    subst hsz
    have hA : ∀ q : Nat, s.heap.size ≤ q → va_A (moW h0 r cA si sj sa sb) s.heap.size q := fun q h => Or.inr h
    have hS : va_S (va_A (moW h0 r cA si sj sa sb) s.heap.size) s.heap s.heap [] := va_S.rf
    unfold f_Mo_timeRows at hf
    exact k_Mo_timeRows_0 C0 hST hA hK (fun pc ls H locs hd hn hP hD hS => W.zret hx hb hr hn (fun t ht hW => ⟨⟨rfl, mo_end ht hP⟩, hS.F ht⟩) hS.2.2 hd) hf hP hD hS (lv_sub hl [0, 1] rfl))
-- ZoneFilesModel.typeRows()Z
def f_Mo_typeRows_60 (nf : Nat) (si : Nat → Int32) (sj : Nat → Int64) (sa : Nat → Nat → Int32) (sb : Nat → Nat → Int64) : Option (Int32 × (Nat → Int32) × (Nat → Int64) × (Nat → Nat → Int32) × (Nat → Nat → Int64)) :=
  (f_Mo_faulty nf 7 (si 32) si sj sa sb).bind fun (z_16, i_12, j_13, a_14, b_15) =>
  if z_16 = 0 ∨ z_16 = 1 then some (z_16, i_12, j_13, a_14, b_15) else none
def f_Mo_typeRows_24 (nf : Nat) : Nat → Int32 → Int32 → (Nat → Int32) → (Nat → Int64) → (Nat → Nat → Int32) → (Nat → Nat → Int64) → Option (Int32 × (Nat → Int32) × (Nat → Int64) × (Nat → Nat → Int32) × (Nat → Nat → Int64))
  | 0, _, _, _, _, _, _ => none
  | n + 1, x2, x1, si, sj, sa, sb =>
    if x1 < 0 ∨ 5 ≤ x1.toNatClampNeg then none else
    if (sa 6 x1.toNatClampNeg) ≤ x2 then
    some (1, si, sj, sa, sb)
    else
    (f_Mo_signed nf (si 32) 4 si sj sa sb).bind fun r_10 =>
      if r_10 < (-89999 : Int64) then
      f_Mo_typeRows_60 nf si sj sa sb
      else
      if r_10 ≤ (93599 : Int64) then
        if ((si 32) + 4) < 0 ∨ 6000 ≤ ((si 32) + 4).toNatClampNeg then none else
          if (sa 0 ((si 32) + 4).toNatClampNeg) ≤ (1 : Int32) then
          if ((si 32) + 5) < 0 ∨ 6000 ≤ ((si 32) + 5).toNatClampNeg then none else
            if x1 < 0 ∨ 5 ≤ x1.toNatClampNeg then none else
            if (sa 0 ((si 32) + 5).toNatClampNeg) < (sa 7 x1.toNatClampNeg) then
            if ((40 * x1) + x2) < 0 ∨ 200 ≤ ((40 * x1) + x2).toNatClampNeg then none else
              if ((si 32) + 4) < 0 ∨ 6000 ≤ ((si 32) + 4).toNatClampNeg then none else
              if ((40 * x1) + x2) < 0 ∨ 200 ≤ ((40 * x1) + x2).toNatClampNeg then none else
              if ((si 32) + 5) < 0 ∨ 6000 ≤ ((si 32) + 5).toNatClampNeg then none else
              if ((40 * x1) + x2) < 0 ∨ 200 ≤ ((40 * x1) + x2).toNatClampNeg then none else
              f_Mo_typeRows_24 nf n (x2 + 1) x1 (va_up si 32 ((si 32) + 6)) sj (va_up (va_up (va_up sa 14 (upd (sa 14) ((40 * x1) + x2).toNatClampNeg r_10.toInt32)) 15 (upd (sa 15) ((40 * x1) + x2).toNatClampNeg (sa 0 ((si 32) + 4).toNatClampNeg))) 16 (upd (sa 16) ((40 * x1) + x2).toNatClampNeg (sa 0 ((si 32) + 5).toNatClampNeg))) sb
            else
            (f_Mo_faulty nf 9 ((si 32) + 5) si sj sa sb).bind fun (z_33, i_29, j_30, a_31, b_32) =>
              if z_33 = 0 ∨ z_33 = 1 then some (z_33, i_29, j_30, a_31, b_32) else none
          else
          (f_Mo_faulty nf 8 ((si 32) + 4) si sj sa sb).bind fun (z_39, i_35, j_36, a_37, b_38) =>
            if z_39 = 0 ∨ z_39 = 1 then some (z_39, i_35, j_36, a_37, b_38) else none
        else
        f_Mo_typeRows_60 nf si sj sa sb
def f_Mo_typeRows_0 (nf : Nat) (si : Nat → Int32) (sj : Nat → Int64) (sa : Nat → Nat → Int32) (sb : Nat → Nat → Int64) : Option (Int32 × (Nat → Int32) × (Nat → Int64) × (Nat → Nat → Int32) × (Nat → Nat → Int64)) :=
  if (4 : Int32) < 0 ∨ 5 ≤ (4 : Int32).toNatClampNeg then none else
  (f_Mo_needs nf (6 * ((sa 6 (4 : Int32).toNatClampNeg).toInt64)) si sj sa sb).bind fun (z_6, i_2, j_3, a_4, b_5) =>
  if z_6 = 0 then
  some (0, i_2, j_3, a_4, b_5)
  else
  f_Mo_typeRows_24 nf nf 0 4 i_2 j_3 a_4 b_5
def f_Mo_typeRows (nf : Nat) (si : Nat → Int32) (sj : Nat → Int64) (sa : Nat → Nat → Int32) (sb : Nat → Nat → Int64) : Option (Int32 × (Nat → Int32) × (Nat → Int64) × (Nat → Nat → Int32) × (Nat → Nat → Int64)) :=
  f_Mo_typeRows_0 nf si sj sa sb
section
variable {p : Program} {l : Launch} {e : Env} {R : Room} {s : State} {m : MethodId} {args : Array Value} {below : List Frame} {meth : Method} {c : Code} {Q : State → Prop} {dC : Nat → ClassId} {dI : Nat → Nat → Nat} {nf : Nat} {A : Nat → Prop} {h0 : Nat} {r : Nat → Nat} {cA : Nat → ClassId}
variable {r0 : Int32} {vi : Nat → Int32} {vj : Nat → Int64} {va : Nat → Nat → Int32} {vb : Nat → Nat → Int64}
set_option maxHeartbeats 400000 in
set_option maxRecDepth 100000 in
theorem k_Mo_typeRows_60 (C0 : Cx p s m meth c args R b_Mo_typeRows "ZoneFilesModel" 5 (some .boolean) 2 49) (hST : ST A s s.heap) (hA : ∀ q, s.heap.size ≤ q → A q) (hK : va_K (dC, dI) classes (moT cA) s) (hE : ∀ (pc : Nat) (ls : Array Slot) (H : Heap) (locs : List Loc), decode b_Mo_typeRows pc = .ok (.ireturn, 1) → narrow .boolean (.int r0) = .int r0 → va_P (dC, dI) classes (moW h0 r cA vi vj va vb) H → va_D A (moW h0 r cA vi vj va vb) → va_S A s.heap H locs → W p l e R s m args below meth c H locs 0 0 Q (F0 m pc ls [.int r0])) {si : Nat → Int32} {sj : Nat → Int64} {sa : Nat → Nat → Int32} {sb : Nat → Nat → Int64} (hf : f_Mo_typeRows_60 nf si sj sa sb = some (r0, vi, vj, va, vb)) {H : Heap} {locs : List Loc} {ls : Array Slot} (hP : va_P (dC, dI) classes (moW h0 r cA si sj sa sb) H) (hD : va_D A (moW h0 r cA si sj sa sb)) (hS : va_S A s.heap H locs) (hl : lv_has ls 5 [(0, .ref h0)]) : W p l e R s m args below meth c H locs 0 0 Q (F0 m 60 ls []) := by
  obtain ⟨hx, hb, hr, hml, hown, hts, hlocks, hRf, hRl⟩ := id C0
  unfold f_Mo_typeRows_60 at hf
  refine lv_aload_n hx hb d_Mo_typeRows_60 rfl (lv_at hl 0 rfl) ?_
  refine lv_bipush (v := 7) hx hb d_Mo_typeRows_61 (by decide) ?_
  refine lv_aload_n hx hb d_Mo_typeRows_63 rfl (lv_at hl 0 rfl) ?_
  refine mg_32 (v := si 32) hx hb hts hown hK hP rfl d_Mo_typeRows_64 ?_
  obtain ⟨⟨z_16, i_12, j_13, a_14, b_15⟩, hc, hf⟩ := ob hf
  have hFc := mo_free hD hS hA
  refine cl_M (v := (some (.int z_16))) (st1 := [.int z_16]) (va_runV (As := [.int 7, .int (si 32)]) (rest := []) ⟨hx, hb, hml, hown, hts⟩ (c_Mo_faulty l dC dI h0 r cA H.size nf 7 (si 32) si sj sa sb hc) (cwV 2 hts (gdV m_7_133 m_7_135 msel_60 m_1_10 m_7_136) rfl rfl rfl (by decide +kernel) ⟨Nat.le_trans (Nat.le_of_ble_eq_true rfl) hRf, Nat.le_trans (Nat.le_of_ble_eq_true rfl) hRl⟩) ((MU.pre hP hK hD (hST.mu hS hFc)).vir (va_recv hK hP (ci := 10) (q0 := 0) rfl rfl)) rfl rfl hl.1 rfl (lv_room (Nat.le_of_ble_eq_true rfl)) d_Mo_typeRows_67 ⟨Nat.zero_le _, Nat.zero_le _⟩) rfl hS (fun q _ h => hFc q h) hFc (fun t H1 locs ht hvm hB hz1 hk1 hS => ?_)
  obtain ⟨hP, hD⟩ := mo_back ht hD hB
  generalize H1 = H at hP hS ⊢
  obtain ⟨c_17, hf⟩ := it_g hf
  cases rs hf
  exact hE _ _ _ _ d_Mo_typeRows_70 (nb_of c_17) hP hD hS
set_option maxHeartbeats 400000 in
set_option maxRecDepth 100000 in
theorem k_Mo_typeRows_24 (C0 : Cx p s m meth c args R b_Mo_typeRows "ZoneFilesModel" 5 (some .boolean) 2 49) (hST : ST A s s.heap) (hA : ∀ q, s.heap.size ≤ q → A q) (hK : va_K (dC, dI) classes (moT cA) s) (hE : ∀ (pc : Nat) (ls : Array Slot) (H : Heap) (locs : List Loc), decode b_Mo_typeRows pc = .ok (.ireturn, 1) → narrow .boolean (.int r0) = .int r0 → va_P (dC, dI) classes (moW h0 r cA vi vj va vb) H → va_D A (moW h0 r cA vi vj va vb) → va_S A s.heap H locs → W p l e R s m args below meth c H locs 0 0 Q (F0 m pc ls [.int r0])) : ∀ (n : Nat) {x2 : Int32} {x1 : Int32} {si : Nat → Int32} {sj : Nat → Int64} {sa : Nat → Nat → Int32} {sb : Nat → Nat → Int64}, f_Mo_typeRows_24 nf n x2 x1 si sj sa sb = some (r0, vi, vj, va, vb) → ∀ {H : Heap} {locs : List Loc} {ls : Array Slot}, va_P (dC, dI) classes (moW h0 r cA si sj sa sb) H → va_D A (moW h0 r cA si sj sa sb) → va_S A s.heap H locs → lv_has ls 5 [(2, .int x2), (1, .int x1), (0, .ref h0)] → W p l e R s m args below meth c H locs 0 0 Q (F0 m 24 ls []) := by
  obtain ⟨hx, hb, hr, hml, hown, hts, hlocks, hRf, hRl⟩ := id C0
  intro n
  induction n with
  | zero =>
    intro x2 x1 si sj sa sb hf
    exact absurd hf (by simp [f_Mo_typeRows_24])
  | succ n ih =>
    intro x2 x1 si sj sa sb hf H locs ls hP hD hS hl
    unfold f_Mo_typeRows_24 at hf
    refine lv_iload_n hx hb d_Mo_typeRows_24 rfl (lv_at hl 0 rfl) ?_
    refine lv_aload_n hx hb d_Mo_typeRows_25 rfl (lv_at hl 2 rfl) ?_
    refine mg_6 hx hb hts hown hK hP d_Mo_typeRows_26 ?_
    refine lv_iload_n hx hb d_Mo_typeRows_29 rfl (lv_at hl 1 rfl) ?_
    obtain ⟨c_8, hf⟩ := it_n hf
    refine ma_6 (v := sa 6 x1.toNatClampNeg) hx hb hK hP c_8 rfl d_Mo_typeRows_30 ?_
    refine lv_icmp_ge (tgt := 206) hx hb d_Mo_typeRows_31 (by decide) (fun c_9 => ?_) (fun c_9 => ?_)
    · have hf := it_t c_9 hf
      refine lv_iconst (v := 1) hx hb d_Mo_typeRows_206 (by decide) ?_
      cases rs hf
      exact hE _ _ _ _ d_Mo_typeRows_207 rfl hP hD hS
    · have hf := it_f c_9 hf
      refine lv_aload_n hx hb d_Mo_typeRows_34 rfl (lv_at hl 2 rfl) ?_
      refine lv_aload_n hx hb d_Mo_typeRows_35 rfl (lv_at hl 2 rfl) ?_
      refine mg_32 (v := si 32) hx hb hts hown hK hP rfl d_Mo_typeRows_36 ?_
      refine lv_iconst (v := 4) hx hb d_Mo_typeRows_39 (by decide) ?_
      obtain ⟨r_10, hc, hf⟩ := ob hf
      refine cl_S (v := (some (.long r_10))) (st1 := [.long r_10]) (va_runV (As := [.int (si 32), .int 4]) (rest := []) ⟨hx, hb, hml, hown, hts⟩ (c_Mo_signed l dC dI h0 r cA nf (si 32) 4 si sj sa sb hc) (cwV 2 hts (gdV m_7_155 m_7_157 msel_65 m_1_10 m_7_158) rfl rfl rfl (by decide +kernel) ⟨Nat.le_trans (Nat.le_of_ble_eq_true rfl) hRf, Nat.le_trans (Nat.le_of_ble_eq_true rfl) hRl⟩) ((RO.pre hP hK (hST.ro hS)).vir (va_recv hK hP (ci := 10) (q0 := 0) rfl rfl)) rfl rfl hl.1 rfl (lv_room (Nat.le_of_ble_eq_true rfl)) d_Mo_typeRows_40 ⟨Nat.zero_le _, Nat.zero_le _⟩) rfl ?_
      refine lv_lstore_n (lv' := [(3, .long r_10), (2, .int x2), (1, .int x1), (0, .ref h0)]) hx hb d_Mo_typeRows_43 rfl hl (by decide) rfl (fun ls hl => ?_)
      refine lv_lload_n hx hb d_Mo_typeRows_44 rfl (lv_at hl 0 rfl) ?_
      refine lv_ldc2 (v := (-89999)) hx hb hown (hts (.constantLong "ZoneFilesModel" 256 (-89999)) m_7_169) d_Mo_typeRows_45 ?_
      refine lc_lt (tgt := 60) hx hb d_Mo_typeRows_48 d_Mo_typeRows_49 (by decide) (fun c_11 => ?_) (fun c_11 => ?_)
      · have hf := it_t c_11 hf
        exact k_Mo_typeRows_60 C0 hST hA hK hE hf hP hD hS (lv_sub hl [3] rfl)
      · have hf := it_f c_11 hf
        refine lv_lload_n hx hb d_Mo_typeRows_52 rfl (lv_at hl 0 rfl) ?_
        refine lv_ldc2 (v := 93599) hx hb hown (hts (.constantLong "ZoneFilesModel" 258 93599) m_7_170) d_Mo_typeRows_53 ?_
        refine lc_le (tgt := 71) hx hb d_Mo_typeRows_56 d_Mo_typeRows_57 (by decide) (fun c_18 => ?_) (fun c_18 => ?_)
        · have hf := it_t c_18 hf
          refine lv_aload_n hx hb d_Mo_typeRows_71 rfl (lv_at hl 3 rfl) ?_
          refine mg_0 hx hb hts hown hK hP d_Mo_typeRows_72 ?_
          refine lv_aload_n hx hb d_Mo_typeRows_75 rfl (lv_at hl 3 rfl) ?_
          refine mg_32 (v := si 32) hx hb hts hown hK hP rfl d_Mo_typeRows_76 ?_
          refine lv_iconst (v := 4) hx hb d_Mo_typeRows_79 (by decide) ?_
          refine lv_iadd hx hb d_Mo_typeRows_80 ?_
          obtain ⟨c_19, hf⟩ := it_n hf
          refine ma_0 (v := sa 0 ((si 32) + 4).toNatClampNeg) hx hb hK hP c_19 rfl d_Mo_typeRows_81 ?_
          refine lv_iconst (v := 1) hx hb d_Mo_typeRows_82 (by decide) ?_
          refine lv_icmp_le (tgt := 99) hx hb d_Mo_typeRows_83 (by decide) (fun c_20 => ?_) (fun c_20 => ?_)
          · have hf := it_t c_20 hf
            refine lv_aload_n hx hb d_Mo_typeRows_99 rfl (lv_at hl 3 rfl) ?_
            refine mg_0 hx hb hts hown hK hP d_Mo_typeRows_100 ?_
            refine lv_aload_n hx hb d_Mo_typeRows_103 rfl (lv_at hl 3 rfl) ?_
            refine mg_32 (v := si 32) hx hb hts hown hK hP rfl d_Mo_typeRows_104 ?_
            refine lv_iconst (v := 5) hx hb d_Mo_typeRows_107 (by decide) ?_
            refine lv_iadd hx hb d_Mo_typeRows_108 ?_
            obtain ⟨c_21, hf⟩ := it_n hf
            refine ma_0 (v := sa 0 ((si 32) + 5).toNatClampNeg) hx hb hK hP c_21 rfl d_Mo_typeRows_109 ?_
            refine lv_aload_n hx hb d_Mo_typeRows_110 rfl (lv_at hl 3 rfl) ?_
            refine mg_7 hx hb hts hown hK hP d_Mo_typeRows_111 ?_
            refine lv_iload_n hx hb d_Mo_typeRows_114 rfl (lv_at hl 2 rfl) ?_
            obtain ⟨c_22, hf⟩ := it_n hf
            refine ma_7 (v := sa 7 x1.toNatClampNeg) hx hb hK hP c_22 rfl d_Mo_typeRows_115 ?_
            refine lv_icmp_lt (tgt := 132) hx hb d_Mo_typeRows_116 (by decide) (fun c_23 => ?_) (fun c_23 => ?_)
            · have hf := it_t c_23 hf
              refine lv_aload_n hx hb d_Mo_typeRows_132 rfl (lv_at hl 3 rfl) ?_
              refine mg_14 hx hb hts hown hK hP d_Mo_typeRows_133 ?_
              refine lv_bipush (v := 40) hx hb d_Mo_typeRows_136 (by decide) ?_
              refine lv_iload_n hx hb d_Mo_typeRows_138 rfl (lv_at hl 2 rfl) ?_
              refine lv_imul hx hb d_Mo_typeRows_139 ?_
              refine lv_iload_n hx hb d_Mo_typeRows_140 rfl (lv_at hl 1 rfl) ?_
              refine lv_iadd hx hb d_Mo_typeRows_141 ?_
              refine lv_lload_n hx hb d_Mo_typeRows_142 rfl (lv_at hl 0 rfl) ?_
              refine lv_l2i hx hb d_Mo_typeRows_143 rfl ?_
              obtain ⟨c_24, hf⟩ := it_n hf
              refine mz_14 hx hb hK hP hD hS c_24 d_Mo_typeRows_144 (fun H locs hP hD hS => ?_)
              refine lv_aload_n hx hb d_Mo_typeRows_145 rfl (lv_at hl 3 rfl) ?_
              refine mg_15 hx hb hts hown hK hP d_Mo_typeRows_146 ?_
              refine lv_bipush (v := 40) hx hb d_Mo_typeRows_149 (by decide) ?_
              refine lv_iload_n hx hb d_Mo_typeRows_151 rfl (lv_at hl 2 rfl) ?_
              refine lv_imul hx hb d_Mo_typeRows_152 ?_
              refine lv_iload_n hx hb d_Mo_typeRows_153 rfl (lv_at hl 1 rfl) ?_
              refine lv_iadd hx hb d_Mo_typeRows_154 ?_
              refine lv_aload_n hx hb d_Mo_typeRows_155 rfl (lv_at hl 3 rfl) ?_
              refine mg_0 hx hb hts hown hK hP d_Mo_typeRows_156 ?_
              refine lv_aload_n hx hb d_Mo_typeRows_159 rfl (lv_at hl 3 rfl) ?_
              refine mg_32 (v := si 32) hx hb hts hown hK hP rfl d_Mo_typeRows_160 ?_
              refine lv_iconst (v := 4) hx hb d_Mo_typeRows_163 (by decide) ?_
              refine lv_iadd hx hb d_Mo_typeRows_164 ?_
              obtain ⟨c_25, hf⟩ := it_n hf
              refine ma_0 (v := sa 0 ((si 32) + 4).toNatClampNeg) hx hb hK hP c_25 rfl d_Mo_typeRows_165 ?_
              obtain ⟨c_26, hf⟩ := it_n hf
              refine mz_15 hx hb hK hP hD hS c_26 d_Mo_typeRows_166 (fun H locs hP hD hS => ?_)
              refine lv_aload_n hx hb d_Mo_typeRows_167 rfl (lv_at hl 3 rfl) ?_
              refine mg_16 hx hb hts hown hK hP d_Mo_typeRows_168 ?_
              refine lv_bipush (v := 40) hx hb d_Mo_typeRows_171 (by decide) ?_
              refine lv_iload_n hx hb d_Mo_typeRows_173 rfl (lv_at hl 2 rfl) ?_
              refine lv_imul hx hb d_Mo_typeRows_174 ?_
              refine lv_iload_n hx hb d_Mo_typeRows_175 rfl (lv_at hl 1 rfl) ?_
              refine lv_iadd hx hb d_Mo_typeRows_176 ?_
              refine lv_aload_n hx hb d_Mo_typeRows_177 rfl (lv_at hl 3 rfl) ?_
              refine mg_0 hx hb hts hown hK hP d_Mo_typeRows_178 ?_
              refine lv_aload_n hx hb d_Mo_typeRows_181 rfl (lv_at hl 3 rfl) ?_
              refine mg_32 (v := si 32) hx hb hts hown hK hP rfl d_Mo_typeRows_182 ?_
              refine lv_iconst (v := 5) hx hb d_Mo_typeRows_185 (by decide) ?_
              refine lv_iadd hx hb d_Mo_typeRows_186 ?_
              obtain ⟨c_27, hf⟩ := it_n hf
              refine ma_0 (v := sa 0 ((si 32) + 5).toNatClampNeg) hx hb hK hP c_27 rfl d_Mo_typeRows_187 ?_
              obtain ⟨c_28, hf⟩ := it_n hf
              refine mz_16 hx hb hK hP hD hS c_28 d_Mo_typeRows_188 (fun H locs hP hD hS => ?_)
              refine lv_aload_n hx hb d_Mo_typeRows_189 rfl (lv_at hl 3 rfl) ?_
              refine lv_dup hx hb d_Mo_typeRows_190 rfl ?_
              refine mg_32 (v := si 32) hx hb hts hown hK hP rfl d_Mo_typeRows_191 ?_
              refine lv_bipush (v := 6) hx hb d_Mo_typeRows_194 (by decide) ?_
              refine lv_iadd hx hb d_Mo_typeRows_196 ?_
              refine mp_32 hx hb hts hown hK hP hD hS d_Mo_typeRows_197 (fun H locs hP hD hS => ?_)
              refine lv_iinc (v := x2 + 1) (lv' := [(2, .int (x2 + 1)), (3, .long r_10), (1, .int x1), (0, .ref h0)]) hx hb d_Mo_typeRows_200 hl (k := 1) rfl rfl (by decide) rfl (fun ls hl => ?_)
              refine lv_goto (tgt := 24) hx hb d_Mo_typeRows_203 (by decide) ?_
              exact ih hf hP hD hS (lv_sub hl [0, 2, 3] rfl)
            · have hf := it_f c_23 hf
              refine lv_aload_n hx hb d_Mo_typeRows_119 rfl (lv_at hl 3 rfl) ?_
              refine lv_bipush (v := 9) hx hb d_Mo_typeRows_120 (by decide) ?_
              refine lv_aload_n hx hb d_Mo_typeRows_122 rfl (lv_at hl 3 rfl) ?_
              refine mg_32 (v := si 32) hx hb hts hown hK hP rfl d_Mo_typeRows_123 ?_
              refine lv_iconst (v := 5) hx hb d_Mo_typeRows_126 (by decide) ?_
              refine lv_iadd hx hb d_Mo_typeRows_127 ?_
              obtain ⟨⟨z_33, i_29, j_30, a_31, b_32⟩, hc, hf⟩ := ob hf
              have hFc := mo_free hD hS hA
              refine cl_M (v := (some (.int z_33))) (st1 := [.int z_33]) (va_runV (As := [.int 9, .int ((si 32) + 5)]) (rest := []) ⟨hx, hb, hml, hown, hts⟩ (c_Mo_faulty l dC dI h0 r cA H.size nf 9 ((si 32) + 5) si sj sa sb hc) (cwV 2 hts (gdV m_7_133 m_7_135 msel_60 m_1_10 m_7_136) rfl rfl rfl (by decide +kernel) ⟨Nat.le_trans (Nat.le_of_ble_eq_true rfl) hRf, Nat.le_trans (Nat.le_of_ble_eq_true rfl) hRl⟩) ((MU.pre hP hK hD (hST.mu hS hFc)).vir (va_recv hK hP (ci := 10) (q0 := 0) rfl rfl)) rfl rfl hl.1 rfl (lv_room (Nat.le_of_ble_eq_true rfl)) d_Mo_typeRows_128 ⟨Nat.zero_le _, Nat.zero_le _⟩) rfl hS (fun q _ h => hFc q h) hFc (fun t H1 locs ht hvm hB hz1 hk1 hS => ?_)
              obtain ⟨hP, hD⟩ := mo_back ht hD hB
              generalize H1 = H at hP hS ⊢
              obtain ⟨c_34, hf⟩ := it_g hf
              cases rs hf
              exact hE _ _ _ _ d_Mo_typeRows_131 (nb_of c_34) hP hD hS
          · have hf := it_f c_20 hf
            refine lv_aload_n hx hb d_Mo_typeRows_86 rfl (lv_at hl 3 rfl) ?_
            refine lv_bipush (v := 8) hx hb d_Mo_typeRows_87 (by decide) ?_
            refine lv_aload_n hx hb d_Mo_typeRows_89 rfl (lv_at hl 3 rfl) ?_
            refine mg_32 (v := si 32) hx hb hts hown hK hP rfl d_Mo_typeRows_90 ?_
            refine lv_iconst (v := 4) hx hb d_Mo_typeRows_93 (by decide) ?_
            refine lv_iadd hx hb d_Mo_typeRows_94 ?_
            obtain ⟨⟨z_39, i_35, j_36, a_37, b_38⟩, hc, hf⟩ := ob hf
            have hFc := mo_free hD hS hA
            refine cl_M (v := (some (.int z_39))) (st1 := [.int z_39]) (va_runV (As := [.int 8, .int ((si 32) + 4)]) (rest := []) ⟨hx, hb, hml, hown, hts⟩ (c_Mo_faulty l dC dI h0 r cA H.size nf 8 ((si 32) + 4) si sj sa sb hc) (cwV 2 hts (gdV m_7_133 m_7_135 msel_60 m_1_10 m_7_136) rfl rfl rfl (by decide +kernel) ⟨Nat.le_trans (Nat.le_of_ble_eq_true rfl) hRf, Nat.le_trans (Nat.le_of_ble_eq_true rfl) hRl⟩) ((MU.pre hP hK hD (hST.mu hS hFc)).vir (va_recv hK hP (ci := 10) (q0 := 0) rfl rfl)) rfl rfl hl.1 rfl (lv_room (Nat.le_of_ble_eq_true rfl)) d_Mo_typeRows_95 ⟨Nat.zero_le _, Nat.zero_le _⟩) rfl hS (fun q _ h => hFc q h) hFc (fun t H1 locs ht hvm hB hz1 hk1 hS => ?_)
            obtain ⟨hP, hD⟩ := mo_back ht hD hB
            generalize H1 = H at hP hS ⊢
            obtain ⟨c_40, hf⟩ := it_g hf
            cases rs hf
            exact hE _ _ _ _ d_Mo_typeRows_98 (nb_of c_40) hP hD hS
        · have hf := it_f c_18 hf
          exact k_Mo_typeRows_60 C0 hST hA hK hE hf hP hD hS (lv_sub hl [3] rfl)
set_option maxHeartbeats 400000 in
set_option maxRecDepth 100000 in
theorem k_Mo_typeRows_0 (C0 : Cx p s m meth c args R b_Mo_typeRows "ZoneFilesModel" 5 (some .boolean) 2 49) (hST : ST A s s.heap) (hA : ∀ q, s.heap.size ≤ q → A q) (hK : va_K (dC, dI) classes (moT cA) s) (hE : ∀ (pc : Nat) (ls : Array Slot) (H : Heap) (locs : List Loc), decode b_Mo_typeRows pc = .ok (.ireturn, 1) → narrow .boolean (.int r0) = .int r0 → va_P (dC, dI) classes (moW h0 r cA vi vj va vb) H → va_D A (moW h0 r cA vi vj va vb) → va_S A s.heap H locs → W p l e R s m args below meth c H locs 0 0 Q (F0 m pc ls [.int r0])) {si : Nat → Int32} {sj : Nat → Int64} {sa : Nat → Nat → Int32} {sb : Nat → Nat → Int64} (hf : f_Mo_typeRows_0 nf si sj sa sb = some (r0, vi, vj, va, vb)) {H : Heap} {locs : List Loc} {ls : Array Slot} (hP : va_P (dC, dI) classes (moW h0 r cA si sj sa sb) H) (hD : va_D A (moW h0 r cA si sj sa sb)) (hS : va_S A s.heap H locs) (hl : lv_has ls 5 [(0, .ref h0)]) : W p l e R s m args below meth c H locs 0 0 Q (F0 m 0 ls []) := by
  obtain ⟨hx, hb, hr, hml, hown, hts, hlocks, hRf, hRl⟩ := id C0
  unfold f_Mo_typeRows_0 at hf
  refine lv_iconst (v := 4) hx hb d_Mo_typeRows_0 (by decide) ?_
  refine lv_istore_n (lv' := [(1, .int 4), (0, .ref h0)]) hx hb d_Mo_typeRows_1 rfl hl (by decide) rfl (fun ls hl => ?_)
  refine lv_aload_n hx hb d_Mo_typeRows_2 rfl (lv_at hl 1 rfl) ?_
  refine lv_ldc2 (v := 6) hx hb hown (hts (.constantLong "ZoneFilesModel" 254 6) m_7_168) d_Mo_typeRows_3 ?_
  refine lv_aload_n hx hb d_Mo_typeRows_6 rfl (lv_at hl 1 rfl) ?_
  refine mg_6 hx hb hts hown hK hP d_Mo_typeRows_7 ?_
  refine lv_iload_n hx hb d_Mo_typeRows_10 rfl (lv_at hl 0 rfl) ?_
  obtain ⟨c_1, hf⟩ := it_n hf
  refine ma_6 (v := sa 6 (4 : Int32).toNatClampNeg) hx hb hK hP c_1 rfl d_Mo_typeRows_11 ?_
  refine lv_i2l hx hb d_Mo_typeRows_12 rfl ?_
  refine lv_lmul hx hb d_Mo_typeRows_13 ?_
  obtain ⟨⟨z_6, i_2, j_3, a_4, b_5⟩, hc, hf⟩ := ob hf
  have hFc := mo_free hD hS hA
  refine cl_M (v := (some (.int z_6))) (st1 := [.int z_6]) (va_runV (As := [.long (6 * ((sa 6 (4 : Int32).toNatClampNeg).toInt64))]) (rest := []) ⟨hx, hb, hml, hown, hts⟩ (c_Mo_needs l dC dI h0 r cA H.size nf (6 * ((sa 6 (4 : Int32).toNatClampNeg).toInt64)) si sj sa sb hc) (cwV 1 hts (gdV m_7_151 m_7_153 msel_64 m_1_10 m_7_154) rfl rfl rfl (by decide +kernel) ⟨Nat.le_trans (Nat.le_of_ble_eq_true rfl) hRf, Nat.le_trans (Nat.le_of_ble_eq_true rfl) hRl⟩) ((MU.pre hP hK hD (hST.mu hS hFc)).vir (va_recv hK hP (ci := 10) (q0 := 0) rfl rfl)) rfl rfl hl.1 rfl (lv_room (Nat.le_of_ble_eq_true rfl)) d_Mo_typeRows_14 ⟨Nat.zero_le _, Nat.zero_le _⟩) rfl hS (fun q _ h => hFc q h) hFc (fun t H1 locs ht hvm hB hz1 hk1 hS => ?_)
  obtain ⟨hP, hD⟩ := mo_back ht hD hB
  generalize H1 = H at hP hS ⊢
  refine lv_if_ne (tgt := 22) hx hb d_Mo_typeRows_17 (by decide) (fun c_7 => ?_) (fun c_7 => ?_)
  · have hf := it_f c_7 hf
    refine lv_iconst (v := 0) hx hb d_Mo_typeRows_22 (by decide) ?_
    refine lv_istore_n (lv' := [(2, .int 0), (1, .int 4), (0, .ref h0)]) hx hb d_Mo_typeRows_23 rfl hl (by decide) rfl (fun ls hl => ?_)
    exact k_Mo_typeRows_24 C0 hST hA hK hE nf hf hP hD hS (lv_sub hl [0, 1, 2] rfl)
  · have hf := it_t c_7 hf
    refine lv_iconst (v := 0) hx hb d_Mo_typeRows_20 (by decide) ?_
    cases rs hf
    exact hE _ _ _ _ d_Mo_typeRows_21 rfl hP hD hS
end
set_option maxHeartbeats 400000 in
set_option maxRecDepth 100000 in
theorem c_Mo_typeRows (l : Launch) (dC : Nat → ClassId) (dI : Nat → Nat → Nat) (h0 : Nat) (r : Nat → Nat) (cA : Nat → ClassId) (sz : Nat) (nf : Nat) (si : Nat → Int32) (sj : Nat → Int64) (sa : Nat → Nat → Int32) (sb : Nat → Nat → Int64) {r0 : Int32} {vi : Nat → Int32} {vj : Nat → Int64} {va : Nat → Nat → Int32} {vb : Nat → Nat → Int64} (hf : f_Mo_typeRows nf si sj sa sb = some (r0, vi, vj, va, vb)) : Met l y_Mo_typeRows (wd y_Mo_typeRows b_Mo_typeRows 5 (some .boolean)) ({ frames := 2, cells := 0, slots := 0, locals := 49 }) (MU dC dI (moW h0 r cA si sj sa sb) (moT cA) sz [.ref h0]) (MV (some (.int r0)) (fun t => va_P (dC, dI) classes (moW h0 r cA vi vj va vb) t.heap) (va_A (moW h0 r cA si sj sa sb) sz)) 0 0 (va_A (moW h0 r cA si sj sa sb) sz) :=
  met_M (plainFor_of_name (by decide)) (Nat.le_of_ble_eq_true rfl) (fun p e R s m args below meth c ls hRc hRs hsz hin C0 hST hK hP hD hl => by
    obtain ⟨hx, hb, hr, hml, hown, hts, hlocks, hRf, hRl⟩ := id C0
    subst hsz
    have hA : ∀ q : Nat, s.heap.size ≤ q → va_A (moW h0 r cA si sj sa sb) s.heap.size q := fun q h => Or.inr h
    have hS : va_S (va_A (moW h0 r cA si sj sa sb) s.heap.size) s.heap s.heap [] := va_S.rf
    unfold f_Mo_typeRows at hf
    exact k_Mo_typeRows_0 C0 hST hA hK (fun pc ls H locs hd hn hP hD hS => W.zret hx hb hr hn (fun t ht hW => ⟨⟨rfl, mo_end ht hP⟩, hS.F ht⟩) hS.2.2 hd) hf hP hD hS (lv_sub hl [0] rfl))
-- ZoneFilesModel.block(I)Z
def f_Mo_block_122 (nf : Nat) (s0 : Int32) (si : Nat → Int32) (sj : Nat → Int64) (sa : Nat → Nat → Int32) (sb : Nat → Nat → Int64) : Option (Int32 × (Nat → Int32) × (Nat → Int64) × (Nat → Nat → Int32) × (Nat → Nat → Int64)) :=
  if s0 = 0 ∨ s0 = 1 then some (s0, si, sj, sa, sb) else none
def f_Mo_block_121 (nf : Nat) (si : Nat → Int32) (sj : Nat → Int64) (sa : Nat → Nat → Int32) (sb : Nat → Nat → Int64) : Option (Int32 × (Nat → Int32) × (Nat → Int64) × (Nat → Nat → Int32) × (Nat → Nat → Int64)) :=
  f_Mo_block_122 nf 0 si sj sa sb
def f_Mo_block_0 (nf : Nat) (x1 : Int32) (si : Nat → Int32) (sj : Nat → Int64) (sa : Nat → Nat → Int32) (sb : Nat → Nat → Int64) : Option (Int32 × (Nat → Int32) × (Nat → Int64) × (Nat → Nat → Int32) × (Nat → Nat → Int64)) :=
  if (0 : Int32) < 0 ∨ 6 ≤ (0 : Int32).toNatClampNeg then none else
  if (4 : Int32) < 0 ∨ 5 ≤ (4 : Int32).toNatClampNeg then none else
  if (1 : Int32) < 0 ∨ 6 ≤ (1 : Int32).toNatClampNeg then none else
  if (4 : Int32) < 0 ∨ 5 ≤ (4 : Int32).toNatClampNeg then none else
  if (2 : Int32) < 0 ∨ 6 ≤ (2 : Int32).toNatClampNeg then none else
  if (4 : Int32) < 0 ∨ 5 ≤ (4 : Int32).toNatClampNeg then none else
  if (3 : Int32) < 0 ∨ 6 ≤ (3 : Int32).toNatClampNeg then none else
  if (4 : Int32) < 0 ∨ 5 ≤ (4 : Int32).toNatClampNeg then none else
  if (4 : Int32) < 0 ∨ 6 ≤ (4 : Int32).toNatClampNeg then none else
  if (4 : Int32) < 0 ∨ 5 ≤ (4 : Int32).toNatClampNeg then none else
  if (5 : Int32) < 0 ∨ 6 ≤ (5 : Int32).toNatClampNeg then none else
  if (4 : Int32) < 0 ∨ 5 ≤ (4 : Int32).toNatClampNeg then none else
  (f_Mo_timeRows nf x1 si sj (va_up (va_up (va_up (va_up (va_up (va_up sa 10 (upd (sa 10) (4 : Int32).toNatClampNeg ((sb 37 (0 : Int32).toNatClampNeg).toInt32))) 9 (upd (sa 9) (4 : Int32).toNatClampNeg ((sb 37 (1 : Int32).toNatClampNeg).toInt32))) 8 (upd (sa 8) (4 : Int32).toNatClampNeg ((sb 37 (2 : Int32).toNatClampNeg).toInt32))) 5 (upd (sa 5) (4 : Int32).toNatClampNeg ((sb 37 (3 : Int32).toNatClampNeg).toInt32))) 6 (upd (sa 6) (4 : Int32).toNatClampNeg ((sb 37 (4 : Int32).toNatClampNeg).toInt32))) 7 (upd (sa 7) (4 : Int32).toNatClampNeg ((sb 37 (5 : Int32).toNatClampNeg).toInt32))) sb).bind fun (z_17, i_13, j_14, a_15, b_16) =>
  if z_17 = 0 then
  f_Mo_block_121 nf i_13 j_14 a_15 b_16
  else
  (f_Mo_typeRows nf i_13 j_14 a_15 b_16).bind fun (z_24, i_20, j_21, a_22, b_23) =>
    if z_24 = 0 then
    f_Mo_block_121 nf i_20 j_21 a_22 b_23
    else
    (f_Mo_nameRows nf i_20 j_21 a_22 b_23).bind fun (z_30, i_26, j_27, a_28, b_29) =>
      if z_30 = 0 then
      f_Mo_block_121 nf i_26 j_27 a_28 b_29
      else
      (f_Mo_leapRows nf x1 i_26 j_27 a_28 b_29).bind fun (z_36, i_32, j_33, a_34, b_35) =>
        if z_36 = 0 then
        f_Mo_block_121 nf i_32 j_33 a_34 b_35
        else
        (f_Mo_flagRows nf i_32 j_33 a_34 b_35).bind fun (z_42, i_38, j_39, a_40, b_41) =>
          if z_42 = 0 then
          f_Mo_block_121 nf i_38 j_39 a_40 b_41
          else
          f_Mo_block_122 nf 1 i_38 j_39 a_40 b_41
def f_Mo_block (nf : Nat) (p0 : Int32) (si : Nat → Int32) (sj : Nat → Int64) (sa : Nat → Nat → Int32) (sb : Nat → Nat → Int64) : Option (Int32 × (Nat → Int32) × (Nat → Int64) × (Nat → Nat → Int32) × (Nat → Nat → Int64)) :=
  f_Mo_block_0 nf p0 si sj sa sb
section
variable {p : Program} {l : Launch} {e : Env} {R : Room} {s : State} {m : MethodId} {args : Array Value} {below : List Frame} {meth : Method} {c : Code} {Q : State → Prop} {dC : Nat → ClassId} {dI : Nat → Nat → Nat} {nf : Nat} {A : Nat → Prop} {h0 : Nat} {r : Nat → Nat} {cA : Nat → ClassId}
variable {r0 : Int32} {vi : Nat → Int32} {vj : Nat → Int64} {va : Nat → Nat → Int32} {vb : Nat → Nat → Int64}
set_option maxHeartbeats 400000 in
set_option maxRecDepth 100000 in
theorem k_Mo_block_122 (C0 : Cx p s m meth c args R b_Mo_block "ZoneFilesModel" 3 (some .boolean) 3 79) (hST : ST A s s.heap) (hA : ∀ q, s.heap.size ≤ q → A q) (hK : va_K (dC, dI) classes (moT cA) s) (hE : ∀ (pc : Nat) (ls : Array Slot) (H : Heap) (locs : List Loc), decode b_Mo_block pc = .ok (.ireturn, 1) → narrow .boolean (.int r0) = .int r0 → va_P (dC, dI) classes (moW h0 r cA vi vj va vb) H → va_D A (moW h0 r cA vi vj va vb) → va_S A s.heap H locs → W p l e R s m args below meth c H locs 0 0 Q (F0 m pc ls [.int r0])) {s0 : Int32} {si : Nat → Int32} {sj : Nat → Int64} {sa : Nat → Nat → Int32} {sb : Nat → Nat → Int64} (hf : f_Mo_block_122 nf s0 si sj sa sb = some (r0, vi, vj, va, vb)) {H : Heap} {locs : List Loc} {ls : Array Slot} (hP : va_P (dC, dI) classes (moW h0 r cA si sj sa sb) H) (hD : va_D A (moW h0 r cA si sj sa sb)) (hS : va_S A s.heap H locs) (hl : lv_has ls 3 []) : W p l e R s m args below meth c H locs 0 0 Q (F0 m 122 ls [.int s0]) := by
  obtain ⟨hx, hb, hr, hml, hown, hts, hlocks, hRf, hRl⟩ := id C0
  unfold f_Mo_block_122 at hf
  obtain ⟨c_19, hf⟩ := it_g hf
  cases rs hf
  exact hE _ _ _ _ d_Mo_block_122 (nb_of c_19) hP hD hS
set_option maxHeartbeats 400000 in
set_option maxRecDepth 100000 in
theorem k_Mo_block_121 (C0 : Cx p s m meth c args R b_Mo_block "ZoneFilesModel" 3 (some .boolean) 3 79) (hST : ST A s s.heap) (hA : ∀ q, s.heap.size ≤ q → A q) (hK : va_K (dC, dI) classes (moT cA) s) (hE : ∀ (pc : Nat) (ls : Array Slot) (H : Heap) (locs : List Loc), decode b_Mo_block pc = .ok (.ireturn, 1) → narrow .boolean (.int r0) = .int r0 → va_P (dC, dI) classes (moW h0 r cA vi vj va vb) H → va_D A (moW h0 r cA vi vj va vb) → va_S A s.heap H locs → W p l e R s m args below meth c H locs 0 0 Q (F0 m pc ls [.int r0])) {si : Nat → Int32} {sj : Nat → Int64} {sa : Nat → Nat → Int32} {sb : Nat → Nat → Int64} (hf : f_Mo_block_121 nf si sj sa sb = some (r0, vi, vj, va, vb)) {H : Heap} {locs : List Loc} {ls : Array Slot} (hP : va_P (dC, dI) classes (moW h0 r cA si sj sa sb) H) (hD : va_D A (moW h0 r cA si sj sa sb)) (hS : va_S A s.heap H locs) (hl : lv_has ls 3 []) : W p l e R s m args below meth c H locs 0 0 Q (F0 m 121 ls []) := by
  obtain ⟨hx, hb, hr, hml, hown, hts, hlocks, hRf, hRl⟩ := id C0
  unfold f_Mo_block_121 at hf
  refine lv_iconst (v := 0) hx hb d_Mo_block_121 (by decide) ?_
  exact k_Mo_block_122 C0 hST hA hK hE hf hP hD hS (lv_sub hl [] rfl)
set_option maxHeartbeats 400000 in
set_option maxRecDepth 100000 in
theorem k_Mo_block_0 (C0 : Cx p s m meth c args R b_Mo_block "ZoneFilesModel" 3 (some .boolean) 3 79) (hST : ST A s s.heap) (hA : ∀ q, s.heap.size ≤ q → A q) (hK : va_K (dC, dI) classes (moT cA) s) (hE : ∀ (pc : Nat) (ls : Array Slot) (H : Heap) (locs : List Loc), decode b_Mo_block pc = .ok (.ireturn, 1) → narrow .boolean (.int r0) = .int r0 → va_P (dC, dI) classes (moW h0 r cA vi vj va vb) H → va_D A (moW h0 r cA vi vj va vb) → va_S A s.heap H locs → W p l e R s m args below meth c H locs 0 0 Q (F0 m pc ls [.int r0])) {x1 : Int32} {si : Nat → Int32} {sj : Nat → Int64} {sa : Nat → Nat → Int32} {sb : Nat → Nat → Int64} (hf : f_Mo_block_0 nf x1 si sj sa sb = some (r0, vi, vj, va, vb)) {H : Heap} {locs : List Loc} {ls : Array Slot} (hP : va_P (dC, dI) classes (moW h0 r cA si sj sa sb) H) (hD : va_D A (moW h0 r cA si sj sa sb)) (hS : va_S A s.heap H locs) (hl : lv_has ls 3 [(0, .ref h0), (1, .int x1)]) : W p l e R s m args below meth c H locs 0 0 Q (F0 m 0 ls []) := by
  obtain ⟨hx, hb, hr, hml, hown, hts, hlocks, hRf, hRl⟩ := id C0
  unfold f_Mo_block_0 at hf
  refine lv_iconst (v := 4) hx hb d_Mo_block_0 (by decide) ?_
  refine lv_istore_n (lv' := [(2, .int 4), (0, .ref h0), (1, .int x1)]) hx hb d_Mo_block_1 rfl hl (by decide) rfl (fun ls hl => ?_)
  refine lv_aload_n hx hb d_Mo_block_2 rfl (lv_at hl 1 rfl) ?_
  refine mg_10 hx hb hts hown hK hP d_Mo_block_3 ?_
  refine lv_iload_n hx hb d_Mo_block_6 rfl (lv_at hl 0 rfl) ?_
  refine lv_aload_n hx hb d_Mo_block_7 rfl (lv_at hl 1 rfl) ?_
  refine mg_37 hx hb hts hown hK hP d_Mo_block_8 ?_
  refine lv_iconst (v := 0) hx hb d_Mo_block_11 (by decide) ?_
  obtain ⟨c_1, hf⟩ := it_n hf
  refine ma_37 (v := sb 37 (0 : Int32).toNatClampNeg) hx hb hK hP c_1 rfl d_Mo_block_12 ?_
  refine lv_l2i hx hb d_Mo_block_13 rfl ?_
  obtain ⟨c_2, hf⟩ := it_n hf
  refine mz_10 hx hb hK hP hD hS c_2 d_Mo_block_14 (fun H locs hP hD hS => ?_)
  refine lv_aload_n hx hb d_Mo_block_15 rfl (lv_at hl 1 rfl) ?_
  refine mg_9 hx hb hts hown hK hP d_Mo_block_16 ?_
  refine lv_iload_n hx hb d_Mo_block_19 rfl (lv_at hl 0 rfl) ?_
  refine lv_aload_n hx hb d_Mo_block_20 rfl (lv_at hl 1 rfl) ?_
  refine mg_37 hx hb hts hown hK hP d_Mo_block_21 ?_
  refine lv_iconst (v := 1) hx hb d_Mo_block_24 (by decide) ?_
  obtain ⟨c_3, hf⟩ := it_n hf
  refine ma_37 (v := sb 37 (1 : Int32).toNatClampNeg) hx hb hK hP c_3 rfl d_Mo_block_25 ?_
  refine lv_l2i hx hb d_Mo_block_26 rfl ?_
  obtain ⟨c_4, hf⟩ := it_n hf
  refine mz_9 hx hb hK hP hD hS c_4 d_Mo_block_27 (fun H locs hP hD hS => ?_)
  refine lv_aload_n hx hb d_Mo_block_28 rfl (lv_at hl 1 rfl) ?_
  refine mg_8 hx hb hts hown hK hP d_Mo_block_29 ?_
  refine lv_iload_n hx hb d_Mo_block_32 rfl (lv_at hl 0 rfl) ?_
  refine lv_aload_n hx hb d_Mo_block_33 rfl (lv_at hl 1 rfl) ?_
  refine mg_37 hx hb hts hown hK hP d_Mo_block_34 ?_
  refine lv_iconst (v := 2) hx hb d_Mo_block_37 (by decide) ?_
  obtain ⟨c_5, hf⟩ := it_n hf
  refine ma_37 (v := sb 37 (2 : Int32).toNatClampNeg) hx hb hK hP c_5 rfl d_Mo_block_38 ?_
  refine lv_l2i hx hb d_Mo_block_39 rfl ?_
  obtain ⟨c_6, hf⟩ := it_n hf
  refine mz_8 hx hb hK hP hD hS c_6 d_Mo_block_40 (fun H locs hP hD hS => ?_)
  refine lv_aload_n hx hb d_Mo_block_41 rfl (lv_at hl 1 rfl) ?_
  refine mg_5 hx hb hts hown hK hP d_Mo_block_42 ?_
  refine lv_iload_n hx hb d_Mo_block_45 rfl (lv_at hl 0 rfl) ?_
  refine lv_aload_n hx hb d_Mo_block_46 rfl (lv_at hl 1 rfl) ?_
  refine mg_37 hx hb hts hown hK hP d_Mo_block_47 ?_
  refine lv_iconst (v := 3) hx hb d_Mo_block_50 (by decide) ?_
  obtain ⟨c_7, hf⟩ := it_n hf
  refine ma_37 (v := sb 37 (3 : Int32).toNatClampNeg) hx hb hK hP c_7 rfl d_Mo_block_51 ?_
  refine lv_l2i hx hb d_Mo_block_52 rfl ?_
  obtain ⟨c_8, hf⟩ := it_n hf
  refine mz_5 hx hb hK hP hD hS c_8 d_Mo_block_53 (fun H locs hP hD hS => ?_)
  refine lv_aload_n hx hb d_Mo_block_54 rfl (lv_at hl 1 rfl) ?_
  refine mg_6 hx hb hts hown hK hP d_Mo_block_55 ?_
  refine lv_iload_n hx hb d_Mo_block_58 rfl (lv_at hl 0 rfl) ?_
  refine lv_aload_n hx hb d_Mo_block_59 rfl (lv_at hl 1 rfl) ?_
  refine mg_37 hx hb hts hown hK hP d_Mo_block_60 ?_
  refine lv_iconst (v := 4) hx hb d_Mo_block_63 (by decide) ?_
  obtain ⟨c_9, hf⟩ := it_n hf
  refine ma_37 (v := sb 37 (4 : Int32).toNatClampNeg) hx hb hK hP c_9 rfl d_Mo_block_64 ?_
  refine lv_l2i hx hb d_Mo_block_65 rfl ?_
  obtain ⟨c_10, hf⟩ := it_n hf
  refine mz_6 hx hb hK hP hD hS c_10 d_Mo_block_66 (fun H locs hP hD hS => ?_)
  refine lv_aload_n hx hb d_Mo_block_67 rfl (lv_at hl 1 rfl) ?_
  refine mg_7 hx hb hts hown hK hP d_Mo_block_68 ?_
  refine lv_iload_n hx hb d_Mo_block_71 rfl (lv_at hl 0 rfl) ?_
  refine lv_aload_n hx hb d_Mo_block_72 rfl (lv_at hl 1 rfl) ?_
  refine mg_37 hx hb hts hown hK hP d_Mo_block_73 ?_
  refine lv_iconst (v := 5) hx hb d_Mo_block_76 (by decide) ?_
  obtain ⟨c_11, hf⟩ := it_n hf
  refine ma_37 (v := sb 37 (5 : Int32).toNatClampNeg) hx hb hK hP c_11 rfl d_Mo_block_77 ?_
  refine lv_l2i hx hb d_Mo_block_78 rfl ?_
  obtain ⟨c_12, hf⟩ := it_n hf
  refine mz_7 hx hb hK hP hD hS c_12 d_Mo_block_79 (fun H locs hP hD hS => ?_)
  refine lv_aload_n hx hb d_Mo_block_80 rfl (lv_at hl 1 rfl) ?_
  refine lv_iload_n hx hb d_Mo_block_81 rfl (lv_at hl 2 rfl) ?_
  obtain ⟨⟨z_17, i_13, j_14, a_15, b_16⟩, hc, hf⟩ := ob hf
  have hFc := mo_free hD hS hA
  refine cl_M (v := (some (.int z_17))) (st1 := [.int z_17]) (va_runV (As := [.int x1]) (rest := []) ⟨hx, hb, hml, hown, hts⟩ (c_Mo_timeRows l dC dI h0 r cA H.size nf x1 si sj (va_up (va_up (va_up (va_up (va_up (va_up sa 10 (upd (sa 10) (4 : Int32).toNatClampNeg ((sb 37 (0 : Int32).toNatClampNeg).toInt32))) 9 (upd (sa 9) (4 : Int32).toNatClampNeg ((sb 37 (1 : Int32).toNatClampNeg).toInt32))) 8 (upd (sa 8) (4 : Int32).toNatClampNeg ((sb 37 (2 : Int32).toNatClampNeg).toInt32))) 5 (upd (sa 5) (4 : Int32).toNatClampNeg ((sb 37 (3 : Int32).toNatClampNeg).toInt32))) 6 (upd (sa 6) (4 : Int32).toNatClampNeg ((sb 37 (4 : Int32).toNatClampNeg).toInt32))) 7 (upd (sa 7) (4 : Int32).toNatClampNeg ((sb 37 (5 : Int32).toNatClampNeg).toInt32))) sb hc) (cwV 1 hts (gdV m_7_147 m_7_149 msel_63 m_1_10 m_7_150) rfl rfl rfl (by decide +kernel) ⟨Nat.le_trans (Nat.le_of_ble_eq_true rfl) hRf, Nat.le_trans (Nat.le_of_ble_eq_true rfl) hRl⟩) ((MU.pre hP hK hD (hST.mu hS hFc)).vir (va_recv hK hP (ci := 10) (q0 := 0) rfl rfl)) rfl rfl hl.1 rfl (lv_room (Nat.le_of_ble_eq_true rfl)) d_Mo_block_82 ⟨Nat.zero_le _, Nat.zero_le _⟩) rfl hS (fun q _ h => hFc q h) hFc (fun t H1 locs ht hvm hB hz1 hk1 hS => ?_)
  obtain ⟨hP, hD⟩ := mo_back ht hD hB
  generalize H1 = H at hP hS ⊢
  refine lv_if_eq (tgt := 121) hx hb d_Mo_block_85 (by decide) (fun c_18 => ?_) (fun c_18 => ?_)
  · have hf := it_t c_18 hf
    exact k_Mo_block_121 C0 hST hA hK hE hf hP hD hS (lv_sub hl [] rfl)
  · have hf := it_f c_18 hf
    refine lv_aload_n hx hb d_Mo_block_88 rfl (lv_at hl 1 rfl) ?_
    obtain ⟨⟨z_24, i_20, j_21, a_22, b_23⟩, hc, hf⟩ := ob hf
    have hFc := mo_free hD hS hA
    refine cl_M (v := (some (.int z_24))) (st1 := [.int z_24]) (va_runV (As := []) (rest := []) ⟨hx, hb, hml, hown, hts⟩ (c_Mo_typeRows l dC dI h0 r cA H.size nf i_13 j_14 a_15 b_16 hc) (cwV 0 hts (gdV m_7_164 m_7_166 msel_66 m_1_10 m_7_167) rfl rfl rfl (by decide +kernel) ⟨Nat.le_trans (Nat.le_of_ble_eq_true rfl) hRf, Nat.le_trans (Nat.le_of_ble_eq_true rfl) hRl⟩) ((MU.pre hP hK hD (hST.mu hS hFc)).vir (va_recv hK hP (ci := 10) (q0 := 0) rfl rfl)) rfl rfl hl.1 rfl (lv_room (Nat.le_of_ble_eq_true rfl)) d_Mo_block_89 ⟨Nat.zero_le _, Nat.zero_le _⟩) rfl hS (fun q _ h => hFc q h) hFc (fun t H1 locs ht hvm hB hz1 hk1 hS => ?_)
    obtain ⟨hP, hD⟩ := mo_back ht hD hB
    generalize H1 = H at hP hS ⊢
    refine lv_if_eq (tgt := 121) hx hb d_Mo_block_92 (by decide) (fun c_25 => ?_) (fun c_25 => ?_)
    · have hf := it_t c_25 hf
      exact k_Mo_block_121 C0 hST hA hK hE hf hP hD hS (lv_sub hl [] rfl)
    · have hf := it_f c_25 hf
      refine lv_aload_n hx hb d_Mo_block_95 rfl (lv_at hl 1 rfl) ?_
      obtain ⟨⟨z_30, i_26, j_27, a_28, b_29⟩, hc, hf⟩ := ob hf
      have hFc := mo_free hD hS hA
      refine cl_M (v := (some (.int z_30))) (st1 := [.int z_30]) (va_runV (As := []) (rest := []) ⟨hx, hb, hml, hown, hts⟩ (c_Mo_nameRows l dC dI h0 r cA H.size nf i_20 j_21 a_22 b_23 hc) (cwV 0 hts (gdV m_7_171 m_7_173 msel_67 m_1_10 m_7_174) rfl rfl rfl (by decide +kernel) ⟨Nat.le_trans (Nat.le_of_ble_eq_true rfl) hRf, Nat.le_trans (Nat.le_of_ble_eq_true rfl) hRl⟩) ((MU.pre hP hK hD (hST.mu hS hFc)).vir (va_recv hK hP (ci := 10) (q0 := 0) rfl rfl)) rfl rfl hl.1 rfl (lv_room (Nat.le_of_ble_eq_true rfl)) d_Mo_block_96 ⟨Nat.zero_le _, Nat.zero_le _⟩) rfl hS (fun q _ h => hFc q h) hFc (fun t H1 locs ht hvm hB hz1 hk1 hS => ?_)
      obtain ⟨hP, hD⟩ := mo_back ht hD hB
      generalize H1 = H at hP hS ⊢
      refine lv_if_eq (tgt := 121) hx hb d_Mo_block_99 (by decide) (fun c_31 => ?_) (fun c_31 => ?_)
      · have hf := it_t c_31 hf
        exact k_Mo_block_121 C0 hST hA hK hE hf hP hD hS (lv_sub hl [] rfl)
      · have hf := it_f c_31 hf
        refine lv_aload_n hx hb d_Mo_block_102 rfl (lv_at hl 1 rfl) ?_
        refine lv_iload_n hx hb d_Mo_block_103 rfl (lv_at hl 2 rfl) ?_
        obtain ⟨⟨z_36, i_32, j_33, a_34, b_35⟩, hc, hf⟩ := ob hf
        have hFc := mo_free hD hS hA
        refine cl_M (v := (some (.int z_36))) (st1 := [.int z_36]) (va_runV (As := [.int x1]) (rest := []) ⟨hx, hb, hml, hown, hts⟩ (c_Mo_leapRows l dC dI h0 r cA H.size nf x1 i_26 j_27 a_28 b_29 hc) (cwV 1 hts (gdV m_7_179 m_7_181 msel_69 m_1_10 m_7_182) rfl rfl rfl (by decide +kernel) ⟨Nat.le_trans (Nat.le_of_ble_eq_true rfl) hRf, Nat.le_trans (Nat.le_of_ble_eq_true rfl) hRl⟩) ((MU.pre hP hK hD (hST.mu hS hFc)).vir (va_recv hK hP (ci := 10) (q0 := 0) rfl rfl)) rfl rfl hl.1 rfl (lv_room (Nat.le_of_ble_eq_true rfl)) d_Mo_block_104 ⟨Nat.zero_le _, Nat.zero_le _⟩) rfl hS (fun q _ h => hFc q h) hFc (fun t H1 locs ht hvm hB hz1 hk1 hS => ?_)
        obtain ⟨hP, hD⟩ := mo_back ht hD hB
        generalize H1 = H at hP hS ⊢
        refine lv_if_eq (tgt := 121) hx hb d_Mo_block_107 (by decide) (fun c_37 => ?_) (fun c_37 => ?_)
        · have hf := it_t c_37 hf
          exact k_Mo_block_121 C0 hST hA hK hE hf hP hD hS (lv_sub hl [] rfl)
        · have hf := it_f c_37 hf
          refine lv_aload_n hx hb d_Mo_block_110 rfl (lv_at hl 1 rfl) ?_
          obtain ⟨⟨z_42, i_38, j_39, a_40, b_41⟩, hc, hf⟩ := ob hf
          have hFc := mo_free hD hS hA
          refine cl_M (v := (some (.int z_42))) (st1 := [.int z_42]) (va_runV (As := []) (rest := []) ⟨hx, hb, hml, hown, hts⟩ (c_Mo_flagRows l dC dI h0 r cA H.size nf i_32 j_33 a_34 b_35 hc) (cwV 0 hts (gdV m_7_186 m_7_188 msel_70 m_1_10 m_7_189) rfl rfl rfl (by decide +kernel) ⟨Nat.le_trans (Nat.le_of_ble_eq_true rfl) hRf, Nat.le_trans (Nat.le_of_ble_eq_true rfl) hRl⟩) ((MU.pre hP hK hD (hST.mu hS hFc)).vir (va_recv hK hP (ci := 10) (q0 := 0) rfl rfl)) rfl rfl hl.1 rfl (lv_room (Nat.le_of_ble_eq_true rfl)) d_Mo_block_111 ⟨Nat.zero_le _, Nat.zero_le _⟩) rfl hS (fun q _ h => hFc q h) hFc (fun t H1 locs ht hvm hB hz1 hk1 hS => ?_)
          obtain ⟨hP, hD⟩ := mo_back ht hD hB
          generalize H1 = H at hP hS ⊢
          refine lv_if_eq (tgt := 121) hx hb d_Mo_block_114 (by decide) (fun c_43 => ?_) (fun c_43 => ?_)
          · have hf := it_t c_43 hf
            exact k_Mo_block_121 C0 hST hA hK hE hf hP hD hS (lv_sub hl [] rfl)
          · have hf := it_f c_43 hf
            refine lv_iconst (v := 1) hx hb d_Mo_block_117 (by decide) ?_
            refine lv_goto (tgt := 122) hx hb d_Mo_block_118 (by decide) ?_
            exact k_Mo_block_122 C0 hST hA hK hE hf hP hD hS (lv_sub hl [] rfl)
end
set_option maxHeartbeats 400000 in
set_option maxRecDepth 100000 in
theorem c_Mo_block (l : Launch) (dC : Nat → ClassId) (dI : Nat → Nat → Nat) (h0 : Nat) (r : Nat → Nat) (cA : Nat → ClassId) (sz : Nat) (nf : Nat) (p0 : Int32) (si : Nat → Int32) (sj : Nat → Int64) (sa : Nat → Nat → Int32) (sb : Nat → Nat → Int64) {r0 : Int32} {vi : Nat → Int32} {vj : Nat → Int64} {va : Nat → Nat → Int32} {vb : Nat → Nat → Int64} (hf : f_Mo_block nf p0 si sj sa sb = some (r0, vi, vj, va, vb)) : Met l y_Mo_block (wd y_Mo_block b_Mo_block 3 (some .boolean)) ({ frames := 3, cells := 0, slots := 0, locals := 79 }) (MU dC dI (moW h0 r cA si sj sa sb) (moT cA) sz [.ref h0, .int p0]) (MV (some (.int r0)) (fun t => va_P (dC, dI) classes (moW h0 r cA vi vj va vb) t.heap) (va_A (moW h0 r cA si sj sa sb) sz)) 0 0 (va_A (moW h0 r cA si sj sa sb) sz) :=
  met_M (plainFor_of_name (by decide)) (Nat.le_of_ble_eq_true rfl) (fun p e R s m args below meth c ls hRc hRs hsz hin C0 hST hK hP hD hl => by
    obtain ⟨hx, hb, hr, hml, hown, hts, hlocks, hRf, hRl⟩ := id C0
    subst hsz
    have hA : ∀ q : Nat, s.heap.size ≤ q → va_A (moW h0 r cA si sj sa sb) s.heap.size q := fun q h => Or.inr h
    have hS : va_S (va_A (moW h0 r cA si sj sa sb) s.heap.size) s.heap s.heap [] := va_S.rf
    unfold f_Mo_block at hf
    exact k_Mo_block_0 C0 hST hA hK (fun pc ls H locs hd hn hP hD hS => W.zret hx hb hr hn (fun t ht hW => ⟨⟨rfl, mo_end ht hP⟩, hS.F ht⟩) hS.2.2 hd) hf hP hD hS (lv_sub hl [0, 1] rfl))
-- ZoneFilesModel.footer()Z
def f_Mo_footer_148 (nf : Nat) : Nat → Int32 → Int32 → Int32 → Int32 → (Nat → Int32) → (Nat → Int64) → (Nat → Nat → Int32) → (Nat → Nat → Int64) → Option (Int32 × (Nat → Int32) × (Nat → Int64) × (Nat → Nat → Int32) × (Nat → Nat → Int64))
  | 0, _, _, _, _, _, _, _, _ => none
  | n + 1, x4, x3, x2, x1, si, sj, sa, sb =>
    if x2 ≤ x4 then
    some (1, va_up si 32 (x2 + 1), sj, sa, sb)
    else
    if x4 < 0 ∨ 6000 ≤ x4.toNatClampNeg then none else
      if (((128 * x1) + x4) - x3) < 0 ∨ 640 ≤ (((128 * x1) + x4) - x3).toNatClampNeg then none else
      f_Mo_footer_148 nf n (x4 + 1) x3 x2 x1 si sj (va_up sa 22 (upd (sa 22) (((128 * x1) + x4) - x3).toNatClampNeg (sa 0 x4.toNatClampNeg))) sb
def f_Mo_footer_136 (nf : Nat) (x3 : Int32) (x2 : Int32) (x1 : Int32) (si : Nat → Int32) (sj : Nat → Int64) (sa : Nat → Nat → Int32) (sb : Nat → Nat → Int64) : Option (Int32 × (Nat → Int32) × (Nat → Int64) × (Nat → Nat → Int32) × (Nat → Nat → Int64)) :=
  if x1 < 0 ∨ 5 ≤ x1.toNatClampNeg then none else
  f_Mo_footer_148 nf nf x3 x3 x2 x1 si sj (va_up sa 11 (upd (sa 11) x1.toNatClampNeg (x2 - x3))) sb
def f_Mo_footer_34 (nf : Nat) (x2 : Int32) (x1 : Int32) (si : Nat → Int32) (sj : Nat → Int64) (sa : Nat → Nat → Int32) (sb : Nat → Nat → Int64) : Option (Int32 × (Nat → Int32) × (Nat → Int64) × (Nat → Nat → Int32) × (Nat → Nat → Int64)) :=
  if x2 < (si 1) then
  if (si 32) < 0 ∨ 6000 ≤ (si 32).toNatClampNeg then none else
    if (sa 0 (si 32).toNatClampNeg) = (10 : Int32) then
    if x1 < 0 ∨ 5 ≤ x1.toNatClampNeg then none else
      if x2 ≤ ((si 32) + 1) then
      f_Mo_footer_136 nf ((si 32) + 1) x2 x1 (va_up (va_up si 32 ((si 32) + 1)) 39 ((si 32) + 1)) sj (va_up sa 23 (upd (sa 23) x1.toNatClampNeg 0)) sb
      else
      (f_Mo_ruleText nf (si 38) ((si 32) + 1) x2 (va_up (va_up si 32 ((si 32) + 1)) 39 ((si 32) + 1)) sj (va_up sa 23 (upd (sa 23) x1.toNatClampNeg 0)) sb).bind fun (z_15, i_11, j_12, a_13, b_14) =>
        if z_15 = 0 then
        (f_Mo_faulty nf 15 (i_11 35) i_11 j_12 a_13 b_14).bind fun (z_21, i_17, j_18, a_19, b_20) =>
          if z_21 = 0 ∨ z_21 = 1 then some (z_21, i_17, j_18, a_19, b_20) else none
        else
        f_Mo_footer_136 nf ((si 32) + 1) x2 x1 i_11 j_12 a_13 b_14
    else
    (f_Mo_faulty nf 14 (si 32) si sj sa sb).bind fun (z_27, i_23, j_24, a_25, b_26) =>
      if z_27 = 0 ∨ z_27 = 1 then some (z_27, i_23, j_24, a_25, b_26) else none
  else
  (f_Mo_faulty nf 1 (si 1) si sj sa sb).bind fun (z_33, i_29, j_30, a_31, b_32) =>
    if z_33 = 0 ∨ z_33 = 1 then some (z_33, i_29, j_30, a_31, b_32) else none
def f_Mo_footer_9 (nf : Nat) : Nat → Int32 → Int32 → (Nat → Int32) → (Nat → Int64) → (Nat → Nat → Int32) → (Nat → Nat → Int64) → Option (Int32 × (Nat → Int32) × (Nat → Int64) × (Nat → Nat → Int32) × (Nat → Nat → Int64))
  | 0, _, _, _, _, _, _ => none
  | n + 1, x2, x1, si, sj, sa, sb =>
    if (si 1) ≤ x2 then
    f_Mo_footer_34 nf x2 x1 si sj sa sb
    else
    if x2 < 0 ∨ 6000 ≤ x2.toNatClampNeg then none else
      if (sa 0 x2.toNatClampNeg) = (10 : Int32) then
      f_Mo_footer_34 nf x2 x1 si sj sa sb
      else
      f_Mo_footer_9 nf n (x2 + 1) x1 si sj sa sb
def f_Mo_footer_0 (nf : Nat) (si : Nat → Int32) (sj : Nat → Int64) (sa : Nat → Nat → Int32) (sb : Nat → Nat → Int64) : Option (Int32 × (Nat → Int32) × (Nat → Int64) × (Nat → Nat → Int32) × (Nat → Nat → Int64)) :=
  f_Mo_footer_9 nf nf ((si 32) + 1) 4 si sj sa sb
def f_Mo_footer (nf : Nat) (si : Nat → Int32) (sj : Nat → Int64) (sa : Nat → Nat → Int32) (sb : Nat → Nat → Int64) : Option (Int32 × (Nat → Int32) × (Nat → Int64) × (Nat → Nat → Int32) × (Nat → Nat → Int64)) :=
  f_Mo_footer_0 nf si sj sa sb
section
variable {p : Program} {l : Launch} {e : Env} {R : Room} {s : State} {m : MethodId} {args : Array Value} {below : List Frame} {meth : Method} {c : Code} {Q : State → Prop} {dC : Nat → ClassId} {dI : Nat → Nat → Nat} {nf : Nat} {A : Nat → Prop} {h0 : Nat} {r : Nat → Nat} {cA : Nat → ClassId}
variable {r0 : Int32} {vi : Nat → Int32} {vj : Nat → Int64} {va : Nat → Nat → Int32} {vb : Nat → Nat → Int64}
set_option maxHeartbeats 400000 in
set_option maxRecDepth 100000 in
theorem k_Mo_footer_148 (C0 : Cx p s m meth c args R b_Mo_footer "ZoneFilesModel" 5 (some .boolean) 5 117) (hST : ST A s s.heap) (hA : ∀ q, s.heap.size ≤ q → A q) (hK : va_K (dC, dI) classes (moT cA) s) (hE : ∀ (pc : Nat) (ls : Array Slot) (H : Heap) (locs : List Loc), decode b_Mo_footer pc = .ok (.ireturn, 1) → narrow .boolean (.int r0) = .int r0 → va_P (dC, dI) classes (moW h0 r cA vi vj va vb) H → va_D A (moW h0 r cA vi vj va vb) → va_S A s.heap H locs → W p l e R s m args below meth c H locs 0 0 Q (F0 m pc ls [.int r0])) : ∀ (n : Nat) {x4 : Int32} {x3 : Int32} {x2 : Int32} {x1 : Int32} {si : Nat → Int32} {sj : Nat → Int64} {sa : Nat → Nat → Int32} {sb : Nat → Nat → Int64}, f_Mo_footer_148 nf n x4 x3 x2 x1 si sj sa sb = some (r0, vi, vj, va, vb) → ∀ {H : Heap} {locs : List Loc} {ls : Array Slot}, va_P (dC, dI) classes (moW h0 r cA si sj sa sb) H → va_D A (moW h0 r cA si sj sa sb) → va_S A s.heap H locs → lv_has ls 5 [(4, .int x4), (3, .int x3), (2, .int x2), (1, .int x1), (0, .ref h0)] → W p l e R s m args below meth c H locs 0 0 Q (F0 m 148 ls []) := by
  obtain ⟨hx, hb, hr, hml, hown, hts, hlocks, hRf, hRl⟩ := id C0
  intro n
  induction n with
  | zero =>
    intro x4 x3 x2 x1 si sj sa sb hf
    exact absurd hf (by simp [f_Mo_footer_148])
  | succ n ih =>
    intro x4 x3 x2 x1 si sj sa sb hf H locs ls hP hD hS hl
    unfold f_Mo_footer_148 at hf
    refine lv_iload hx hb d_Mo_footer_148 (lv_at hl 0 rfl) ?_
    refine lv_iload_n hx hb d_Mo_footer_150 rfl (lv_at hl 2 rfl) ?_
    refine lv_icmp_ge (tgt := 182) hx hb d_Mo_footer_151 (by decide) (fun c_8 => ?_) (fun c_8 => ?_)
    · have hf := it_t c_8 hf
      refine lv_aload_n hx hb d_Mo_footer_182 rfl (lv_at hl 4 rfl) ?_
      refine lv_iload_n hx hb d_Mo_footer_183 rfl (lv_at hl 2 rfl) ?_
      refine lv_iconst (v := 1) hx hb d_Mo_footer_184 (by decide) ?_
      refine lv_iadd hx hb d_Mo_footer_185 ?_
      refine mp_32 hx hb hts hown hK hP hD hS d_Mo_footer_186 (fun H locs hP hD hS => ?_)
      refine lv_iconst (v := 1) hx hb d_Mo_footer_189 (by decide) ?_
      cases rs hf
      exact hE _ _ _ _ d_Mo_footer_190 rfl hP hD hS
    · have hf := it_f c_8 hf
      refine lv_aload_n hx hb d_Mo_footer_154 rfl (lv_at hl 4 rfl) ?_
      refine mg_22 hx hb hts hown hK hP d_Mo_footer_155 ?_
      refine lv_sipush (v := 128) hx hb d_Mo_footer_158 (by decide) ?_
      refine lv_iload_n hx hb d_Mo_footer_161 rfl (lv_at hl 3 rfl) ?_
      refine lv_imul hx hb d_Mo_footer_162 ?_
      refine lv_iload hx hb d_Mo_footer_163 (lv_at hl 0 rfl) ?_
      refine lv_iadd hx hb d_Mo_footer_165 ?_
      refine lv_iload_n hx hb d_Mo_footer_166 rfl (lv_at hl 1 rfl) ?_
      refine lv_isub hx hb d_Mo_footer_167 ?_
      refine lv_aload_n hx hb d_Mo_footer_168 rfl (lv_at hl 4 rfl) ?_
      refine mg_0 hx hb hts hown hK hP d_Mo_footer_169 ?_
      refine lv_iload hx hb d_Mo_footer_172 (lv_at hl 0 rfl) ?_
      obtain ⟨c_9, hf⟩ := it_n hf
      refine ma_0 (v := sa 0 x4.toNatClampNeg) hx hb hK hP c_9 rfl d_Mo_footer_174 ?_
      obtain ⟨c_10, hf⟩ := it_n hf
      refine mz_22 hx hb hK hP hD hS c_10 d_Mo_footer_175 (fun H locs hP hD hS => ?_)
      refine lv_iinc (v := x4 + 1) (lv' := [(4, .int (x4 + 1)), (3, .int x3), (2, .int x2), (1, .int x1), (0, .ref h0)]) hx hb d_Mo_footer_176 hl (k := 0) rfl rfl (by decide) rfl (fun ls hl => ?_)
      refine lv_goto (tgt := 148) hx hb d_Mo_footer_179 (by decide) ?_
      exact ih hf hP hD hS (lv_sub hl [0, 1, 2, 3, 4] rfl)
set_option maxHeartbeats 400000 in
set_option maxRecDepth 100000 in
theorem k_Mo_footer_136 (C0 : Cx p s m meth c args R b_Mo_footer "ZoneFilesModel" 5 (some .boolean) 5 117) (hST : ST A s s.heap) (hA : ∀ q, s.heap.size ≤ q → A q) (hK : va_K (dC, dI) classes (moT cA) s) (hE : ∀ (pc : Nat) (ls : Array Slot) (H : Heap) (locs : List Loc), decode b_Mo_footer pc = .ok (.ireturn, 1) → narrow .boolean (.int r0) = .int r0 → va_P (dC, dI) classes (moW h0 r cA vi vj va vb) H → va_D A (moW h0 r cA vi vj va vb) → va_S A s.heap H locs → W p l e R s m args below meth c H locs 0 0 Q (F0 m pc ls [.int r0])) {x3 : Int32} {x2 : Int32} {x1 : Int32} {si : Nat → Int32} {sj : Nat → Int64} {sa : Nat → Nat → Int32} {sb : Nat → Nat → Int64} (hf : f_Mo_footer_136 nf x3 x2 x1 si sj sa sb = some (r0, vi, vj, va, vb)) {H : Heap} {locs : List Loc} {ls : Array Slot} (hP : va_P (dC, dI) classes (moW h0 r cA si sj sa sb) H) (hD : va_D A (moW h0 r cA si sj sa sb)) (hS : va_S A s.heap H locs) (hl : lv_has ls 5 [(3, .int x3), (2, .int x2), (1, .int x1), (0, .ref h0)]) : W p l e R s m args below meth c H locs 0 0 Q (F0 m 136 ls []) := by
  obtain ⟨hx, hb, hr, hml, hown, hts, hlocks, hRf, hRl⟩ := id C0
  unfold f_Mo_footer_136 at hf
  refine lv_aload_n hx hb d_Mo_footer_136 rfl (lv_at hl 3 rfl) ?_
  refine mg_11 hx hb hts hown hK hP d_Mo_footer_137 ?_
  refine lv_iload_n hx hb d_Mo_footer_140 rfl (lv_at hl 2 rfl) ?_
  refine lv_iload_n hx hb d_Mo_footer_141 rfl (lv_at hl 1 rfl) ?_
  refine lv_iload_n hx hb d_Mo_footer_142 rfl (lv_at hl 0 rfl) ?_
  refine lv_isub hx hb d_Mo_footer_143 ?_
  obtain ⟨c_7, hf⟩ := it_n hf
  refine mz_11 hx hb hK hP hD hS c_7 d_Mo_footer_144 (fun H locs hP hD hS => ?_)
  refine lv_iload_n hx hb d_Mo_footer_145 rfl (lv_at hl 0 rfl) ?_
  refine lv_istore (lv' := [(4, .int x3), (3, .int x3), (2, .int x2), (1, .int x1), (0, .ref h0)]) hx hb d_Mo_footer_146 hl (by decide) rfl (fun ls hl => ?_)
  exact k_Mo_footer_148 C0 hST hA hK hE nf hf hP hD hS (lv_sub hl [0, 1, 2, 3, 4] rfl)
set_option maxHeartbeats 400000 in
set_option maxRecDepth 100000 in
theorem k_Mo_footer_34 (C0 : Cx p s m meth c args R b_Mo_footer "ZoneFilesModel" 5 (some .boolean) 5 117) (hST : ST A s s.heap) (hA : ∀ q, s.heap.size ≤ q → A q) (hK : va_K (dC, dI) classes (moT cA) s) (hE : ∀ (pc : Nat) (ls : Array Slot) (H : Heap) (locs : List Loc), decode b_Mo_footer pc = .ok (.ireturn, 1) → narrow .boolean (.int r0) = .int r0 → va_P (dC, dI) classes (moW h0 r cA vi vj va vb) H → va_D A (moW h0 r cA vi vj va vb) → va_S A s.heap H locs → W p l e R s m args below meth c H locs 0 0 Q (F0 m pc ls [.int r0])) {x2 : Int32} {x1 : Int32} {si : Nat → Int32} {sj : Nat → Int64} {sa : Nat → Nat → Int32} {sb : Nat → Nat → Int64} (hf : f_Mo_footer_34 nf x2 x1 si sj sa sb = some (r0, vi, vj, va, vb)) {H : Heap} {locs : List Loc} {ls : Array Slot} (hP : va_P (dC, dI) classes (moW h0 r cA si sj sa sb) H) (hD : va_D A (moW h0 r cA si sj sa sb)) (hS : va_S A s.heap H locs) (hl : lv_has ls 5 [(2, .int x2), (1, .int x1), (0, .ref h0)]) : W p l e R s m args below meth c H locs 0 0 Q (F0 m 34 ls []) := by
  obtain ⟨hx, hb, hr, hml, hown, hts, hlocks, hRf, hRl⟩ := id C0
  unfold f_Mo_footer_34 at hf
  refine lv_iload_n hx hb d_Mo_footer_34 rfl (lv_at hl 0 rfl) ?_
  refine lv_aload_n hx hb d_Mo_footer_35 rfl (lv_at hl 2 rfl) ?_
  refine mg_1 (v := si 1) hx hb hts hown hK hP rfl d_Mo_footer_36 ?_
  refine lv_icmp_lt (tgt := 52) hx hb d_Mo_footer_39 (by decide) (fun c_2 => ?_) (fun c_2 => ?_)
  · have hf := it_t c_2 hf
    refine lv_aload_n hx hb d_Mo_footer_52 rfl (lv_at hl 2 rfl) ?_
    refine mg_0 hx hb hts hown hK hP d_Mo_footer_53 ?_
    refine lv_aload_n hx hb d_Mo_footer_56 rfl (lv_at hl 2 rfl) ?_
    refine mg_32 (v := si 32) hx hb hts hown hK hP rfl d_Mo_footer_57 ?_
    obtain ⟨c_3, hf⟩ := it_n hf
    refine ma_0 (v := sa 0 (si 32).toNatClampNeg) hx hb hK hP c_3 rfl d_Mo_footer_60 ?_
    refine lv_bipush (v := 10) hx hb d_Mo_footer_61 (by decide) ?_
    refine lv_icmp_eq (tgt := 77) hx hb d_Mo_footer_63 (by decide) (fun c_4 => ?_) (fun c_4 => ?_)
    · have hf := it_t c_4 hf
      refine lv_aload_n hx hb d_Mo_footer_77 rfl (lv_at hl 2 rfl) ?_
      refine lv_dup hx hb d_Mo_footer_78 rfl ?_
      refine mg_32 (v := si 32) hx hb hts hown hK hP rfl d_Mo_footer_79 ?_
      refine lv_iconst (v := 1) hx hb d_Mo_footer_82 (by decide) ?_
      refine lv_iadd hx hb d_Mo_footer_83 ?_
      refine mp_32 hx hb hts hown hK hP hD hS d_Mo_footer_84 (fun H locs hP hD hS => ?_)
      refine lv_aload_n hx hb d_Mo_footer_87 rfl (lv_at hl 2 rfl) ?_
      refine lv_aload_n hx hb d_Mo_footer_88 rfl (lv_at hl 2 rfl) ?_
      refine mg_32 (v := (si 32) + 1) hx hb hts hown hK hP rfl d_Mo_footer_89 ?_
      refine mp_39 hx hb hts hown hK hP hD hS d_Mo_footer_92 (fun H locs hP hD hS => ?_)
      refine lv_aload_n hx hb d_Mo_footer_95 rfl (lv_at hl 2 rfl) ?_
      refine mg_32 (v := (si 32) + 1) hx hb hts hown hK hP rfl d_Mo_footer_96 ?_
      refine lv_istore_n (lv' := [(3, .int ((si 32) + 1)), (2, .int x2), (1, .int x1), (0, .ref h0)]) hx hb d_Mo_footer_99 rfl hl (by decide) rfl (fun ls hl => ?_)
      refine lv_aload_n hx hb d_Mo_footer_100 rfl (lv_at hl 3 rfl) ?_
      refine mg_23 hx hb hts hown hK hP d_Mo_footer_101 ?_
      refine lv_iload_n hx hb d_Mo_footer_104 rfl (lv_at hl 2 rfl) ?_
      refine lv_iconst (v := 0) hx hb d_Mo_footer_105 (by decide) ?_
      obtain ⟨c_5, hf⟩ := it_n hf
      refine mz_23 hx hb hK hP hD hS c_5 d_Mo_footer_106 (fun H locs hP hD hS => ?_)
      refine lv_iload_n hx hb d_Mo_footer_107 rfl (lv_at hl 1 rfl) ?_
      refine lv_iload_n hx hb d_Mo_footer_108 rfl (lv_at hl 0 rfl) ?_
      refine lv_icmp_le (tgt := 136) hx hb d_Mo_footer_109 (by decide) (fun c_6 => ?_) (fun c_6 => ?_)
      · have hf := it_t c_6 hf
        exact k_Mo_footer_136 C0 hST hA hK hE hf hP hD hS (lv_sub hl [0, 1, 2, 3] rfl)
      · have hf := it_f c_6 hf
        refine lv_aload_n hx hb d_Mo_footer_112 rfl (lv_at hl 3 rfl) ?_
        refine lv_aload_n hx hb d_Mo_footer_113 rfl (lv_at hl 3 rfl) ?_
        refine mg_38 (v := si 38) hx hb hts hown hK hP rfl d_Mo_footer_114 ?_
        refine lv_iload_n hx hb d_Mo_footer_117 rfl (lv_at hl 0 rfl) ?_
        refine lv_iload_n hx hb d_Mo_footer_118 rfl (lv_at hl 1 rfl) ?_
        obtain ⟨⟨z_15, i_11, j_12, a_13, b_14⟩, hc, hf⟩ := ob hf
        have hFc := mo_free hD hS hA
        refine cl_M (v := (some (.int z_15))) (st1 := [.int z_15]) (va_runV (As := [.int (si 38), .int ((si 32) + 1), .int x2]) (rest := []) ⟨hx, hb, hml, hown, hts⟩ (c_Mo_ruleText l dC dI h0 r cA H.size nf (si 38) ((si 32) + 1) x2 (va_up (va_up si 32 ((si 32) + 1)) 39 ((si 32) + 1)) sj (va_up sa 23 (upd (sa 23) x1.toNatClampNeg 0)) sb hc) (cwV 3 hts (gdV m_6_75 m_6_77 msel_47 m_1_10 m_6_78) rfl rfl rfl (by decide +kernel) ⟨Nat.le_trans (Nat.le_of_ble_eq_true rfl) hRf, Nat.le_trans (Nat.le_of_ble_eq_true rfl) hRl⟩) ((MU.pre hP hK hD (hST.mu hS hFc)).vir (va_recv hK hP (ci := 10) (q0 := 0) rfl rfl)) rfl rfl hl.1 rfl (lv_room (Nat.le_of_ble_eq_true rfl)) d_Mo_footer_119 ⟨Nat.zero_le _, Nat.zero_le _⟩) rfl hS (fun q _ h => hFc q h) hFc (fun t H1 locs ht hvm hB hz1 hk1 hS => ?_)
        obtain ⟨hP, hD⟩ := mo_back ht hD hB
        generalize H1 = H at hP hS ⊢
        refine lv_if_ne (tgt := 136) hx hb d_Mo_footer_122 (by decide) (fun c_16 => ?_) (fun c_16 => ?_)
        · have hf := it_f c_16 hf
          exact k_Mo_footer_136 C0 hST hA hK hE hf hP hD hS (lv_sub hl [0, 1, 2, 3] rfl)
        · have hf := it_t c_16 hf
          refine lv_aload_n hx hb d_Mo_footer_125 rfl (lv_at hl 3 rfl) ?_
          refine lv_bipush (v := 15) hx hb d_Mo_footer_126 (by decide) ?_
          refine lv_aload_n hx hb d_Mo_footer_128 rfl (lv_at hl 3 rfl) ?_
          refine mg_35 (v := i_11 35) hx hb hts hown hK hP rfl d_Mo_footer_129 ?_
          obtain ⟨⟨z_21, i_17, j_18, a_19, b_20⟩, hc, hf⟩ := ob hf
          have hFc := mo_free hD hS hA
          refine cl_M (v := (some (.int z_21))) (st1 := [.int z_21]) (va_runV (As := [.int 15, .int (i_11 35)]) (rest := []) ⟨hx, hb, hml, hown, hts⟩ (c_Mo_faulty l dC dI h0 r cA H.size nf 15 (i_11 35) i_11 j_12 a_13 b_14 hc) (cwV 2 hts (gdV m_7_133 m_7_135 msel_60 m_1_10 m_7_136) rfl rfl rfl (by decide +kernel) ⟨Nat.le_trans (Nat.le_of_ble_eq_true rfl) hRf, Nat.le_trans (Nat.le_of_ble_eq_true rfl) hRl⟩) ((MU.pre hP hK hD (hST.mu hS hFc)).vir (va_recv hK hP (ci := 10) (q0 := 0) rfl rfl)) rfl rfl hl.1 rfl (lv_room (Nat.le_of_ble_eq_true rfl)) d_Mo_footer_132 ⟨Nat.zero_le _, Nat.zero_le _⟩) rfl hS (fun q _ h => hFc q h) hFc (fun t H1 locs ht hvm hB hz1 hk1 hS => ?_)
          obtain ⟨hP, hD⟩ := mo_back ht hD hB
          generalize H1 = H at hP hS ⊢
          obtain ⟨c_22, hf⟩ := it_g hf
          cases rs hf
          exact hE _ _ _ _ d_Mo_footer_135 (nb_of c_22) hP hD hS
    · have hf := it_f c_4 hf
      refine lv_aload_n hx hb d_Mo_footer_66 rfl (lv_at hl 2 rfl) ?_
      refine lv_bipush (v := 14) hx hb d_Mo_footer_67 (by decide) ?_
      refine lv_aload_n hx hb d_Mo_footer_69 rfl (lv_at hl 2 rfl) ?_
      refine mg_32 (v := si 32) hx hb hts hown hK hP rfl d_Mo_footer_70 ?_
      obtain ⟨⟨z_27, i_23, j_24, a_25, b_26⟩, hc, hf⟩ := ob hf
      have hFc := mo_free hD hS hA
      refine cl_M (v := (some (.int z_27))) (st1 := [.int z_27]) (va_runV (As := [.int 14, .int (si 32)]) (rest := []) ⟨hx, hb, hml, hown, hts⟩ (c_Mo_faulty l dC dI h0 r cA H.size nf 14 (si 32) si sj sa sb hc) (cwV 2 hts (gdV m_7_133 m_7_135 msel_60 m_1_10 m_7_136) rfl rfl rfl (by decide +kernel) ⟨Nat.le_trans (Nat.le_of_ble_eq_true rfl) hRf, Nat.le_trans (Nat.le_of_ble_eq_true rfl) hRl⟩) ((MU.pre hP hK hD (hST.mu hS hFc)).vir (va_recv hK hP (ci := 10) (q0 := 0) rfl rfl)) rfl rfl hl.1 rfl (lv_room (Nat.le_of_ble_eq_true rfl)) d_Mo_footer_73 ⟨Nat.zero_le _, Nat.zero_le _⟩) rfl hS (fun q _ h => hFc q h) hFc (fun t H1 locs ht hvm hB hz1 hk1 hS => ?_)
      obtain ⟨hP, hD⟩ := mo_back ht hD hB
      generalize H1 = H at hP hS ⊢
      obtain ⟨c_28, hf⟩ := it_g hf
      cases rs hf
      exact hE _ _ _ _ d_Mo_footer_76 (nb_of c_28) hP hD hS
  · have hf := it_f c_2 hf
    refine lv_aload_n hx hb d_Mo_footer_42 rfl (lv_at hl 2 rfl) ?_
    refine lv_iconst (v := 1) hx hb d_Mo_footer_43 (by decide) ?_
    refine lv_aload_n hx hb d_Mo_footer_44 rfl (lv_at hl 2 rfl) ?_
    refine mg_1 (v := si 1) hx hb hts hown hK hP rfl d_Mo_footer_45 ?_
    obtain ⟨⟨z_33, i_29, j_30, a_31, b_32⟩, hc, hf⟩ := ob hf
    have hFc := mo_free hD hS hA
    refine cl_M (v := (some (.int z_33))) (st1 := [.int z_33]) (va_runV (As := [.int 1, .int (si 1)]) (rest := []) ⟨hx, hb, hml, hown, hts⟩ (c_Mo_faulty l dC dI h0 r cA H.size nf 1 (si 1) si sj sa sb hc) (cwV 2 hts (gdV m_7_133 m_7_135 msel_60 m_1_10 m_7_136) rfl rfl rfl (by decide +kernel) ⟨Nat.le_trans (Nat.le_of_ble_eq_true rfl) hRf, Nat.le_trans (Nat.le_of_ble_eq_true rfl) hRl⟩) ((MU.pre hP hK hD (hST.mu hS hFc)).vir (va_recv hK hP (ci := 10) (q0 := 0) rfl rfl)) rfl rfl hl.1 rfl (lv_room (Nat.le_of_ble_eq_true rfl)) d_Mo_footer_48 ⟨Nat.zero_le _, Nat.zero_le _⟩) rfl hS (fun q _ h => hFc q h) hFc (fun t H1 locs ht hvm hB hz1 hk1 hS => ?_)
    obtain ⟨hP, hD⟩ := mo_back ht hD hB
    generalize H1 = H at hP hS ⊢
    obtain ⟨c_34, hf⟩ := it_g hf
    cases rs hf
    exact hE _ _ _ _ d_Mo_footer_51 (nb_of c_34) hP hD hS
set_option maxHeartbeats 400000 in
set_option maxRecDepth 100000 in
theorem k_Mo_footer_9 (C0 : Cx p s m meth c args R b_Mo_footer "ZoneFilesModel" 5 (some .boolean) 5 117) (hST : ST A s s.heap) (hA : ∀ q, s.heap.size ≤ q → A q) (hK : va_K (dC, dI) classes (moT cA) s) (hE : ∀ (pc : Nat) (ls : Array Slot) (H : Heap) (locs : List Loc), decode b_Mo_footer pc = .ok (.ireturn, 1) → narrow .boolean (.int r0) = .int r0 → va_P (dC, dI) classes (moW h0 r cA vi vj va vb) H → va_D A (moW h0 r cA vi vj va vb) → va_S A s.heap H locs → W p l e R s m args below meth c H locs 0 0 Q (F0 m pc ls [.int r0])) : ∀ (n : Nat) {x2 : Int32} {x1 : Int32} {si : Nat → Int32} {sj : Nat → Int64} {sa : Nat → Nat → Int32} {sb : Nat → Nat → Int64}, f_Mo_footer_9 nf n x2 x1 si sj sa sb = some (r0, vi, vj, va, vb) → ∀ {H : Heap} {locs : List Loc} {ls : Array Slot}, va_P (dC, dI) classes (moW h0 r cA si sj sa sb) H → va_D A (moW h0 r cA si sj sa sb) → va_S A s.heap H locs → lv_has ls 5 [(2, .int x2), (1, .int x1), (0, .ref h0)] → W p l e R s m args below meth c H locs 0 0 Q (F0 m 9 ls []) := by
  obtain ⟨hx, hb, hr, hml, hown, hts, hlocks, hRf, hRl⟩ := id C0
  intro n
  induction n with
  | zero =>
    intro x2 x1 si sj sa sb hf
    exact absurd hf (by simp [f_Mo_footer_9])
  | succ n ih =>
    intro x2 x1 si sj sa sb hf H locs ls hP hD hS hl
    unfold f_Mo_footer_9 at hf
    refine lv_iload_n hx hb d_Mo_footer_9 rfl (lv_at hl 0 rfl) ?_
    refine lv_aload_n hx hb d_Mo_footer_10 rfl (lv_at hl 2 rfl) ?_
    refine mg_1 (v := si 1) hx hb hts hown hK hP rfl d_Mo_footer_11 ?_
    refine lv_icmp_ge (tgt := 34) hx hb d_Mo_footer_14 (by decide) (fun c_1 => ?_) (fun c_1 => ?_)
    · have hf := it_t c_1 hf
      exact k_Mo_footer_34 C0 hST hA hK hE hf hP hD hS (lv_sub hl [0, 1, 2] rfl)
    · have hf := it_f c_1 hf
      refine lv_aload_n hx hb d_Mo_footer_17 rfl (lv_at hl 2 rfl) ?_
      refine mg_0 hx hb hts hown hK hP d_Mo_footer_18 ?_
      refine lv_iload_n hx hb d_Mo_footer_21 rfl (lv_at hl 0 rfl) ?_
      obtain ⟨c_35, hf⟩ := it_n hf
      refine ma_0 (v := sa 0 x2.toNatClampNeg) hx hb hK hP c_35 rfl d_Mo_footer_22 ?_
      refine lv_bipush (v := 10) hx hb d_Mo_footer_23 (by decide) ?_
      refine lv_icmp_eq (tgt := 34) hx hb d_Mo_footer_25 (by decide) (fun c_36 => ?_) (fun c_36 => ?_)
      · have hf := it_t c_36 hf
        exact k_Mo_footer_34 C0 hST hA hK hE hf hP hD hS (lv_sub hl [0, 1, 2] rfl)
      · have hf := it_f c_36 hf
        refine lv_iinc (v := x2 + 1) (lv' := [(2, .int (x2 + 1)), (1, .int x1), (0, .ref h0)]) hx hb d_Mo_footer_28 hl (k := 0) rfl rfl (by decide) rfl (fun ls hl => ?_)
        refine lv_goto (tgt := 9) hx hb d_Mo_footer_31 (by decide) ?_
        exact ih hf hP hD hS (lv_sub hl [0, 1, 2] rfl)
set_option maxHeartbeats 400000 in
set_option maxRecDepth 100000 in
theorem k_Mo_footer_0 (C0 : Cx p s m meth c args R b_Mo_footer "ZoneFilesModel" 5 (some .boolean) 5 117) (hST : ST A s s.heap) (hA : ∀ q, s.heap.size ≤ q → A q) (hK : va_K (dC, dI) classes (moT cA) s) (hE : ∀ (pc : Nat) (ls : Array Slot) (H : Heap) (locs : List Loc), decode b_Mo_footer pc = .ok (.ireturn, 1) → narrow .boolean (.int r0) = .int r0 → va_P (dC, dI) classes (moW h0 r cA vi vj va vb) H → va_D A (moW h0 r cA vi vj va vb) → va_S A s.heap H locs → W p l e R s m args below meth c H locs 0 0 Q (F0 m pc ls [.int r0])) {si : Nat → Int32} {sj : Nat → Int64} {sa : Nat → Nat → Int32} {sb : Nat → Nat → Int64} (hf : f_Mo_footer_0 nf si sj sa sb = some (r0, vi, vj, va, vb)) {H : Heap} {locs : List Loc} {ls : Array Slot} (hP : va_P (dC, dI) classes (moW h0 r cA si sj sa sb) H) (hD : va_D A (moW h0 r cA si sj sa sb)) (hS : va_S A s.heap H locs) (hl : lv_has ls 5 [(0, .ref h0)]) : W p l e R s m args below meth c H locs 0 0 Q (F0 m 0 ls []) := by
  obtain ⟨hx, hb, hr, hml, hown, hts, hlocks, hRf, hRl⟩ := id C0
  unfold f_Mo_footer_0 at hf
  refine lv_iconst (v := 4) hx hb d_Mo_footer_0 (by decide) ?_
  refine lv_istore_n (lv' := [(1, .int 4), (0, .ref h0)]) hx hb d_Mo_footer_1 rfl hl (by decide) rfl (fun ls hl => ?_)
  refine lv_aload_n hx hb d_Mo_footer_2 rfl (lv_at hl 1 rfl) ?_
  refine mg_32 (v := si 32) hx hb hts hown hK hP rfl d_Mo_footer_3 ?_
  refine lv_iconst (v := 1) hx hb d_Mo_footer_6 (by decide) ?_
  refine lv_iadd hx hb d_Mo_footer_7 ?_
  refine lv_istore_n (lv' := [(2, .int ((si 32) + 1)), (1, .int 4), (0, .ref h0)]) hx hb d_Mo_footer_8 rfl hl (by decide) rfl (fun ls hl => ?_)
  exact k_Mo_footer_9 C0 hST hA hK hE nf hf hP hD hS (lv_sub hl [0, 1, 2] rfl)
end
set_option maxHeartbeats 400000 in
set_option maxRecDepth 100000 in
theorem c_Mo_footer (l : Launch) (dC : Nat → ClassId) (dI : Nat → Nat → Nat) (h0 : Nat) (r : Nat → Nat) (cA : Nat → ClassId) (sz : Nat) (nf : Nat) (si : Nat → Int32) (sj : Nat → Int64) (sa : Nat → Nat → Int32) (sb : Nat → Nat → Int64) {r0 : Int32} {vi : Nat → Int32} {vj : Nat → Int64} {va : Nat → Nat → Int32} {vb : Nat → Nat → Int64} (hf : f_Mo_footer nf si sj sa sb = some (r0, vi, vj, va, vb)) : Met l y_Mo_footer (wd y_Mo_footer b_Mo_footer 5 (some .boolean)) ({ frames := 5, cells := 0, slots := 0, locals := 117 }) (MU dC dI (moW h0 r cA si sj sa sb) (moT cA) sz [.ref h0]) (MV (some (.int r0)) (fun t => va_P (dC, dI) classes (moW h0 r cA vi vj va vb) t.heap) (va_A (moW h0 r cA si sj sa sb) sz)) 0 0 (va_A (moW h0 r cA si sj sa sb) sz) :=
  met_M (plainFor_of_name (by decide)) (Nat.le_of_ble_eq_true rfl) (fun p e R s m args below meth c ls hRc hRs hsz hin C0 hST hK hP hD hl => by
    obtain ⟨hx, hb, hr, hml, hown, hts, hlocks, hRf, hRl⟩ := id C0
    subst hsz
    have hA : ∀ q : Nat, s.heap.size ≤ q → va_A (moW h0 r cA si sj sa sb) s.heap.size q := fun q h => Or.inr h
    have hS : va_S (va_A (moW h0 r cA si sj sa sb) s.heap.size) s.heap s.heap [] := va_S.rf
    unfold f_Mo_footer at hf
    exact k_Mo_footer_0 C0 hST hA hK (fun pc ls H locs hd hn hP hD hS => W.zret hx hb hr hn (fun t ht hW => ⟨⟨rfl, mo_end ht hP⟩, hS.F ht⟩) hS.2.2 hd) hf hP hD hS (lv_sub hl [0] rfl))
-- ZoneFilesModel.file()Z
def f_Mo_file_147 (nf : Nat) (si : Nat → Int32) (sj : Nat → Int64) (sa : Nat → Nat → Int32) (sb : Nat → Nat → Int64) : Option (Int32 × (Nat → Int32) × (Nat → Int64) × (Nat → Nat → Int32) × (Nat → Nat → Int64)) :=
  some (0, si, sj, sa, sb)
def f_Mo_file_188 (nf : Nat) (s0 : Int32) (si : Nat → Int32) (sj : Nat → Int64) (sa : Nat → Nat → Int32) (sb : Nat → Nat → Int64) : Option (Int32 × (Nat → Int32) × (Nat → Int64) × (Nat → Nat → Int32) × (Nat → Nat → Int64)) :=
  if s0 = 0 ∨ s0 = 1 then some (s0, si, sj, sa, sb) else none
def f_Mo_file_183 (nf : Nat) (si : Nat → Int32) (sj : Nat → Int64) (sa : Nat → Nat → Int32) (sb : Nat → Nat → Int64) : Option (Int32 × (Nat → Int32) × (Nat → Int64) × (Nat → Nat → Int32) × (Nat → Nat → Int64)) :=
  f_Mo_file_188 nf 1 si sj sa sb
def f_Mo_file_149 (nf : Nat) (x1 : Int32) (si : Nat → Int32) (sj : Nat → Int64) (sa : Nat → Nat → Int32) (sb : Nat → Nat → Int64) : Option (Int32 × (Nat → Int32) × (Nat → Int64) × (Nat → Nat → Int32) × (Nat → Nat → Int64)) :=
  if x1 < 0 ∨ 5 ≤ x1.toNatClampNeg then none else
  if (si 32) = (si 1) then
  f_Mo_file_183 nf si sj (va_up sa 4 (upd (sa 4) x1.toNatClampNeg (si 38))) sb
  else
  (f_Mo_faulty nf 16 (si 32) si sj (va_up sa 4 (upd (sa 4) x1.toNatClampNeg (si 38))) sb).bind fun (z_45, i_41, j_42, a_43, b_44) =>
    if z_45 = 0 then
    f_Mo_file_188 nf 0 i_41 j_42 a_43 b_44
    else
    f_Mo_file_183 nf i_41 j_42 a_43 b_44
def f_Mo_file_0 (nf : Nat) (si : Nat → Int32) (sj : Nat → Int64) (sa : Nat → Nat → Int32) (sb : Nat → Nat → Int64) : Option (Int32 × (Nat → Int32) × (Nat → Int64) × (Nat → Nat → Int32) × (Nat → Nat → Int64)) :=
  (f_Mo_header nf 0 (va_up si 32 0) sj sa sb).bind fun (z_5, i_1, j_2, a_3, b_4) =>
  if z_5 = 0 then
  some (0, i_1, j_2, a_3, b_4)
  else
  if (i_1 38) = 0 then
    if (4 : Int32) < 0 ∨ 5 ≤ (4 : Int32).toNatClampNeg then none else
      if (4 : Int32) < 0 ∨ 5 ≤ (4 : Int32).toNatClampNeg then none else
      (f_Mo_block nf 4 i_1 j_2 (va_up (va_up a_3 23 (upd (a_3 23) (4 : Int32).toNatClampNeg 0)) 11 (upd (a_3 11) (4 : Int32).toNatClampNeg 0)) b_4).bind fun (z_53, i_49, j_50, a_51, b_52) =>
      if z_53 = 0 then
      some (0, i_49, j_50, a_51, b_52)
      else
      f_Mo_file_149 nf 4 i_49 j_50 a_51 b_52
    else
    if (3 : Int32) < 0 ∨ 6 ≤ (3 : Int32).toNatClampNeg then none else
      if (4 : Int32) < 0 ∨ 6 ≤ (4 : Int32).toNatClampNeg then none else
      if (5 : Int32) < 0 ∨ 6 ≤ (5 : Int32).toNatClampNeg then none else
      if (2 : Int32) < 0 ∨ 6 ≤ (2 : Int32).toNatClampNeg then none else
      if (1 : Int32) < 0 ∨ 6 ≤ (1 : Int32).toNatClampNeg then none else
      if (0 : Int32) < 0 ∨ 6 ≤ (0 : Int32).toNatClampNeg then none else
      (f_Mo_needs nf ((((((5 * (b_4 37 (3 : Int32).toNatClampNeg)) + (6 * (b_4 37 (4 : Int32).toNatClampNeg))) + (b_4 37 (5 : Int32).toNatClampNeg)) + (8 * (b_4 37 (2 : Int32).toNatClampNeg))) + (b_4 37 (1 : Int32).toNatClampNeg)) + (b_4 37 (0 : Int32).toNatClampNeg)) i_1 j_2 a_3 b_4).bind fun (z_18, i_14, j_15, a_16, b_17) =>
      if z_18 = 0 then
      some (0, i_14, j_15, a_16, b_17)
      else
      (f_Mo_header nf 1 (va_up i_14 32 ((i_14 32) + (((((((5 * (b_4 37 (3 : Int32).toNatClampNeg)) + (6 * (b_4 37 (4 : Int32).toNatClampNeg))) + (b_4 37 (5 : Int32).toNatClampNeg)) + (8 * (b_4 37 (2 : Int32).toNatClampNeg))) + (b_4 37 (1 : Int32).toNatClampNeg)) + (b_4 37 (0 : Int32).toNatClampNeg)).toInt32))) j_15 a_16 b_17).bind fun (z_24, i_20, j_21, a_22, b_23) =>
        if z_24 = 0 then
        f_Mo_file_147 nf i_20 j_21 a_22 b_23
        else
        (f_Mo_block nf 8 i_20 j_21 a_22 b_23).bind fun (z_30, i_26, j_27, a_28, b_29) =>
          if z_30 = 0 then
          f_Mo_file_147 nf i_26 j_27 a_28 b_29
          else
          (f_Mo_footer nf i_26 j_27 a_28 b_29).bind fun (z_36, i_32, j_33, a_34, b_35) =>
            if z_36 = 0 then
            f_Mo_file_147 nf i_32 j_33 a_34 b_35
            else
            f_Mo_file_149 nf 4 i_32 j_33 a_34 b_35
def f_Mo_file (nf : Nat) (si : Nat → Int32) (sj : Nat → Int64) (sa : Nat → Nat → Int32) (sb : Nat → Nat → Int64) : Option (Int32 × (Nat → Int32) × (Nat → Int64) × (Nat → Nat → Int32) × (Nat → Nat → Int64)) :=
  f_Mo_file_0 nf si sj sa sb
section
variable {p : Program} {l : Launch} {e : Env} {R : Room} {s : State} {m : MethodId} {args : Array Value} {below : List Frame} {meth : Method} {c : Code} {Q : State → Prop} {dC : Nat → ClassId} {dI : Nat → Nat → Nat} {nf : Nat} {A : Nat → Prop} {h0 : Nat} {r : Nat → Nat} {cA : Nat → ClassId}
variable {r0 : Int32} {vi : Nat → Int32} {vj : Nat → Int64} {va : Nat → Nat → Int32} {vb : Nat → Nat → Int64}
set_option maxHeartbeats 400000 in
set_option maxRecDepth 100000 in
theorem k_Mo_file_147 (C0 : Cx p s m meth c args R b_Mo_file "ZoneFilesModel" 4 (some .boolean) 6 141) (hST : ST A s s.heap) (hA : ∀ q, s.heap.size ≤ q → A q) (hK : va_K (dC, dI) classes (moT cA) s) (hE : ∀ (pc : Nat) (ls : Array Slot) (H : Heap) (locs : List Loc), decode b_Mo_file pc = .ok (.ireturn, 1) → narrow .boolean (.int r0) = .int r0 → va_P (dC, dI) classes (moW h0 r cA vi vj va vb) H → va_D A (moW h0 r cA vi vj va vb) → va_S A s.heap H locs → W p l e R s m args below meth c H locs 0 0 Q (F0 m pc ls [.int r0])) {si : Nat → Int32} {sj : Nat → Int64} {sa : Nat → Nat → Int32} {sb : Nat → Nat → Int64} (hf : f_Mo_file_147 nf si sj sa sb = some (r0, vi, vj, va, vb)) {H : Heap} {locs : List Loc} {ls : Array Slot} (hP : va_P (dC, dI) classes (moW h0 r cA si sj sa sb) H) (hD : va_D A (moW h0 r cA si sj sa sb)) (hS : va_S A s.heap H locs) (hl : lv_has ls 4 []) : W p l e R s m args below meth c H locs 0 0 Q (F0 m 147 ls []) := by
  obtain ⟨hx, hb, hr, hml, hown, hts, hlocks, hRf, hRl⟩ := id C0
  unfold f_Mo_file_147 at hf
  refine lv_iconst (v := 0) hx hb d_Mo_file_147 (by decide) ?_
  cases rs hf
  exact hE _ _ _ _ d_Mo_file_148 rfl hP hD hS
set_option maxHeartbeats 400000 in
set_option maxRecDepth 100000 in
theorem k_Mo_file_188 (C0 : Cx p s m meth c args R b_Mo_file "ZoneFilesModel" 4 (some .boolean) 6 141) (hST : ST A s s.heap) (hA : ∀ q, s.heap.size ≤ q → A q) (hK : va_K (dC, dI) classes (moT cA) s) (hE : ∀ (pc : Nat) (ls : Array Slot) (H : Heap) (locs : List Loc), decode b_Mo_file pc = .ok (.ireturn, 1) → narrow .boolean (.int r0) = .int r0 → va_P (dC, dI) classes (moW h0 r cA vi vj va vb) H → va_D A (moW h0 r cA vi vj va vb) → va_S A s.heap H locs → W p l e R s m args below meth c H locs 0 0 Q (F0 m pc ls [.int r0])) {s0 : Int32} {si : Nat → Int32} {sj : Nat → Int64} {sa : Nat → Nat → Int32} {sb : Nat → Nat → Int64} (hf : f_Mo_file_188 nf s0 si sj sa sb = some (r0, vi, vj, va, vb)) {H : Heap} {locs : List Loc} {ls : Array Slot} (hP : va_P (dC, dI) classes (moW h0 r cA si sj sa sb) H) (hD : va_D A (moW h0 r cA si sj sa sb)) (hS : va_S A s.heap H locs) (hl : lv_has ls 4 []) : W p l e R s m args below meth c H locs 0 0 Q (F0 m 188 ls [.int s0]) := by
  obtain ⟨hx, hb, hr, hml, hown, hts, hlocks, hRf, hRl⟩ := id C0
  unfold f_Mo_file_188 at hf
  obtain ⟨c_40, hf⟩ := it_g hf
  cases rs hf
  exact hE _ _ _ _ d_Mo_file_188 (nb_of c_40) hP hD hS
set_option maxHeartbeats 400000 in
set_option maxRecDepth 100000 in
theorem k_Mo_file_183 (C0 : Cx p s m meth c args R b_Mo_file "ZoneFilesModel" 4 (some .boolean) 6 141) (hST : ST A s s.heap) (hA : ∀ q, s.heap.size ≤ q → A q) (hK : va_K (dC, dI) classes (moT cA) s) (hE : ∀ (pc : Nat) (ls : Array Slot) (H : Heap) (locs : List Loc), decode b_Mo_file pc = .ok (.ireturn, 1) → narrow .boolean (.int r0) = .int r0 → va_P (dC, dI) classes (moW h0 r cA vi vj va vb) H → va_D A (moW h0 r cA vi vj va vb) → va_S A s.heap H locs → W p l e R s m args below meth c H locs 0 0 Q (F0 m pc ls [.int r0])) {si : Nat → Int32} {sj : Nat → Int64} {sa : Nat → Nat → Int32} {sb : Nat → Nat → Int64} (hf : f_Mo_file_183 nf si sj sa sb = some (r0, vi, vj, va, vb)) {H : Heap} {locs : List Loc} {ls : Array Slot} (hP : va_P (dC, dI) classes (moW h0 r cA si sj sa sb) H) (hD : va_D A (moW h0 r cA si sj sa sb)) (hS : va_S A s.heap H locs) (hl : lv_has ls 4 []) : W p l e R s m args below meth c H locs 0 0 Q (F0 m 183 ls []) := by
  obtain ⟨hx, hb, hr, hml, hown, hts, hlocks, hRf, hRl⟩ := id C0
  unfold f_Mo_file_183 at hf
  refine lv_iconst (v := 1) hx hb d_Mo_file_183 (by decide) ?_
  refine lv_goto (tgt := 188) hx hb d_Mo_file_184 (by decide) ?_
  exact k_Mo_file_188 C0 hST hA hK hE hf hP hD hS (lv_sub hl [] rfl)
set_option maxHeartbeats 400000 in
set_option maxRecDepth 100000 in
theorem k_Mo_file_149 (C0 : Cx p s m meth c args R b_Mo_file "ZoneFilesModel" 4 (some .boolean) 6 141) (hST : ST A s s.heap) (hA : ∀ q, s.heap.size ≤ q → A q) (hK : va_K (dC, dI) classes (moT cA) s) (hE : ∀ (pc : Nat) (ls : Array Slot) (H : Heap) (locs : List Loc), decode b_Mo_file pc = .ok (.ireturn, 1) → narrow .boolean (.int r0) = .int r0 → va_P (dC, dI) classes (moW h0 r cA vi vj va vb) H → va_D A (moW h0 r cA vi vj va vb) → va_S A s.heap H locs → W p l e R s m args below meth c H locs 0 0 Q (F0 m pc ls [.int r0])) {x1 : Int32} {si : Nat → Int32} {sj : Nat → Int64} {sa : Nat → Nat → Int32} {sb : Nat → Nat → Int64} (hf : f_Mo_file_149 nf x1 si sj sa sb = some (r0, vi, vj, va, vb)) {H : Heap} {locs : List Loc} {ls : Array Slot} (hP : va_P (dC, dI) classes (moW h0 r cA si sj sa sb) H) (hD : va_D A (moW h0 r cA si sj sa sb)) (hS : va_S A s.heap H locs) (hl : lv_has ls 4 [(1, .int x1), (0, .ref h0)]) : W p l e R s m args below meth c H locs 0 0 Q (F0 m 149 ls []) := by
  obtain ⟨hx, hb, hr, hml, hown, hts, hlocks, hRf, hRl⟩ := id C0
  unfold f_Mo_file_149 at hf
  refine lv_aload_n hx hb d_Mo_file_149 rfl (lv_at hl 1 rfl) ?_
  refine mg_4 hx hb hts hown hK hP d_Mo_file_150 ?_
  refine lv_iload_n hx hb d_Mo_file_153 rfl (lv_at hl 0 rfl) ?_
  refine lv_aload_n hx hb d_Mo_file_154 rfl (lv_at hl 1 rfl) ?_
  refine mg_38 (v := si 38) hx hb hts hown hK hP rfl d_Mo_file_155 ?_
  obtain ⟨c_38, hf⟩ := it_n hf
  refine mz_4 hx hb hK hP hD hS c_38 d_Mo_file_158 (fun H locs hP hD hS => ?_)
  refine lv_aload_n hx hb d_Mo_file_159 rfl (lv_at hl 1 rfl) ?_
  refine mg_32 (v := si 32) hx hb hts hown hK hP rfl d_Mo_file_160 ?_
  refine lv_aload_n hx hb d_Mo_file_163 rfl (lv_at hl 1 rfl) ?_
  refine mg_1 (v := si 1) hx hb hts hown hK hP rfl d_Mo_file_164 ?_
  refine lv_icmp_eq (tgt := 183) hx hb d_Mo_file_167 (by decide) (fun c_39 => ?_) (fun c_39 => ?_)
  · have hf := it_t c_39 hf
    exact k_Mo_file_183 C0 hST hA hK hE hf hP hD hS (lv_sub hl [] rfl)
  · have hf := it_f c_39 hf
    refine lv_aload_n hx hb d_Mo_file_170 rfl (lv_at hl 1 rfl) ?_
    refine lv_bipush (v := 16) hx hb d_Mo_file_171 (by decide) ?_
    refine lv_aload_n hx hb d_Mo_file_173 rfl (lv_at hl 1 rfl) ?_
    refine mg_32 (v := si 32) hx hb hts hown hK hP rfl d_Mo_file_174 ?_
    obtain ⟨⟨z_45, i_41, j_42, a_43, b_44⟩, hc, hf⟩ := ob hf
    have hFc := mo_free hD hS hA
    refine cl_M (v := (some (.int z_45))) (st1 := [.int z_45]) (va_runV (As := [.int 16, .int (si 32)]) (rest := []) ⟨hx, hb, hml, hown, hts⟩ (c_Mo_faulty l dC dI h0 r cA H.size nf 16 (si 32) si sj (va_up sa 4 (upd (sa 4) x1.toNatClampNeg (si 38))) sb hc) (cwV 2 hts (gdV m_7_133 m_7_135 msel_60 m_1_10 m_7_136) rfl rfl rfl (by decide +kernel) ⟨Nat.le_trans (Nat.le_of_ble_eq_true rfl) hRf, Nat.le_trans (Nat.le_of_ble_eq_true rfl) hRl⟩) ((MU.pre hP hK hD (hST.mu hS hFc)).vir (va_recv hK hP (ci := 10) (q0 := 0) rfl rfl)) rfl rfl hl.1 rfl (lv_room (Nat.le_of_ble_eq_true rfl)) d_Mo_file_177 ⟨Nat.zero_le _, Nat.zero_le _⟩) rfl hS (fun q _ h => hFc q h) hFc (fun t H1 locs ht hvm hB hz1 hk1 hS => ?_)
    obtain ⟨hP, hD⟩ := mo_back ht hD hB
    generalize H1 = H at hP hS ⊢
    refine lv_if_eq (tgt := 187) hx hb d_Mo_file_180 (by decide) (fun c_46 => ?_) (fun c_46 => ?_)
    · have hf := it_t c_46 hf
      refine lv_iconst (v := 0) hx hb d_Mo_file_187 (by decide) ?_
      exact k_Mo_file_188 C0 hST hA hK hE hf hP hD hS (lv_sub hl [] rfl)
    · have hf := it_f c_46 hf
      exact k_Mo_file_183 C0 hST hA hK hE hf hP hD hS (lv_sub hl [] rfl)
set_option maxHeartbeats 400000 in
set_option maxRecDepth 100000 in
theorem k_Mo_file_0 (C0 : Cx p s m meth c args R b_Mo_file "ZoneFilesModel" 4 (some .boolean) 6 141) (hST : ST A s s.heap) (hA : ∀ q, s.heap.size ≤ q → A q) (hK : va_K (dC, dI) classes (moT cA) s) (hE : ∀ (pc : Nat) (ls : Array Slot) (H : Heap) (locs : List Loc), decode b_Mo_file pc = .ok (.ireturn, 1) → narrow .boolean (.int r0) = .int r0 → va_P (dC, dI) classes (moW h0 r cA vi vj va vb) H → va_D A (moW h0 r cA vi vj va vb) → va_S A s.heap H locs → W p l e R s m args below meth c H locs 0 0 Q (F0 m pc ls [.int r0])) {si : Nat → Int32} {sj : Nat → Int64} {sa : Nat → Nat → Int32} {sb : Nat → Nat → Int64} (hf : f_Mo_file_0 nf si sj sa sb = some (r0, vi, vj, va, vb)) {H : Heap} {locs : List Loc} {ls : Array Slot} (hP : va_P (dC, dI) classes (moW h0 r cA si sj sa sb) H) (hD : va_D A (moW h0 r cA si sj sa sb)) (hS : va_S A s.heap H locs) (hl : lv_has ls 4 [(0, .ref h0)]) : W p l e R s m args below meth c H locs 0 0 Q (F0 m 0 ls []) := by
  obtain ⟨hx, hb, hr, hml, hown, hts, hlocks, hRf, hRl⟩ := id C0
  unfold f_Mo_file_0 at hf
  refine lv_iconst (v := 4) hx hb d_Mo_file_0 (by decide) ?_
  refine lv_istore_n (lv' := [(1, .int 4), (0, .ref h0)]) hx hb d_Mo_file_1 rfl hl (by decide) rfl (fun ls hl => ?_)
  refine lv_aload_n hx hb d_Mo_file_2 rfl (lv_at hl 1 rfl) ?_
  refine lv_iconst (v := 0) hx hb d_Mo_file_3 (by decide) ?_
  refine mp_32 hx hb hts hown hK hP hD hS d_Mo_file_4 (fun H locs hP hD hS => ?_)
  refine lv_aload_n hx hb d_Mo_file_7 rfl (lv_at hl 1 rfl) ?_
  refine lv_iconst (v := 0) hx hb d_Mo_file_8 (by decide) ?_
  obtain ⟨⟨z_5, i_1, j_2, a_3, b_4⟩, hc, hf⟩ := ob hf
  have hFc := mo_free hD hS hA
  refine cl_M (v := (some (.int z_5))) (st1 := [.int z_5]) (va_runV (As := [.int 0]) (rest := []) ⟨hx, hb, hml, hown, hts⟩ (c_Mo_header l dC dI h0 r cA H.size nf 0 (va_up si 32 0) sj sa sb hc) (cwV 1 hts (gdV m_7_126 m_7_128 msel_59 m_1_10 m_7_129) rfl rfl rfl (by decide +kernel) ⟨Nat.le_trans (Nat.le_of_ble_eq_true rfl) hRf, Nat.le_trans (Nat.le_of_ble_eq_true rfl) hRl⟩) ((MU.pre hP hK hD (hST.mu hS hFc)).vir (va_recv hK hP (ci := 10) (q0 := 0) rfl rfl)) rfl rfl hl.1 rfl (lv_room (Nat.le_of_ble_eq_true rfl)) d_Mo_file_9 ⟨Nat.zero_le _, Nat.zero_le _⟩) rfl hS (fun q _ h => hFc q h) hFc (fun t H1 locs ht hvm hB hz1 hk1 hS => ?_)
  obtain ⟨hP, hD⟩ := mo_back ht hD hB
  generalize H1 = H at hP hS ⊢
  refine lv_if_ne (tgt := 17) hx hb d_Mo_file_12 (by decide) (fun c_6 => ?_) (fun c_6 => ?_)
  · have hf := it_f c_6 hf
    refine lv_aload_n hx hb d_Mo_file_17 rfl (lv_at hl 1 rfl) ?_
    refine mg_38 (v := i_1 38) hx hb hts hown hK hP rfl d_Mo_file_18 ?_
    refine lv_if_ne (tgt := 48) hx hb d_Mo_file_21 (by decide) (fun c_7 => ?_) (fun c_7 => ?_)
    · have hf := it_f c_7 hf
      refine lv_ldc2 (v := 5) hx hb hown (hts (.constantLong "ZoneFilesModel" 279 5) m_7_190) d_Mo_file_48 ?_
      refine lv_aload_n hx hb d_Mo_file_51 rfl (lv_at hl 1 rfl) ?_
      refine mg_37 hx hb hts hown hK hP d_Mo_file_52 ?_
      refine lv_iconst (v := 3) hx hb d_Mo_file_55 (by decide) ?_
      obtain ⟨c_8, hf⟩ := it_n hf
      refine ma_37 (v := b_4 37 (3 : Int32).toNatClampNeg) hx hb hK hP c_8 rfl d_Mo_file_56 ?_
      refine lv_lmul hx hb d_Mo_file_57 ?_
      refine lv_ldc2 (v := 6) hx hb hown (hts (.constantLong "ZoneFilesModel" 254 6) m_7_168) d_Mo_file_58 ?_
      refine lv_aload_n hx hb d_Mo_file_61 rfl (lv_at hl 1 rfl) ?_
      refine mg_37 hx hb hts hown hK hP d_Mo_file_62 ?_
      refine lv_iconst (v := 4) hx hb d_Mo_file_65 (by decide) ?_
      obtain ⟨c_9, hf⟩ := it_n hf
      refine ma_37 (v := b_4 37 (4 : Int32).toNatClampNeg) hx hb hK hP c_9 rfl d_Mo_file_66 ?_
      refine lv_lmul hx hb d_Mo_file_67 ?_
      refine lv_ladd hx hb d_Mo_file_68 ?_
      refine lv_aload_n hx hb d_Mo_file_69 rfl (lv_at hl 1 rfl) ?_
      refine mg_37 hx hb hts hown hK hP d_Mo_file_70 ?_
      refine lv_iconst (v := 5) hx hb d_Mo_file_73 (by decide) ?_
      obtain ⟨c_10, hf⟩ := it_n hf
      refine ma_37 (v := b_4 37 (5 : Int32).toNatClampNeg) hx hb hK hP c_10 rfl d_Mo_file_74 ?_
      refine lv_ladd hx hb d_Mo_file_75 ?_
      refine lv_ldc2 (v := 8) hx hb hown (hts (.constantLong "ZoneFilesModel" 281 8) m_7_191) d_Mo_file_76 ?_
      refine lv_aload_n hx hb d_Mo_file_79 rfl (lv_at hl 1 rfl) ?_
      refine mg_37 hx hb hts hown hK hP d_Mo_file_80 ?_
      refine lv_iconst (v := 2) hx hb d_Mo_file_83 (by decide) ?_
      obtain ⟨c_11, hf⟩ := it_n hf
      refine ma_37 (v := b_4 37 (2 : Int32).toNatClampNeg) hx hb hK hP c_11 rfl d_Mo_file_84 ?_
      refine lv_lmul hx hb d_Mo_file_85 ?_
      refine lv_ladd hx hb d_Mo_file_86 ?_
      refine lv_aload_n hx hb d_Mo_file_87 rfl (lv_at hl 1 rfl) ?_
      refine mg_37 hx hb hts hown hK hP d_Mo_file_88 ?_
      refine lv_iconst (v := 1) hx hb d_Mo_file_91 (by decide) ?_
      obtain ⟨c_12, hf⟩ := it_n hf
      refine ma_37 (v := b_4 37 (1 : Int32).toNatClampNeg) hx hb hK hP c_12 rfl d_Mo_file_92 ?_
      refine lv_ladd hx hb d_Mo_file_93 ?_
      refine lv_aload_n hx hb d_Mo_file_94 rfl (lv_at hl 1 rfl) ?_
      refine mg_37 hx hb hts hown hK hP d_Mo_file_95 ?_
      refine lv_iconst (v := 0) hx hb d_Mo_file_98 (by decide) ?_
      obtain ⟨c_13, hf⟩ := it_n hf
      refine ma_37 (v := b_4 37 (0 : Int32).toNatClampNeg) hx hb hK hP c_13 rfl d_Mo_file_99 ?_
      refine lv_ladd hx hb d_Mo_file_100 ?_
      refine lv_lstore_n (lv' := [(2, .long ((((((5 * (b_4 37 (3 : Int32).toNatClampNeg)) + (6 * (b_4 37 (4 : Int32).toNatClampNeg))) + (b_4 37 (5 : Int32).toNatClampNeg)) + (8 * (b_4 37 (2 : Int32).toNatClampNeg))) + (b_4 37 (1 : Int32).toNatClampNeg)) + (b_4 37 (0 : Int32).toNatClampNeg))), (1, .int 4), (0, .ref h0)]) hx hb d_Mo_file_101 rfl hl (by decide) rfl (fun ls hl => ?_)
      refine lv_aload_n hx hb d_Mo_file_102 rfl (lv_at hl 2 rfl) ?_
      refine lv_lload_n hx hb d_Mo_file_103 rfl (lv_at hl 0 rfl) ?_
      obtain ⟨⟨z_18, i_14, j_15, a_16, b_17⟩, hc, hf⟩ := ob hf
      have hFc := mo_free hD hS hA
      refine cl_M (v := (some (.int z_18))) (st1 := [.int z_18]) (va_runV (As := [.long ((((((5 * (b_4 37 (3 : Int32).toNatClampNeg)) + (6 * (b_4 37 (4 : Int32).toNatClampNeg))) + (b_4 37 (5 : Int32).toNatClampNeg)) + (8 * (b_4 37 (2 : Int32).toNatClampNeg))) + (b_4 37 (1 : Int32).toNatClampNeg)) + (b_4 37 (0 : Int32).toNatClampNeg))]) (rest := []) ⟨hx, hb, hml, hown, hts⟩ (c_Mo_needs l dC dI h0 r cA H.size nf ((((((5 * (b_4 37 (3 : Int32).toNatClampNeg)) + (6 * (b_4 37 (4 : Int32).toNatClampNeg))) + (b_4 37 (5 : Int32).toNatClampNeg)) + (8 * (b_4 37 (2 : Int32).toNatClampNeg))) + (b_4 37 (1 : Int32).toNatClampNeg)) + (b_4 37 (0 : Int32).toNatClampNeg)) i_1 j_2 a_3 b_4 hc) (cwV 1 hts (gdV m_7_151 m_7_153 msel_64 m_1_10 m_7_154) rfl rfl rfl (by decide +kernel) ⟨Nat.le_trans (Nat.le_of_ble_eq_true rfl) hRf, Nat.le_trans (Nat.le_of_ble_eq_true rfl) hRl⟩) ((MU.pre hP hK hD (hST.mu hS hFc)).vir (va_recv hK hP (ci := 10) (q0 := 0) rfl rfl)) rfl rfl hl.1 rfl (lv_room (Nat.le_of_ble_eq_true rfl)) d_Mo_file_104 ⟨Nat.zero_le _, Nat.zero_le _⟩) rfl hS (fun q _ h => hFc q h) hFc (fun t H1 locs ht hvm hB hz1 hk1 hS => ?_)
      obtain ⟨hP, hD⟩ := mo_back ht hD hB
      generalize H1 = H at hP hS ⊢
      refine lv_if_ne (tgt := 112) hx hb d_Mo_file_107 (by decide) (fun c_19 => ?_) (fun c_19 => ?_)
      · have hf := it_f c_19 hf
        refine lv_aload_n hx hb d_Mo_file_112 rfl (lv_at hl 2 rfl) ?_
        refine lv_dup hx hb d_Mo_file_113 rfl ?_
        refine mg_32 (v := i_14 32) hx hb hts hown hK hP rfl d_Mo_file_114 ?_
        refine lv_lload_n hx hb d_Mo_file_117 rfl (lv_at hl 0 rfl) ?_
        refine lv_l2i hx hb d_Mo_file_118 rfl ?_
        refine lv_iadd hx hb d_Mo_file_119 ?_
        refine mp_32 hx hb hts hown hK hP hD hS d_Mo_file_120 (fun H locs hP hD hS => ?_)
        refine lv_aload_n hx hb d_Mo_file_123 rfl (lv_at hl 2 rfl) ?_
        refine lv_iconst (v := 1) hx hb d_Mo_file_124 (by decide) ?_
        obtain ⟨⟨z_24, i_20, j_21, a_22, b_23⟩, hc, hf⟩ := ob hf
        have hFc := mo_free hD hS hA
        refine cl_M (v := (some (.int z_24))) (st1 := [.int z_24]) (va_runV (As := [.int 1]) (rest := []) ⟨hx, hb, hml, hown, hts⟩ (c_Mo_header l dC dI h0 r cA H.size nf 1 (va_up i_14 32 ((i_14 32) + (((((((5 * (b_4 37 (3 : Int32).toNatClampNeg)) + (6 * (b_4 37 (4 : Int32).toNatClampNeg))) + (b_4 37 (5 : Int32).toNatClampNeg)) + (8 * (b_4 37 (2 : Int32).toNatClampNeg))) + (b_4 37 (1 : Int32).toNatClampNeg)) + (b_4 37 (0 : Int32).toNatClampNeg)).toInt32))) j_15 a_16 b_17 hc) (cwV 1 hts (gdV m_7_126 m_7_128 msel_59 m_1_10 m_7_129) rfl rfl rfl (by decide +kernel) ⟨Nat.le_trans (Nat.le_of_ble_eq_true rfl) hRf, Nat.le_trans (Nat.le_of_ble_eq_true rfl) hRl⟩) ((MU.pre hP hK hD (hST.mu hS hFc)).vir (va_recv hK hP (ci := 10) (q0 := 0) rfl rfl)) rfl rfl hl.1 rfl (lv_room (Nat.le_of_ble_eq_true rfl)) d_Mo_file_125 ⟨Nat.zero_le _, Nat.zero_le _⟩) rfl hS (fun q _ h => hFc q h) hFc (fun t H1 locs ht hvm hB hz1 hk1 hS => ?_)
        obtain ⟨hP, hD⟩ := mo_back ht hD hB
        generalize H1 = H at hP hS ⊢
        refine lv_if_eq (tgt := 147) hx hb d_Mo_file_128 (by decide) (fun c_25 => ?_) (fun c_25 => ?_)
        · have hf := it_t c_25 hf
          exact k_Mo_file_147 C0 hST hA hK hE hf hP hD hS (lv_sub hl [] rfl)
        · have hf := it_f c_25 hf
          refine lv_aload_n hx hb d_Mo_file_131 rfl (lv_at hl 2 rfl) ?_
          refine lv_bipush (v := 8) hx hb d_Mo_file_132 (by decide) ?_
          obtain ⟨⟨z_30, i_26, j_27, a_28, b_29⟩, hc, hf⟩ := ob hf
          have hFc := mo_free hD hS hA
          refine cl_M (v := (some (.int z_30))) (st1 := [.int z_30]) (va_runV (As := [.int 8]) (rest := []) ⟨hx, hb, hml, hown, hts⟩ (c_Mo_block l dC dI h0 r cA H.size nf 8 i_20 j_21 a_22 b_23 hc) (cwV 1 hts (gdV m_7_143 m_7_145 msel_62 m_1_10 m_7_146) rfl rfl rfl (by decide +kernel) ⟨Nat.le_trans (Nat.le_of_ble_eq_true rfl) hRf, Nat.le_trans (Nat.le_of_ble_eq_true rfl) hRl⟩) ((MU.pre hP hK hD (hST.mu hS hFc)).vir (va_recv hK hP (ci := 10) (q0 := 0) rfl rfl)) rfl rfl hl.1 rfl (lv_room (Nat.le_of_ble_eq_true rfl)) d_Mo_file_134 ⟨Nat.zero_le _, Nat.zero_le _⟩) rfl hS (fun q _ h => hFc q h) hFc (fun t H1 locs ht hvm hB hz1 hk1 hS => ?_)
          obtain ⟨hP, hD⟩ := mo_back ht hD hB
          generalize H1 = H at hP hS ⊢
          refine lv_if_eq (tgt := 147) hx hb d_Mo_file_137 (by decide) (fun c_31 => ?_) (fun c_31 => ?_)
          · have hf := it_t c_31 hf
            exact k_Mo_file_147 C0 hST hA hK hE hf hP hD hS (lv_sub hl [] rfl)
          · have hf := it_f c_31 hf
            refine lv_aload_n hx hb d_Mo_file_140 rfl (lv_at hl 2 rfl) ?_
            obtain ⟨⟨z_36, i_32, j_33, a_34, b_35⟩, hc, hf⟩ := ob hf
            have hFc := mo_free hD hS hA
            refine cl_M (v := (some (.int z_36))) (st1 := [.int z_36]) (va_runV (As := []) (rest := []) ⟨hx, hb, hml, hown, hts⟩ (c_Mo_footer l dC dI h0 r cA H.size nf i_26 j_27 a_28 b_29 hc) (cwV 0 hts (gdV m_7_192 m_7_194 msel_71 m_1_10 m_7_195) rfl rfl rfl (by decide +kernel) ⟨Nat.le_trans (Nat.le_of_ble_eq_true rfl) hRf, Nat.le_trans (Nat.le_of_ble_eq_true rfl) hRl⟩) ((MU.pre hP hK hD (hST.mu hS hFc)).vir (va_recv hK hP (ci := 10) (q0 := 0) rfl rfl)) rfl rfl hl.1 rfl (lv_room (Nat.le_of_ble_eq_true rfl)) d_Mo_file_141 ⟨Nat.zero_le _, Nat.zero_le _⟩) rfl hS (fun q _ h => hFc q h) hFc (fun t H1 locs ht hvm hB hz1 hk1 hS => ?_)
            obtain ⟨hP, hD⟩ := mo_back ht hD hB
            generalize H1 = H at hP hS ⊢
            refine lv_if_ne (tgt := 149) hx hb d_Mo_file_144 (by decide) (fun c_37 => ?_) (fun c_37 => ?_)
            · have hf := it_f c_37 hf
              exact k_Mo_file_149 C0 hST hA hK hE hf hP hD hS (lv_sub hl [1, 2] rfl)
            · have hf := it_t c_37 hf
              exact k_Mo_file_147 C0 hST hA hK hE hf hP hD hS (lv_sub hl [] rfl)
      · have hf := it_t c_19 hf
        refine lv_iconst (v := 0) hx hb d_Mo_file_110 (by decide) ?_
        cases rs hf
        exact hE _ _ _ _ d_Mo_file_111 rfl hP hD hS
    · have hf := it_t c_7 hf
      refine lv_aload_n hx hb d_Mo_file_24 rfl (lv_at hl 1 rfl) ?_
      refine mg_23 hx hb hts hown hK hP d_Mo_file_25 ?_
      refine lv_iload_n hx hb d_Mo_file_28 rfl (lv_at hl 0 rfl) ?_
      refine lv_iconst (v := 0) hx hb d_Mo_file_29 (by decide) ?_
      obtain ⟨c_47, hf⟩ := it_n hf
      refine mz_23 hx hb hK hP hD hS c_47 d_Mo_file_30 (fun H locs hP hD hS => ?_)
      refine lv_aload_n hx hb d_Mo_file_31 rfl (lv_at hl 1 rfl) ?_
      refine mg_11 hx hb hts hown hK hP d_Mo_file_32 ?_
      refine lv_iload_n hx hb d_Mo_file_35 rfl (lv_at hl 0 rfl) ?_
      refine lv_iconst (v := 0) hx hb d_Mo_file_36 (by decide) ?_
      obtain ⟨c_48, hf⟩ := it_n hf
      refine mz_11 hx hb hK hP hD hS c_48 d_Mo_file_37 (fun H locs hP hD hS => ?_)
      refine lv_aload_n hx hb d_Mo_file_38 rfl (lv_at hl 1 rfl) ?_
      refine lv_iconst (v := 4) hx hb d_Mo_file_39 (by decide) ?_
      obtain ⟨⟨z_53, i_49, j_50, a_51, b_52⟩, hc, hf⟩ := ob hf
      have hFc := mo_free hD hS hA
      refine cl_M (v := (some (.int z_53))) (st1 := [.int z_53]) (va_runV (As := [.int 4]) (rest := []) ⟨hx, hb, hml, hown, hts⟩ (c_Mo_block l dC dI h0 r cA H.size nf 4 i_1 j_2 (va_up (va_up a_3 23 (upd (a_3 23) (4 : Int32).toNatClampNeg 0)) 11 (upd (a_3 11) (4 : Int32).toNatClampNeg 0)) b_4 hc) (cwV 1 hts (gdV m_7_143 m_7_145 msel_62 m_1_10 m_7_146) rfl rfl rfl (by decide +kernel) ⟨Nat.le_trans (Nat.le_of_ble_eq_true rfl) hRf, Nat.le_trans (Nat.le_of_ble_eq_true rfl) hRl⟩) ((MU.pre hP hK hD (hST.mu hS hFc)).vir (va_recv hK hP (ci := 10) (q0 := 0) rfl rfl)) rfl rfl hl.1 rfl (lv_room (Nat.le_of_ble_eq_true rfl)) d_Mo_file_40 ⟨Nat.zero_le _, Nat.zero_le _⟩) rfl hS (fun q _ h => hFc q h) hFc (fun t H1 locs ht hvm hB hz1 hk1 hS => ?_)
      obtain ⟨hP, hD⟩ := mo_back ht hD hB
      generalize H1 = H at hP hS ⊢
      refine lv_if_ne (tgt := 149) hx hb d_Mo_file_43 (by decide) (fun c_54 => ?_) (fun c_54 => ?_)
      · have hf := it_f c_54 hf
        exact k_Mo_file_149 C0 hST hA hK hE hf hP hD hS (lv_sub hl [0, 1] rfl)
      · have hf := it_t c_54 hf
        refine lv_iconst (v := 0) hx hb d_Mo_file_46 (by decide) ?_
        cases rs hf
        exact hE _ _ _ _ d_Mo_file_47 rfl hP hD hS
  · have hf := it_t c_6 hf
    refine lv_iconst (v := 0) hx hb d_Mo_file_15 (by decide) ?_
    cases rs hf
    exact hE _ _ _ _ d_Mo_file_16 rfl hP hD hS
end
set_option maxHeartbeats 400000 in
set_option maxRecDepth 100000 in
theorem c_Mo_file (l : Launch) (dC : Nat → ClassId) (dI : Nat → Nat → Nat) (h0 : Nat) (r : Nat → Nat) (cA : Nat → ClassId) (sz : Nat) (nf : Nat) (si : Nat → Int32) (sj : Nat → Int64) (sa : Nat → Nat → Int32) (sb : Nat → Nat → Int64) {r0 : Int32} {vi : Nat → Int32} {vj : Nat → Int64} {va : Nat → Nat → Int32} {vb : Nat → Nat → Int64} (hf : f_Mo_file nf si sj sa sb = some (r0, vi, vj, va, vb)) : Met l y_Mo_file (wd y_Mo_file b_Mo_file 4 (some .boolean)) ({ frames := 6, cells := 0, slots := 0, locals := 141 }) (MU dC dI (moW h0 r cA si sj sa sb) (moT cA) sz [.ref h0]) (MV (some (.int r0)) (fun t => va_P (dC, dI) classes (moW h0 r cA vi vj va vb) t.heap) (va_A (moW h0 r cA si sj sa sb) sz)) 0 0 (va_A (moW h0 r cA si sj sa sb) sz) :=
  met_M (plainFor_of_name (by decide)) (Nat.le_of_ble_eq_true rfl) (fun p e R s m args below meth c ls hRc hRs hsz hin C0 hST hK hP hD hl => by
    obtain ⟨hx, hb, hr, hml, hown, hts, hlocks, hRf, hRl⟩ := id C0
    subst hsz
    have hA : ∀ q : Nat, s.heap.size ≤ q → va_A (moW h0 r cA si sj sa sb) s.heap.size q := fun q h => Or.inr h
    have hS : va_S (va_A (moW h0 r cA si sj sa sb) s.heap.size) s.heap s.heap [] := va_S.rf
    unfold f_Mo_file at hf
    exact k_Mo_file_0 C0 hST hA hK (fun pc ls H locs hd hn hP hD hS => W.zret hx hb hr hn (fun t ht hW => ⟨⟨rfl, mo_end ht hP⟩, hS.F ht⟩) hS.2.2 hd) hf hP hD hS (lv_sub hl [0] rfl))
-- ZoneFilesModel.floor(JJ)J
def f_Mo_floor_23 (nf : Nat) (s0 : Int64) : Option (Int64) :=
  some s0
def f_Mo_floor_0 (nf : Nat) (x0 : Int64) (x2 : Int64) : Option (Int64) :=
  if x2 = 0 then none else
  if ((x0 / x2) * x2) ≤ x0 then
  f_Mo_floor_23 nf (x0 / x2)
  else
  f_Mo_floor_23 nf ((x0 / x2) - 1)
def f_Mo_floor (nf : Nat) (p0 : Int64) (p1 : Int64) : Option (Int64) :=
  f_Mo_floor_0 nf p0 p1
section
variable {p : Program} {l : Launch} {e : Env} {R : Room} {s : State} {m : MethodId} {args : Array Value} {below : List Frame} {meth : Method} {c : Code} {Q : State → Prop} {dC : Nat → ClassId} {dI : Nat → Nat → Nat} {nf : Nat}
variable {r0 : Int64}
set_option maxHeartbeats 400000 in
set_option maxRecDepth 100000 in
theorem k_Mo_floor_23 (C0 : Cx p s m meth c args R b_Mo_floor "ZoneFilesModel" 6 (some .long) 0 0) (hST : ST (fun _ => False) s s.heap) (hK : va_K (dC, dI) classes [] s) (hE : ∀ (pc : Nat) (ls : Array Slot), decode b_Mo_floor pc = .ok (.lreturn, 1) → W p l e R s m args below meth c s.heap [] 0 0 Q (F0 m pc ls [.long r0])) {s0 : Int64} (hf : f_Mo_floor_23 nf s0 = some r0) {ls : Array Slot} (hl : lv_has ls 6 []) : W p l e R s m args below meth c s.heap [] 0 0 Q (F0 m 23 ls [.long s0]) := by
  obtain ⟨hx, hb, hr, hml, hown, hts, hlocks, hRf, hRl⟩ := id C0
  obtain ⟨tms, hZms, hTms, tmg, hZmg, hTmg, hNW⟩ := id hST
  unfold f_Mo_floor_23 at hf
  have e := rs hf
  subst e
  exact hE _ _ d_Mo_floor_23
set_option maxHeartbeats 400000 in
set_option maxRecDepth 100000 in
theorem k_Mo_floor_0 (C0 : Cx p s m meth c args R b_Mo_floor "ZoneFilesModel" 6 (some .long) 0 0) (hST : ST (fun _ => False) s s.heap) (hK : va_K (dC, dI) classes [] s) (hE : ∀ (pc : Nat) (ls : Array Slot), decode b_Mo_floor pc = .ok (.lreturn, 1) → W p l e R s m args below meth c s.heap [] 0 0 Q (F0 m pc ls [.long r0])) {x0 : Int64} {x2 : Int64} (hf : f_Mo_floor_0 nf x0 x2 = some r0) {ls : Array Slot} (hl : lv_has ls 6 [(0, .long x0), (2, .long x2)]) : W p l e R s m args below meth c s.heap [] 0 0 Q (F0 m 0 ls []) := by
  obtain ⟨hx, hb, hr, hml, hown, hts, hlocks, hRf, hRl⟩ := id C0
  obtain ⟨tms, hZms, hTms, tmg, hZmg, hTmg, hNW⟩ := id hST
  unfold f_Mo_floor_0 at hf
  refine lv_lload_n hx hb d_Mo_floor_0 rfl (lv_at hl 0 rfl) ?_
  refine lv_lload_n hx hb d_Mo_floor_1 rfl (lv_at hl 1 rfl) ?_
  obtain ⟨c_1, hf⟩ := it_n hf
  refine lv_ldiv hx hb d_Mo_floor_2 c_1 ?_
  refine lv_lstore (lv' := [(4, .long (x0 / x2)), (0, .long x0), (2, .long x2)]) hx hb d_Mo_floor_3 hl (by decide) rfl (fun ls hl => ?_)
  refine lv_lload hx hb d_Mo_floor_5 (lv_at hl 0 rfl) ?_
  refine lv_lload_n hx hb d_Mo_floor_7 rfl (lv_at hl 2 rfl) ?_
  refine lv_lmul hx hb d_Mo_floor_8 ?_
  refine lv_lload_n hx hb d_Mo_floor_9 rfl (lv_at hl 1 rfl) ?_
  refine lc_le (tgt := 21) hx hb d_Mo_floor_10 d_Mo_floor_11 (by decide) (fun c_2 => ?_) (fun c_2 => ?_)
  · have hf := it_t c_2 hf
    refine lv_lload hx hb d_Mo_floor_21 (lv_at hl 0 rfl) ?_
    exact k_Mo_floor_23 C0 hST hK hE hf (lv_sub hl [] rfl)
  · have hf := it_f c_2 hf
    refine lv_lload hx hb d_Mo_floor_14 (lv_at hl 0 rfl) ?_
    refine lv_lconst (v := 1) hx hb d_Mo_floor_16 (by decide) ?_
    refine lv_lsub hx hb d_Mo_floor_17 ?_
    refine lv_goto (tgt := 23) hx hb d_Mo_floor_18 (by decide) ?_
    exact k_Mo_floor_23 C0 hST hK hE hf (lv_sub hl [] rfl)
end
set_option maxHeartbeats 400000 in
set_option maxRecDepth 100000 in
theorem c_Mo_floor (l : Launch) (dC : Nat → ClassId) (dI : Nat → Nat → Nat) (nf : Nat) (p0 : Int64) (p1 : Int64) {r0 : Int64} (hf : f_Mo_floor nf p0 p1 = some r0) : Met l y_Mo_floor (wd y_Mo_floor b_Mo_floor 6 (some .long)) ({ frames := 0, cells := 0, slots := 0, locals := 0 }) (RO dC dI [] [] [.long p0, .long p1]) (SV (some (.long r0))) 0 0 (fun _ => False) :=
  met_S (plainFor_of_name (by decide)) (Nat.le_of_ble_eq_true rfl) (fun p e R s m args below meth c ls C0 hST hK hP hl => by
    obtain ⟨hx, hb, hr, hml, hown, hts, hlocks, hRf, hRl⟩ := id C0
    unfold f_Mo_floor at hf
    exact k_Mo_floor_0 C0 hST hK (fun pc ls hd => W.lret hx hb hr (fun t ht hW => ⟨rfl, ht⟩) (fun q h => by cases h) hd) hf (lv_sub hl [0, 1] rfl))
-- ZoneFilesModel.date(J)V
def f_Mo_date_167 (nf : Nat) (s0 : Int64) (s1 : Int64) (si : Nat → Int32) (sj : Nat → Int64) (sa : Nat → Nat → Int32) (sb : Nat → Nat → Int64) : Option ((Nat → Int32) × (Nat → Int64) × (Nat → Nat → Int32) × (Nat → Nat → Int64)) :=
  some (si, va_up sj 40 (s1 + s0), sa, sb)
def f_Mo_date_141 (nf : Nat) (x9 : Int64) (x5 : Int64) (s0 : Int32) (si : Nat → Int32) (sj : Nat → Int64) (sa : Nat → Nat → Int32) (sb : Nat → Nat → Int64) : Option ((Nat → Int32) × (Nat → Int64) × (Nat → Nat → Int32) × (Nat → Nat → Int64)) :=
  if (2 : Int32) < s0 then
  f_Mo_date_167 nf 0 (x9 + (x5 * 400)) (va_up si 41 s0) sj sa sb
  else
  f_Mo_date_167 nf 1 (x9 + (x5 * 400)) (va_up si 41 s0) sj sa sb
def f_Mo_date_0 (nf : Nat) (x1 : Int64) (si : Nat → Int32) (sj : Nat → Int64) (sa : Nat → Nat → Int32) (sb : Nat → Nat → Int64) : Option ((Nat → Int32) × (Nat → Int64) × (Nat → Nat → Int32) × (Nat → Nat → Int64)) :=
  (f_Mo_floor nf (x1 + 719468) 146097).bind fun r_1 =>
  if (10 : Int32) ≤ ((((5 * (((x1 + 719468) - (r_1 * 146097)) - (((365 * ((((((x1 + 719468) - (r_1 * 146097)) - (((x1 + 719468) - (r_1 * 146097)) / 1460)) + (((x1 + 719468) - (r_1 * 146097)) / 36524)) - (((x1 + 719468) - (r_1 * 146097)) / 146096)) / 365)) + (((((((x1 + 719468) - (r_1 * 146097)) - (((x1 + 719468) - (r_1 * 146097)) / 1460)) + (((x1 + 719468) - (r_1 * 146097)) / 36524)) - (((x1 + 719468) - (r_1 * 146097)) / 146096)) / 365) / 4)) - (((((((x1 + 719468) - (r_1 * 146097)) - (((x1 + 719468) - (r_1 * 146097)) / 1460)) + (((x1 + 719468) - (r_1 * 146097)) / 36524)) - (((x1 + 719468) - (r_1 * 146097)) / 146096)) / 365) / 100)))) + 2) / 153).toInt32) then
  f_Mo_date_141 nf ((((((x1 + 719468) - (r_1 * 146097)) - (((x1 + 719468) - (r_1 * 146097)) / 1460)) + (((x1 + 719468) - (r_1 * 146097)) / 36524)) - (((x1 + 719468) - (r_1 * 146097)) / 146096)) / 365) r_1 (((((5 * (((x1 + 719468) - (r_1 * 146097)) - (((365 * ((((((x1 + 719468) - (r_1 * 146097)) - (((x1 + 719468) - (r_1 * 146097)) / 1460)) + (((x1 + 719468) - (r_1 * 146097)) / 36524)) - (((x1 + 719468) - (r_1 * 146097)) / 146096)) / 365)) + (((((((x1 + 719468) - (r_1 * 146097)) - (((x1 + 719468) - (r_1 * 146097)) / 1460)) + (((x1 + 719468) - (r_1 * 146097)) / 36524)) - (((x1 + 719468) - (r_1 * 146097)) / 146096)) / 365) / 4)) - (((((((x1 + 719468) - (r_1 * 146097)) - (((x1 + 719468) - (r_1 * 146097)) / 1460)) + (((x1 + 719468) - (r_1 * 146097)) / 36524)) - (((x1 + 719468) - (r_1 * 146097)) / 146096)) / 365) / 100)))) + 2) / 153).toInt32) - 9) (va_up si 42 ((((((x1 + 719468) - (r_1 * 146097)) - (((365 * ((((((x1 + 719468) - (r_1 * 146097)) - (((x1 + 719468) - (r_1 * 146097)) / 1460)) + (((x1 + 719468) - (r_1 * 146097)) / 36524)) - (((x1 + 719468) - (r_1 * 146097)) / 146096)) / 365)) + (((((((x1 + 719468) - (r_1 * 146097)) - (((x1 + 719468) - (r_1 * 146097)) / 1460)) + (((x1 + 719468) - (r_1 * 146097)) / 36524)) - (((x1 + 719468) - (r_1 * 146097)) / 146096)) / 365) / 4)) - (((((((x1 + 719468) - (r_1 * 146097)) - (((x1 + 719468) - (r_1 * 146097)) / 1460)) + (((x1 + 719468) - (r_1 * 146097)) / 36524)) - (((x1 + 719468) - (r_1 * 146097)) / 146096)) / 365) / 100))) - (((153 * (((((5 * (((x1 + 719468) - (r_1 * 146097)) - (((365 * ((((((x1 + 719468) - (r_1 * 146097)) - (((x1 + 719468) - (r_1 * 146097)) / 1460)) + (((x1 + 719468) - (r_1 * 146097)) / 36524)) - (((x1 + 719468) - (r_1 * 146097)) / 146096)) / 365)) + (((((((x1 + 719468) - (r_1 * 146097)) - (((x1 + 719468) - (r_1 * 146097)) / 1460)) + (((x1 + 719468) - (r_1 * 146097)) / 36524)) - (((x1 + 719468) - (r_1 * 146097)) / 146096)) / 365) / 4)) - (((((((x1 + 719468) - (r_1 * 146097)) - (((x1 + 719468) - (r_1 * 146097)) / 1460)) + (((x1 + 719468) - (r_1 * 146097)) / 36524)) - (((x1 + 719468) - (r_1 * 146097)) / 146096)) / 365) / 100)))) + 2) / 153).toInt32).toInt64)) + 2) / 5)).toInt32) + 1)) sj sa sb
  else
  f_Mo_date_141 nf ((((((x1 + 719468) - (r_1 * 146097)) - (((x1 + 719468) - (r_1 * 146097)) / 1460)) + (((x1 + 719468) - (r_1 * 146097)) / 36524)) - (((x1 + 719468) - (r_1 * 146097)) / 146096)) / 365) r_1 (((((5 * (((x1 + 719468) - (r_1 * 146097)) - (((365 * ((((((x1 + 719468) - (r_1 * 146097)) - (((x1 + 719468) - (r_1 * 146097)) / 1460)) + (((x1 + 719468) - (r_1 * 146097)) / 36524)) - (((x1 + 719468) - (r_1 * 146097)) / 146096)) / 365)) + (((((((x1 + 719468) - (r_1 * 146097)) - (((x1 + 719468) - (r_1 * 146097)) / 1460)) + (((x1 + 719468) - (r_1 * 146097)) / 36524)) - (((x1 + 719468) - (r_1 * 146097)) / 146096)) / 365) / 4)) - (((((((x1 + 719468) - (r_1 * 146097)) - (((x1 + 719468) - (r_1 * 146097)) / 1460)) + (((x1 + 719468) - (r_1 * 146097)) / 36524)) - (((x1 + 719468) - (r_1 * 146097)) / 146096)) / 365) / 100)))) + 2) / 153).toInt32) + 3) (va_up si 42 ((((((x1 + 719468) - (r_1 * 146097)) - (((365 * ((((((x1 + 719468) - (r_1 * 146097)) - (((x1 + 719468) - (r_1 * 146097)) / 1460)) + (((x1 + 719468) - (r_1 * 146097)) / 36524)) - (((x1 + 719468) - (r_1 * 146097)) / 146096)) / 365)) + (((((((x1 + 719468) - (r_1 * 146097)) - (((x1 + 719468) - (r_1 * 146097)) / 1460)) + (((x1 + 719468) - (r_1 * 146097)) / 36524)) - (((x1 + 719468) - (r_1 * 146097)) / 146096)) / 365) / 4)) - (((((((x1 + 719468) - (r_1 * 146097)) - (((x1 + 719468) - (r_1 * 146097)) / 1460)) + (((x1 + 719468) - (r_1 * 146097)) / 36524)) - (((x1 + 719468) - (r_1 * 146097)) / 146096)) / 365) / 100))) - (((153 * (((((5 * (((x1 + 719468) - (r_1 * 146097)) - (((365 * ((((((x1 + 719468) - (r_1 * 146097)) - (((x1 + 719468) - (r_1 * 146097)) / 1460)) + (((x1 + 719468) - (r_1 * 146097)) / 36524)) - (((x1 + 719468) - (r_1 * 146097)) / 146096)) / 365)) + (((((((x1 + 719468) - (r_1 * 146097)) - (((x1 + 719468) - (r_1 * 146097)) / 1460)) + (((x1 + 719468) - (r_1 * 146097)) / 36524)) - (((x1 + 719468) - (r_1 * 146097)) / 146096)) / 365) / 4)) - (((((((x1 + 719468) - (r_1 * 146097)) - (((x1 + 719468) - (r_1 * 146097)) / 1460)) + (((x1 + 719468) - (r_1 * 146097)) / 36524)) - (((x1 + 719468) - (r_1 * 146097)) / 146096)) / 365) / 100)))) + 2) / 153).toInt32).toInt64)) + 2) / 5)).toInt32) + 1)) sj sa sb
def f_Mo_date (nf : Nat) (p0 : Int64) (si : Nat → Int32) (sj : Nat → Int64) (sa : Nat → Nat → Int32) (sb : Nat → Nat → Int64) : Option ((Nat → Int32) × (Nat → Int64) × (Nat → Nat → Int32) × (Nat → Nat → Int64)) :=
  f_Mo_date_0 nf p0 si sj sa sb
section
variable {p : Program} {l : Launch} {e : Env} {R : Room} {s : State} {m : MethodId} {args : Array Value} {below : List Frame} {meth : Method} {c : Code} {Q : State → Prop} {dC : Nat → ClassId} {dI : Nat → Nat → Nat} {nf : Nat} {A : Nat → Prop} {h0 : Nat} {r : Nat → Nat} {cA : Nat → ClassId}
variable {vi : Nat → Int32} {vj : Nat → Int64} {va : Nat → Nat → Int32} {vb : Nat → Nat → Int64}
set_option maxHeartbeats 400000 in
set_option maxRecDepth 100000 in
theorem k_Mo_date_167 (C0 : Cx p s m meth c args R b_Mo_date "ZoneFilesModel" 14 none 1 25) (hST : ST A s s.heap) (hA : ∀ q, s.heap.size ≤ q → A q) (hK : va_K (dC, dI) classes (moT cA) s) (hE : ∀ (pc : Nat) (ls : Array Slot) (H : Heap) (locs : List Loc), decode b_Mo_date pc = .ok (.return_, 1) → va_P (dC, dI) classes (moW h0 r cA vi vj va vb) H → va_D A (moW h0 r cA vi vj va vb) → va_S A s.heap H locs → W p l e R s m args below meth c H locs 0 0 Q (F0 m pc ls [])) {s0 : Int64} {s1 : Int64} {si : Nat → Int32} {sj : Nat → Int64} {sa : Nat → Nat → Int32} {sb : Nat → Nat → Int64} (hf : f_Mo_date_167 nf s0 s1 si sj sa sb = some (vi, vj, va, vb)) {H : Heap} {locs : List Loc} {ls : Array Slot} (hP : va_P (dC, dI) classes (moW h0 r cA si sj sa sb) H) (hD : va_D A (moW h0 r cA si sj sa sb)) (hS : va_S A s.heap H locs) (hl : lv_has ls 14 []) : W p l e R s m args below meth c H locs 0 0 Q (F0 m 167 ls [.long s0, .long s1, .ref h0]) := by
  obtain ⟨hx, hb, hr, hml, hown, hts, hlocks, hRf, hRl⟩ := id C0
  unfold f_Mo_date_167 at hf
  refine lv_ladd hx hb d_Mo_date_167 ?_
  refine mp_40 hx hb hts hown hK hP hD hS d_Mo_date_168 (fun H locs hP hD hS => ?_)
  cases rs hf
  exact hE _ _ _ _ d_Mo_date_171 hP hD hS
set_option maxHeartbeats 400000 in
set_option maxRecDepth 100000 in
theorem k_Mo_date_141 (C0 : Cx p s m meth c args R b_Mo_date "ZoneFilesModel" 14 none 1 25) (hST : ST A s s.heap) (hA : ∀ q, s.heap.size ≤ q → A q) (hK : va_K (dC, dI) classes (moT cA) s) (hE : ∀ (pc : Nat) (ls : Array Slot) (H : Heap) (locs : List Loc), decode b_Mo_date pc = .ok (.return_, 1) → va_P (dC, dI) classes (moW h0 r cA vi vj va vb) H → va_D A (moW h0 r cA vi vj va vb) → va_S A s.heap H locs → W p l e R s m args below meth c H locs 0 0 Q (F0 m pc ls [])) {x9 : Int64} {x5 : Int64} {s0 : Int32} {si : Nat → Int32} {sj : Nat → Int64} {sa : Nat → Nat → Int32} {sb : Nat → Nat → Int64} (hf : f_Mo_date_141 nf x9 x5 s0 si sj sa sb = some (vi, vj, va, vb)) {H : Heap} {locs : List Loc} {ls : Array Slot} (hP : va_P (dC, dI) classes (moW h0 r cA si sj sa sb) H) (hD : va_D A (moW h0 r cA si sj sa sb)) (hS : va_S A s.heap H locs) (hl : lv_has ls 14 [(9, .long x9), (5, .long x5), (0, .ref h0)]) : W p l e R s m args below meth c H locs 0 0 Q (F0 m 141 ls [.int s0, .ref h0]) := by
  obtain ⟨hx, hb, hr, hml, hown, hts, hlocks, hRf, hRl⟩ := id C0
  unfold f_Mo_date_141 at hf
  refine mp_41 hx hb hts hown hK hP hD hS d_Mo_date_141 (fun H locs hP hD hS => ?_)
  refine lv_aload_n hx hb d_Mo_date_144 rfl (lv_at hl 2 rfl) ?_
  refine lv_lload hx hb d_Mo_date_145 (lv_at hl 0 rfl) ?_
  refine lv_lload hx hb d_Mo_date_147 (lv_at hl 1 rfl) ?_
  refine lv_ldc2 (v := 400) hx hb hown (hts (.constantLong "ZoneFilesModel" 298 400) m_8_1) d_Mo_date_149 ?_
  refine lv_lmul hx hb d_Mo_date_152 ?_
  refine lv_ladd hx hb d_Mo_date_153 ?_
  refine lv_aload_n hx hb d_Mo_date_154 rfl (lv_at hl 2 rfl) ?_
  refine mg_41 (v := s0) hx hb hts hown hK hP rfl d_Mo_date_155 ?_
  refine lv_iconst (v := 2) hx hb d_Mo_date_158 (by decide) ?_
  refine lv_icmp_gt (tgt := 166) hx hb d_Mo_date_159 (by decide) (fun c_3 => ?_) (fun c_3 => ?_)
  · have hf := it_t c_3 hf
    refine lv_lconst (v := 0) hx hb d_Mo_date_166 (by decide) ?_
    exact k_Mo_date_167 C0 hST hA hK hE hf hP hD hS (lv_sub hl [] rfl)
  · have hf := it_f c_3 hf
    refine lv_lconst (v := 1) hx hb d_Mo_date_162 (by decide) ?_
    refine lv_goto (tgt := 167) hx hb d_Mo_date_163 (by decide) ?_
    exact k_Mo_date_167 C0 hST hA hK hE hf hP hD hS (lv_sub hl [] rfl)
set_option maxHeartbeats 400000 in
set_option maxRecDepth 100000 in
theorem k_Mo_date_0 (C0 : Cx p s m meth c args R b_Mo_date "ZoneFilesModel" 14 none 1 25) (hST : ST A s s.heap) (hA : ∀ q, s.heap.size ≤ q → A q) (hK : va_K (dC, dI) classes (moT cA) s) (hE : ∀ (pc : Nat) (ls : Array Slot) (H : Heap) (locs : List Loc), decode b_Mo_date pc = .ok (.return_, 1) → va_P (dC, dI) classes (moW h0 r cA vi vj va vb) H → va_D A (moW h0 r cA vi vj va vb) → va_S A s.heap H locs → W p l e R s m args below meth c H locs 0 0 Q (F0 m pc ls [])) {x1 : Int64} {si : Nat → Int32} {sj : Nat → Int64} {sa : Nat → Nat → Int32} {sb : Nat → Nat → Int64} (hf : f_Mo_date_0 nf x1 si sj sa sb = some (vi, vj, va, vb)) {H : Heap} {locs : List Loc} {ls : Array Slot} (hP : va_P (dC, dI) classes (moW h0 r cA si sj sa sb) H) (hD : va_D A (moW h0 r cA si sj sa sb)) (hS : va_S A s.heap H locs) (hl : lv_has ls 14 [(0, .ref h0), (1, .long x1)]) : W p l e R s m args below meth c H locs 0 0 Q (F0 m 0 ls []) := by
  obtain ⟨hx, hb, hr, hml, hown, hts, hlocks, hRf, hRl⟩ := id C0
  unfold f_Mo_date_0 at hf
  refine lv_lload_n hx hb d_Mo_date_0 rfl (lv_at hl 1 rfl) ?_
  refine lv_ldc2 (v := 719468) hx hb hown (hts (.constantLong "ZoneFilesModel" 311 719468) m_7_232) d_Mo_date_1 ?_
  refine lv_ladd hx hb d_Mo_date_4 ?_
  refine lv_lstore_n (lv' := [(3, .long (x1 + 719468)), (0, .ref h0), (1, .long x1)]) hx hb d_Mo_date_5 rfl hl (by decide) rfl (fun ls hl => ?_)
  refine lv_lload_n hx hb d_Mo_date_6 rfl (lv_at hl 0 rfl) ?_
  refine lv_ldc2 (v := 146097) hx hb hown (hts (.constantLong "ZoneFilesModel" 307 146097) m_7_233) d_Mo_date_7 ?_
  obtain ⟨r_1, hc, hf⟩ := ob hf
  refine cl_S (v := (some (.long r_1))) (st1 := [.long r_1]) (va_runS (As := [.long (x1 + 719468), .long 146097]) (rest := []) ⟨hx, hb, hml, hown, hts⟩ (c_Mo_floor l dC dI nf (x1 + 719468) 146097 hc) (va_cwS 2 hts (gdS m_7_225 m_7_226 m_1_10 m_7_227) rfl rfl rfl (by decide +kernel) ⟨Nat.le_trans (Nat.le_of_ble_eq_true rfl) hRf, Nat.le_trans (Nat.le_of_ble_eq_true rfl) hRl⟩) (RO.pre0 hK (hST.ro hS)).sta rfl rfl hl.1 rfl (lv_room (Nat.le_of_ble_eq_true rfl)) d_Mo_date_10 ⟨Nat.zero_le _, Nat.zero_le _⟩) rfl ?_
  refine lv_lstore (lv' := [(5, .long r_1), (3, .long (x1 + 719468)), (0, .ref h0), (1, .long x1)]) hx hb d_Mo_date_13 hl (by decide) rfl (fun ls hl => ?_)
  refine lv_lload_n hx hb d_Mo_date_15 rfl (lv_at hl 1 rfl) ?_
  refine lv_lload hx hb d_Mo_date_16 (lv_at hl 0 rfl) ?_
  refine lv_ldc2 (v := 146097) hx hb hown (hts (.constantLong "ZoneFilesModel" 307 146097) m_7_233) d_Mo_date_18 ?_
  refine lv_lmul hx hb d_Mo_date_21 ?_
  refine lv_lsub hx hb d_Mo_date_22 ?_
  refine lv_lstore (lv' := [(7, .long ((x1 + 719468) - (r_1 * 146097))), (5, .long r_1), (3, .long (x1 + 719468)), (0, .ref h0), (1, .long x1)]) hx hb d_Mo_date_23 hl (by decide) rfl (fun ls hl => ?_)
  refine lv_lload hx hb d_Mo_date_25 (lv_at hl 0 rfl) ?_
  refine lv_lload hx hb d_Mo_date_27 (lv_at hl 0 rfl) ?_
  refine lv_ldc2 (v := 1460) hx hb hown (hts (.constantLong "ZoneFilesModel" 313 1460) m_7_234) d_Mo_date_29 ?_
  refine lv_ldiv hx hb d_Mo_date_32 (by decide) ?_
  refine lv_lsub hx hb d_Mo_date_33 ?_
  refine lv_lload hx hb d_Mo_date_34 (lv_at hl 0 rfl) ?_
  refine lv_ldc2 (v := 36524) hx hb hown (hts (.constantLong "ZoneFilesModel" 315 36524) m_7_235) d_Mo_date_36 ?_
  refine lv_ldiv hx hb d_Mo_date_39 (by decide) ?_
  refine lv_ladd hx hb d_Mo_date_40 ?_
  refine lv_lload hx hb d_Mo_date_41 (lv_at hl 0 rfl) ?_
  refine lv_ldc2 (v := 146096) hx hb hown (hts (.constantLong "ZoneFilesModel" 317 146096) m_7_236) d_Mo_date_43 ?_
  refine lv_ldiv hx hb d_Mo_date_46 (by decide) ?_
  refine lv_lsub hx hb d_Mo_date_47 ?_
  refine lv_ldc2 (v := 365) hx hb hown (hts (.constantLong "ZoneFilesModel" 309 365) m_7_237) d_Mo_date_48 ?_
  refine lv_ldiv hx hb d_Mo_date_51 (by decide) ?_
  refine lv_lstore (lv' := [(9, .long ((((((x1 + 719468) - (r_1 * 146097)) - (((x1 + 719468) - (r_1 * 146097)) / 1460)) + (((x1 + 719468) - (r_1 * 146097)) / 36524)) - (((x1 + 719468) - (r_1 * 146097)) / 146096)) / 365)), (7, .long ((x1 + 719468) - (r_1 * 146097))), (5, .long r_1), (3, .long (x1 + 719468)), (0, .ref h0), (1, .long x1)]) hx hb d_Mo_date_52 hl (by decide) rfl (fun ls hl => ?_)
  refine lv_lload hx hb d_Mo_date_54 (lv_at hl 1 rfl) ?_
  refine lv_ldc2 (v := 365) hx hb hown (hts (.constantLong "ZoneFilesModel" 309 365) m_7_237) d_Mo_date_56 ?_
  refine lv_lload hx hb d_Mo_date_59 (lv_at hl 0 rfl) ?_
  refine lv_lmul hx hb d_Mo_date_61 ?_
  refine lv_lload hx hb d_Mo_date_62 (lv_at hl 0 rfl) ?_
  refine lv_ldc2 (v := 4) hx hb hown (hts (.constantLong "ZoneFilesModel" 263 4) m_7_183) d_Mo_date_64 ?_
  refine lv_ldiv hx hb d_Mo_date_67 (by decide) ?_
  refine lv_ladd hx hb d_Mo_date_68 ?_
  refine lv_lload hx hb d_Mo_date_69 (lv_at hl 0 rfl) ?_
  refine lv_ldc2 (v := 100) hx hb hown (hts (.constantLong "ZoneFilesModel" 296 100) m_7_238) d_Mo_date_71 ?_
  refine lv_ldiv hx hb d_Mo_date_74 (by decide) ?_
  refine lv_lsub hx hb d_Mo_date_75 ?_
  refine lv_lsub hx hb d_Mo_date_76 ?_
  refine lv_lstore (lv' := [(11, .long (((x1 + 719468) - (r_1 * 146097)) - (((365 * ((((((x1 + 719468) - (r_1 * 146097)) - (((x1 + 719468) - (r_1 * 146097)) / 1460)) + (((x1 + 719468) - (r_1 * 146097)) / 36524)) - (((x1 + 719468) - (r_1 * 146097)) / 146096)) / 365)) + (((((((x1 + 719468) - (r_1 * 146097)) - (((x1 + 719468) - (r_1 * 146097)) / 1460)) + (((x1 + 719468) - (r_1 * 146097)) / 36524)) - (((x1 + 719468) - (r_1 * 146097)) / 146096)) / 365) / 4)) - (((((((x1 + 719468) - (r_1 * 146097)) - (((x1 + 719468) - (r_1 * 146097)) / 1460)) + (((x1 + 719468) - (r_1 * 146097)) / 36524)) - (((x1 + 719468) - (r_1 * 146097)) / 146096)) / 365) / 100)))), (9, .long ((((((x1 + 719468) - (r_1 * 146097)) - (((x1 + 719468) - (r_1 * 146097)) / 1460)) + (((x1 + 719468) - (r_1 * 146097)) / 36524)) - (((x1 + 719468) - (r_1 * 146097)) / 146096)) / 365)), (7, .long ((x1 + 719468) - (r_1 * 146097))), (5, .long r_1), (3, .long (x1 + 719468)), (0, .ref h0), (1, .long x1)]) hx hb d_Mo_date_77 hl (by decide) rfl (fun ls hl => ?_)
  refine lv_ldc2 (v := 5) hx hb hown (hts (.constantLong "ZoneFilesModel" 279 5) m_7_190) d_Mo_date_79 ?_
  refine lv_lload hx hb d_Mo_date_82 (lv_at hl 0 rfl) ?_
  refine lv_lmul hx hb d_Mo_date_84 ?_
  refine lv_ldc2 (v := 2) hx hb hown (hts (.constantLong "ZoneFilesModel" 305 2) m_7_239) d_Mo_date_85 ?_
  refine lv_ladd hx hb d_Mo_date_88 ?_
  refine lv_ldc2 (v := 153) hx hb hown (hts (.constantLong "ZoneFilesModel" 303 153) m_8_0) d_Mo_date_89 ?_
  refine lv_ldiv hx hb d_Mo_date_92 (by decide) ?_
  refine lv_l2i hx hb d_Mo_date_93 rfl ?_
  refine lv_istore (lv' := [(13, .int ((((5 * (((x1 + 719468) - (r_1 * 146097)) - (((365 * ((((((x1 + 719468) - (r_1 * 146097)) - (((x1 + 719468) - (r_1 * 146097)) / 1460)) + (((x1 + 719468) - (r_1 * 146097)) / 36524)) - (((x1 + 719468) - (r_1 * 146097)) / 146096)) / 365)) + (((((((x1 + 719468) - (r_1 * 146097)) - (((x1 + 719468) - (r_1 * 146097)) / 1460)) + (((x1 + 719468) - (r_1 * 146097)) / 36524)) - (((x1 + 719468) - (r_1 * 146097)) / 146096)) / 365) / 4)) - (((((((x1 + 719468) - (r_1 * 146097)) - (((x1 + 719468) - (r_1 * 146097)) / 1460)) + (((x1 + 719468) - (r_1 * 146097)) / 36524)) - (((x1 + 719468) - (r_1 * 146097)) / 146096)) / 365) / 100)))) + 2) / 153).toInt32)), (11, .long (((x1 + 719468) - (r_1 * 146097)) - (((365 * ((((((x1 + 719468) - (r_1 * 146097)) - (((x1 + 719468) - (r_1 * 146097)) / 1460)) + (((x1 + 719468) - (r_1 * 146097)) / 36524)) - (((x1 + 719468) - (r_1 * 146097)) / 146096)) / 365)) + (((((((x1 + 719468) - (r_1 * 146097)) - (((x1 + 719468) - (r_1 * 146097)) / 1460)) + (((x1 + 719468) - (r_1 * 146097)) / 36524)) - (((x1 + 719468) - (r_1 * 146097)) / 146096)) / 365) / 4)) - (((((((x1 + 719468) - (r_1 * 146097)) - (((x1 + 719468) - (r_1 * 146097)) / 1460)) + (((x1 + 719468) - (r_1 * 146097)) / 36524)) - (((x1 + 719468) - (r_1 * 146097)) / 146096)) / 365) / 100)))), (9, .long ((((((x1 + 719468) - (r_1 * 146097)) - (((x1 + 719468) - (r_1 * 146097)) / 1460)) + (((x1 + 719468) - (r_1 * 146097)) / 36524)) - (((x1 + 719468) - (r_1 * 146097)) / 146096)) / 365)), (7, .long ((x1 + 719468) - (r_1 * 146097))), (5, .long r_1), (3, .long (x1 + 719468)), (0, .ref h0), (1, .long x1)]) hx hb d_Mo_date_94 hl (by decide) rfl (fun ls hl => ?_)
  refine lv_aload_n hx hb d_Mo_date_96 rfl (lv_at hl 6 rfl) ?_
  refine lv_lload hx hb d_Mo_date_97 (lv_at hl 1 rfl) ?_
  refine lv_ldc2 (v := 153) hx hb hown (hts (.constantLong "ZoneFilesModel" 303 153) m_8_0) d_Mo_date_99 ?_
  refine lv_iload hx hb d_Mo_date_102 (lv_at hl 0 rfl) ?_
  refine lv_i2l hx hb d_Mo_date_104 rfl ?_
  refine lv_lmul hx hb d_Mo_date_105 ?_
  refine lv_ldc2 (v := 2) hx hb hown (hts (.constantLong "ZoneFilesModel" 305 2) m_7_239) d_Mo_date_106 ?_
  refine lv_ladd hx hb d_Mo_date_109 ?_
  refine lv_ldc2 (v := 5) hx hb hown (hts (.constantLong "ZoneFilesModel" 279 5) m_7_190) d_Mo_date_110 ?_
  refine lv_ldiv hx hb d_Mo_date_113 (by decide) ?_
  refine lv_lsub hx hb d_Mo_date_114 ?_
  refine lv_l2i hx hb d_Mo_date_115 rfl ?_
  refine lv_iconst (v := 1) hx hb d_Mo_date_116 (by decide) ?_
  refine lv_iadd hx hb d_Mo_date_117 ?_
  refine mp_42 hx hb hts hown hK hP hD hS d_Mo_date_118 (fun H locs hP hD hS => ?_)
  refine lv_aload_n hx hb d_Mo_date_121 rfl (lv_at hl 6 rfl) ?_
  refine lv_iload hx hb d_Mo_date_122 (lv_at hl 0 rfl) ?_
  refine lv_bipush (v := 10) hx hb d_Mo_date_124 (by decide) ?_
  refine lv_icmp_ge (tgt := 136) hx hb d_Mo_date_126 (by decide) (fun c_2 => ?_) (fun c_2 => ?_)
  · have hf := it_t c_2 hf
    refine lv_iload hx hb d_Mo_date_136 (lv_at hl 0 rfl) ?_
    refine lv_bipush (v := 9) hx hb d_Mo_date_138 (by decide) ?_
    refine lv_isub hx hb d_Mo_date_140 ?_
    exact k_Mo_date_141 C0 hST hA hK hE hf hP hD hS (lv_sub hl [2, 4, 6] rfl)
  · have hf := it_f c_2 hf
    refine lv_iload hx hb d_Mo_date_129 (lv_at hl 0 rfl) ?_
    refine lv_iconst (v := 3) hx hb d_Mo_date_131 (by decide) ?_
    refine lv_iadd hx hb d_Mo_date_132 ?_
    refine lv_goto (tgt := 141) hx hb d_Mo_date_133 (by decide) ?_
    exact k_Mo_date_141 C0 hST hA hK hE hf hP hD hS (lv_sub hl [2, 4, 6] rfl)
end
set_option maxHeartbeats 400000 in
set_option maxRecDepth 100000 in
theorem c_Mo_date (l : Launch) (dC : Nat → ClassId) (dI : Nat → Nat → Nat) (h0 : Nat) (r : Nat → Nat) (cA : Nat → ClassId) (sz : Nat) (nf : Nat) (p0 : Int64) (si : Nat → Int32) (sj : Nat → Int64) (sa : Nat → Nat → Int32) (sb : Nat → Nat → Int64) {vi : Nat → Int32} {vj : Nat → Int64} {va : Nat → Nat → Int32} {vb : Nat → Nat → Int64} (hf : f_Mo_date nf p0 si sj sa sb = some (vi, vj, va, vb)) : Met l y_Mo_date (wd y_Mo_date b_Mo_date 14 none) ({ frames := 1, cells := 0, slots := 0, locals := 25 }) (MU dC dI (moW h0 r cA si sj sa sb) (moT cA) sz [.ref h0, .long p0]) (MV none (fun t => va_P (dC, dI) classes (moW h0 r cA vi vj va vb) t.heap) (va_A (moW h0 r cA si sj sa sb) sz)) 0 0 (va_A (moW h0 r cA si sj sa sb) sz) :=
  met_M (plainFor_of_name (by decide)) (Nat.le_of_ble_eq_true rfl) (fun p e R s m args below meth c ls hRc hRs hsz hin C0 hST hK hP hD hl => by
    obtain ⟨hx, hb, hr, hml, hown, hts, hlocks, hRf, hRl⟩ := id C0
    subst hsz
    have hA : ∀ q : Nat, s.heap.size ≤ q → va_A (moW h0 r cA si sj sa sb) s.heap.size q := fun q h => Or.inr h
    have hS : va_S (va_A (moW h0 r cA si sj sa sb) s.heap.size) s.heap s.heap [] := va_S.rf
    unfold f_Mo_date at hf
    exact k_Mo_date_0 C0 hST hA hK (fun pc ls H locs hd hP hD hS => W.vret hx hb hr (fun t ht hW => ⟨⟨rfl, mo_end ht hP⟩, hS.F ht⟩) hS.2.2 hd) hf hP hD hS (lv_sub hl [0, 1] rfl))
-- ZoneFilesModel.about(J)J
def f_Mo_about_0 (nf : Nat) (x1 : Int64) (si : Nat → Int32) (sj : Nat → Int64) (sa : Nat → Nat → Int32) (sb : Nat → Nat → Int64) : Option (Int64 × (Nat → Int32) × (Nat → Int64) × (Nat → Nat → Int32) × (Nat → Nat → Int64)) :=
  (f_Mo_floor nf x1 86400).bind fun r_1 =>
  (f_Mo_date nf r_1 si sj sa sb).bind fun (i_2, j_3, a_4, b_5) =>
  some (j_3 40, i_2, j_3, a_4, b_5)
def f_Mo_about (nf : Nat) (p0 : Int64) (si : Nat → Int32) (sj : Nat → Int64) (sa : Nat → Nat → Int32) (sb : Nat → Nat → Int64) : Option (Int64 × (Nat → Int32) × (Nat → Int64) × (Nat → Nat → Int32) × (Nat → Nat → Int64)) :=
  f_Mo_about_0 nf p0 si sj sa sb
section
variable {p : Program} {l : Launch} {e : Env} {R : Room} {s : State} {m : MethodId} {args : Array Value} {below : List Frame} {meth : Method} {c : Code} {Q : State → Prop} {dC : Nat → ClassId} {dI : Nat → Nat → Nat} {nf : Nat} {A : Nat → Prop} {h0 : Nat} {r : Nat → Nat} {cA : Nat → ClassId}
variable {r0 : Int64} {vi : Nat → Int32} {vj : Nat → Int64} {va : Nat → Nat → Int32} {vb : Nat → Nat → Int64}
set_option maxHeartbeats 400000 in
set_option maxRecDepth 100000 in
theorem k_Mo_about_0 (C0 : Cx p s m meth c args R b_Mo_about "ZoneFilesModel" 3 (some .long) 2 58) (hST : ST A s s.heap) (hA : ∀ q, s.heap.size ≤ q → A q) (hK : va_K (dC, dI) classes (moT cA) s) (hE : ∀ (pc : Nat) (ls : Array Slot) (H : Heap) (locs : List Loc), decode b_Mo_about pc = .ok (.lreturn, 1) → va_P (dC, dI) classes (moW h0 r cA vi vj va vb) H → va_D A (moW h0 r cA vi vj va vb) → va_S A s.heap H locs → W p l e R s m args below meth c H locs 0 0 Q (F0 m pc ls [.long r0])) {x1 : Int64} {si : Nat → Int32} {sj : Nat → Int64} {sa : Nat → Nat → Int32} {sb : Nat → Nat → Int64} (hf : f_Mo_about_0 nf x1 si sj sa sb = some (r0, vi, vj, va, vb)) {H : Heap} {locs : List Loc} {ls : Array Slot} (hP : va_P (dC, dI) classes (moW h0 r cA si sj sa sb) H) (hD : va_D A (moW h0 r cA si sj sa sb)) (hS : va_S A s.heap H locs) (hl : lv_has ls 3 [(0, .ref h0), (1, .long x1)]) : W p l e R s m args below meth c H locs 0 0 Q (F0 m 0 ls []) := by
  obtain ⟨hx, hb, hr, hml, hown, hts, hlocks, hRf, hRl⟩ := id C0
  unfold f_Mo_about_0 at hf
  refine lv_aload_n hx hb d_Mo_about_0 rfl (lv_at hl 0 rfl) ?_
  refine lv_lload_n hx hb d_Mo_about_1 rfl (lv_at hl 1 rfl) ?_
  refine lv_ldc2 (v := 86400) hx hb hown (hts (.constantLong "ZoneFilesModel" 335 86400) m_7_224) d_Mo_about_2 ?_
  obtain ⟨r_1, hc, hf⟩ := ob hf
  refine cl_S (v := (some (.long r_1))) (st1 := [.long r_1, .ref h0]) (va_runS (As := [.long x1, .long 86400]) (rest := [.ref h0]) ⟨hx, hb, hml, hown, hts⟩ (c_Mo_floor l dC dI nf x1 86400 hc) (va_cwS 2 hts (gdS m_7_225 m_7_226 m_1_10 m_7_227) rfl rfl rfl (by decide +kernel) ⟨Nat.le_trans (Nat.le_of_ble_eq_true rfl) hRf, Nat.le_trans (Nat.le_of_ble_eq_true rfl) hRl⟩) (RO.pre0 hK (hST.ro hS)).sta rfl rfl hl.1 rfl (lv_room (Nat.le_of_ble_eq_true rfl)) d_Mo_about_5 ⟨Nat.zero_le _, Nat.zero_le _⟩) rfl ?_
  obtain ⟨⟨i_2, j_3, a_4, b_5⟩, hc, hf⟩ := ob hf
  have hFc := mo_free hD hS hA
  refine cl_M (v := none) (st1 := []) (va_runV (As := [.long r_1]) (rest := []) ⟨hx, hb, hml, hown, hts⟩ (c_Mo_date l dC dI h0 r cA H.size nf r_1 si sj sa sb hc) (cwV 1 hts (gdV m_7_228 m_7_230 msel_79 m_1_10 m_7_231) rfl rfl rfl (by decide +kernel) ⟨Nat.le_trans (Nat.le_of_ble_eq_true rfl) hRf, Nat.le_trans (Nat.le_of_ble_eq_true rfl) hRl⟩) ((MU.pre hP hK hD (hST.mu hS hFc)).vir (va_recv hK hP (ci := 10) (q0 := 0) rfl rfl)) rfl rfl hl.1 rfl (lv_room (Nat.le_of_ble_eq_true rfl)) d_Mo_about_8 ⟨Nat.zero_le _, Nat.zero_le _⟩) rfl hS (fun q _ h => hFc q h) hFc (fun t H1 locs ht hvm hB hz1 hk1 hS => ?_)
  obtain ⟨hP, hD⟩ := mo_back ht hD hB
  generalize H1 = H at hP hS ⊢
  refine lv_aload_n hx hb d_Mo_about_11 rfl (lv_at hl 0 rfl) ?_
  refine mg_40 (v := j_3 40) hx hb hts hown hK hP rfl d_Mo_about_12 ?_
  cases rs hf
  exact hE _ _ _ _ d_Mo_about_15 hP hD hS
end
set_option maxHeartbeats 400000 in
set_option maxRecDepth 100000 in
theorem c_Mo_about (l : Launch) (dC : Nat → ClassId) (dI : Nat → Nat → Nat) (h0 : Nat) (r : Nat → Nat) (cA : Nat → ClassId) (sz : Nat) (nf : Nat) (p0 : Int64) (si : Nat → Int32) (sj : Nat → Int64) (sa : Nat → Nat → Int32) (sb : Nat → Nat → Int64) {r0 : Int64} {vi : Nat → Int32} {vj : Nat → Int64} {va : Nat → Nat → Int32} {vb : Nat → Nat → Int64} (hf : f_Mo_about nf p0 si sj sa sb = some (r0, vi, vj, va, vb)) : Met l y_Mo_about (wd y_Mo_about b_Mo_about 3 (some .long)) ({ frames := 2, cells := 0, slots := 0, locals := 58 }) (MU dC dI (moW h0 r cA si sj sa sb) (moT cA) sz [.ref h0, .long p0]) (MV (some (.long r0)) (fun t => va_P (dC, dI) classes (moW h0 r cA vi vj va vb) t.heap) (va_A (moW h0 r cA si sj sa sb) sz)) 0 0 (va_A (moW h0 r cA si sj sa sb) sz) :=
  met_M (plainFor_of_name (by decide)) (Nat.le_of_ble_eq_true rfl) (fun p e R s m args below meth c ls hRc hRs hsz hin C0 hST hK hP hD hl => by
    obtain ⟨hx, hb, hr, hml, hown, hts, hlocks, hRf, hRl⟩ := id C0
    subst hsz
    have hA : ∀ q : Nat, s.heap.size ≤ q → va_A (moW h0 r cA si sj sa sb) s.heap.size q := fun q h => Or.inr h
    have hS : va_S (va_A (moW h0 r cA si sj sa sb) s.heap.size) s.heap s.heap [] := va_S.rf
    unfold f_Mo_about at hf
    exact k_Mo_about_0 C0 hST hA hK (fun pc ls H locs hd hP hD hS => W.lret hx hb hr (fun t ht hW => ⟨⟨rfl, mo_end ht hP⟩, hS.F ht⟩) hS.2.2 hd) hf hP hD hS (lv_sub hl [0, 1] rfl))
-- ZoneFilesModel.days(JII)J
def f_Mo_days_53 (nf : Nat) (x8 : Int64) (x6 : Int64) (x3 : Int32) (s0 : Int32) (s1 : Int64) : Option (Int64) :=
  some ((((((x6 * 146097) + (x8 * 365)) + (x8 / 4)) - (x8 / 100)) + (((((s1 * s0.toInt64) + 2) / 5) + x3.toInt64) - 1)) - 719468)
def f_Mo_days_12 (nf : Nat) (x2 : Int32) (x3 : Int32) (s0 : Int64) : Option (Int64) :=
  (f_Mo_floor nf s0 400).bind fun r_2 =>
  if x2 ≤ (2 : Int32) then
  f_Mo_days_53 nf (s0 - (r_2 * 400)) r_2 x3 (x2 + 9) 153
  else
  f_Mo_days_53 nf (s0 - (r_2 * 400)) r_2 x3 (x2 - 3) 153
def f_Mo_days_0 (nf : Nat) (x0 : Int64) (x2 : Int32) (x3 : Int32) : Option (Int64) :=
  if (2 : Int32) < x2 then
  f_Mo_days_12 nf x2 x3 x0
  else
  f_Mo_days_12 nf x2 x3 (x0 - 1)
def f_Mo_days (nf : Nat) (p0 : Int64) (p1 : Int32) (p2 : Int32) : Option (Int64) :=
  f_Mo_days_0 nf p0 p1 p2
section
variable {p : Program} {l : Launch} {e : Env} {R : Room} {s : State} {m : MethodId} {args : Array Value} {below : List Frame} {meth : Method} {c : Code} {Q : State → Prop} {dC : Nat → ClassId} {dI : Nat → Nat → Nat} {nf : Nat}
variable {r0 : Int64}
set_option maxHeartbeats 400000 in
set_option maxRecDepth 100000 in
theorem k_Mo_days_53 (C0 : Cx p s m meth c args R b_Mo_days "ZoneFilesModel" 12 (some .long) 1 25) (hST : ST (fun _ => False) s s.heap) (hK : va_K (dC, dI) classes [] s) (hE : ∀ (pc : Nat) (ls : Array Slot), decode b_Mo_days pc = .ok (.lreturn, 1) → W p l e R s m args below meth c s.heap [] 0 0 Q (F0 m pc ls [.long r0])) {x8 : Int64} {x6 : Int64} {x3 : Int32} {s0 : Int32} {s1 : Int64} (hf : f_Mo_days_53 nf x8 x6 x3 s0 s1 = some r0) {ls : Array Slot} (hl : lv_has ls 12 [(8, .long x8), (6, .long x6), (3, .int x3)]) : W p l e R s m args below meth c s.heap [] 0 0 Q (F0 m 53 ls [.int s0, .long s1]) := by
  obtain ⟨hx, hb, hr, hml, hown, hts, hlocks, hRf, hRl⟩ := id C0
  obtain ⟨tms, hZms, hTms, tmg, hZmg, hTmg, hNW⟩ := id hST
  unfold f_Mo_days_53 at hf
  refine lv_i2l hx hb d_Mo_days_53 rfl ?_
  refine lv_lmul hx hb d_Mo_days_54 ?_
  refine lv_ldc2 (v := 2) hx hb hown (hts (.constantLong "ZoneFilesModel" 305 2) m_7_239) d_Mo_days_55 ?_
  refine lv_ladd hx hb d_Mo_days_58 ?_
  refine lv_ldc2 (v := 5) hx hb hown (hts (.constantLong "ZoneFilesModel" 279 5) m_7_190) d_Mo_days_59 ?_
  refine lv_ldiv hx hb d_Mo_days_62 (by decide) ?_
  refine lv_iload_n hx hb d_Mo_days_63 rfl (lv_at hl 2 rfl) ?_
  refine lv_i2l hx hb d_Mo_days_64 rfl ?_
  refine lv_ladd hx hb d_Mo_days_65 ?_
  refine lv_lconst (v := 1) hx hb d_Mo_days_66 (by decide) ?_
  refine lv_lsub hx hb d_Mo_days_67 ?_
  refine lv_lstore (lv' := [(10, .long (((((s1 * s0.toInt64) + 2) / 5) + x3.toInt64) - 1)), (8, .long x8), (6, .long x6), (3, .int x3)]) hx hb d_Mo_days_68 hl (by decide) rfl (fun ls hl => ?_)
  refine lv_lload hx hb d_Mo_days_70 (lv_at hl 2 rfl) ?_
  refine lv_ldc2 (v := 146097) hx hb hown (hts (.constantLong "ZoneFilesModel" 307 146097) m_7_233) d_Mo_days_72 ?_
  refine lv_lmul hx hb d_Mo_days_75 ?_
  refine lv_lload hx hb d_Mo_days_76 (lv_at hl 1 rfl) ?_
  refine lv_ldc2 (v := 365) hx hb hown (hts (.constantLong "ZoneFilesModel" 309 365) m_7_237) d_Mo_days_78 ?_
  refine lv_lmul hx hb d_Mo_days_81 ?_
  refine lv_ladd hx hb d_Mo_days_82 ?_
  refine lv_lload hx hb d_Mo_days_83 (lv_at hl 1 rfl) ?_
  refine lv_ldc2 (v := 4) hx hb hown (hts (.constantLong "ZoneFilesModel" 263 4) m_7_183) d_Mo_days_85 ?_
  refine lv_ldiv hx hb d_Mo_days_88 (by decide) ?_
  refine lv_ladd hx hb d_Mo_days_89 ?_
  refine lv_lload hx hb d_Mo_days_90 (lv_at hl 1 rfl) ?_
  refine lv_ldc2 (v := 100) hx hb hown (hts (.constantLong "ZoneFilesModel" 296 100) m_7_238) d_Mo_days_92 ?_
  refine lv_ldiv hx hb d_Mo_days_95 (by decide) ?_
  refine lv_lsub hx hb d_Mo_days_96 ?_
  refine lv_lload hx hb d_Mo_days_97 (lv_at hl 0 rfl) ?_
  refine lv_ladd hx hb d_Mo_days_99 ?_
  refine lv_ldc2 (v := 719468) hx hb hown (hts (.constantLong "ZoneFilesModel" 311 719468) m_7_232) d_Mo_days_100 ?_
  refine lv_lsub hx hb d_Mo_days_103 ?_
  have e := rs hf
  subst e
  exact hE _ _ d_Mo_days_104
set_option maxHeartbeats 400000 in
set_option maxRecDepth 100000 in
theorem k_Mo_days_12 (C0 : Cx p s m meth c args R b_Mo_days "ZoneFilesModel" 12 (some .long) 1 25) (hST : ST (fun _ => False) s s.heap) (hK : va_K (dC, dI) classes [] s) (hE : ∀ (pc : Nat) (ls : Array Slot), decode b_Mo_days pc = .ok (.lreturn, 1) → W p l e R s m args below meth c s.heap [] 0 0 Q (F0 m pc ls [.long r0])) {x2 : Int32} {x3 : Int32} {s0 : Int64} (hf : f_Mo_days_12 nf x2 x3 s0 = some r0) {ls : Array Slot} (hl : lv_has ls 12 [(2, .int x2), (3, .int x3)]) : W p l e R s m args below meth c s.heap [] 0 0 Q (F0 m 12 ls [.long s0]) := by
  obtain ⟨hx, hb, hr, hml, hown, hts, hlocks, hRf, hRl⟩ := id C0
  obtain ⟨tms, hZms, hTms, tmg, hZmg, hTmg, hNW⟩ := id hST
  unfold f_Mo_days_12 at hf
  refine lv_lstore (lv' := [(4, .long s0), (2, .int x2), (3, .int x3)]) hx hb d_Mo_days_12 hl (by decide) rfl (fun ls hl => ?_)
  refine lv_lload hx hb d_Mo_days_14 (lv_at hl 0 rfl) ?_
  refine lv_ldc2 (v := 400) hx hb hown (hts (.constantLong "ZoneFilesModel" 298 400) m_8_1) d_Mo_days_16 ?_
  obtain ⟨r_2, hc, hf⟩ := ob hf
  refine cl_S (v := (some (.long r_2))) (st1 := [.long r_2]) (va_runS (As := [.long s0, .long 400]) (rest := []) ⟨hx, hb, hml, hown, hts⟩ (c_Mo_floor l dC dI nf s0 400 hc) (va_cwS 2 hts (gdS m_7_225 m_7_226 m_1_10 m_7_227) rfl rfl rfl (by decide +kernel) ⟨Nat.le_trans (Nat.le_of_ble_eq_true rfl) hRf, Nat.le_trans (Nat.le_of_ble_eq_true rfl) hRl⟩) (RO.pre0 hK hST).sta rfl rfl hl.1 rfl (lv_room (Nat.le_of_ble_eq_true rfl)) d_Mo_days_19 ⟨Nat.zero_le _, Nat.zero_le _⟩) rfl ?_
  refine lv_lstore (lv' := [(6, .long r_2), (4, .long s0), (2, .int x2), (3, .int x3)]) hx hb d_Mo_days_22 hl (by decide) rfl (fun ls hl => ?_)
  refine lv_lload hx hb d_Mo_days_24 (lv_at hl 1 rfl) ?_
  refine lv_lload hx hb d_Mo_days_26 (lv_at hl 0 rfl) ?_
  refine lv_ldc2 (v := 400) hx hb hown (hts (.constantLong "ZoneFilesModel" 298 400) m_8_1) d_Mo_days_28 ?_
  refine lv_lmul hx hb d_Mo_days_31 ?_
  refine lv_lsub hx hb d_Mo_days_32 ?_
  refine lv_lstore (lv' := [(8, .long (s0 - (r_2 * 400))), (6, .long r_2), (4, .long s0), (2, .int x2), (3, .int x3)]) hx hb d_Mo_days_33 hl (by decide) rfl (fun ls hl => ?_)
  refine lv_ldc2 (v := 153) hx hb hown (hts (.constantLong "ZoneFilesModel" 303 153) m_8_0) d_Mo_days_35 ?_
  refine lv_iload_n hx hb d_Mo_days_38 rfl (lv_at hl 3 rfl) ?_
  refine lv_iconst (v := 2) hx hb d_Mo_days_39 (by decide) ?_
  refine lv_icmp_le (tgt := 49) hx hb d_Mo_days_40 (by decide) (fun c_3 => ?_) (fun c_3 => ?_)
  · have hf := it_t c_3 hf
    refine lv_iload_n hx hb d_Mo_days_49 rfl (lv_at hl 3 rfl) ?_
    refine lv_bipush (v := 9) hx hb d_Mo_days_50 (by decide) ?_
    refine lv_iadd hx hb d_Mo_days_52 ?_
    exact k_Mo_days_53 C0 hST hK hE hf (lv_sub hl [0, 1, 4] rfl)
  · have hf := it_f c_3 hf
    refine lv_iload_n hx hb d_Mo_days_43 rfl (lv_at hl 3 rfl) ?_
    refine lv_iconst (v := 3) hx hb d_Mo_days_44 (by decide) ?_
    refine lv_isub hx hb d_Mo_days_45 ?_
    refine lv_goto (tgt := 53) hx hb d_Mo_days_46 (by decide) ?_
    exact k_Mo_days_53 C0 hST hK hE hf (lv_sub hl [0, 1, 4] rfl)
set_option maxHeartbeats 400000 in
set_option maxRecDepth 100000 in
theorem k_Mo_days_0 (C0 : Cx p s m meth c args R b_Mo_days "ZoneFilesModel" 12 (some .long) 1 25) (hST : ST (fun _ => False) s s.heap) (hK : va_K (dC, dI) classes [] s) (hE : ∀ (pc : Nat) (ls : Array Slot), decode b_Mo_days pc = .ok (.lreturn, 1) → W p l e R s m args below meth c s.heap [] 0 0 Q (F0 m pc ls [.long r0])) {x0 : Int64} {x2 : Int32} {x3 : Int32} (hf : f_Mo_days_0 nf x0 x2 x3 = some r0) {ls : Array Slot} (hl : lv_has ls 12 [(0, .long x0), (2, .int x2), (3, .int x3)]) : W p l e R s m args below meth c s.heap [] 0 0 Q (F0 m 0 ls []) := by
  obtain ⟨hx, hb, hr, hml, hown, hts, hlocks, hRf, hRl⟩ := id C0
  obtain ⟨tms, hZms, hTms, tmg, hZmg, hTmg, hNW⟩ := id hST
  unfold f_Mo_days_0 at hf
  refine lv_iload_n hx hb d_Mo_days_0 rfl (lv_at hl 1 rfl) ?_
  refine lv_iconst (v := 2) hx hb d_Mo_days_1 (by decide) ?_
  refine lv_icmp_gt (tgt := 11) hx hb d_Mo_days_2 (by decide) (fun c_1 => ?_) (fun c_1 => ?_)
  · have hf := it_t c_1 hf
    refine lv_lload_n hx hb d_Mo_days_11 rfl (lv_at hl 0 rfl) ?_
    exact k_Mo_days_12 C0 hST hK hE hf (lv_sub hl [1, 2] rfl)
  · have hf := it_f c_1 hf
    refine lv_lload_n hx hb d_Mo_days_5 rfl (lv_at hl 0 rfl) ?_
    refine lv_lconst (v := 1) hx hb d_Mo_days_6 (by decide) ?_
    refine lv_lsub hx hb d_Mo_days_7 ?_
    refine lv_goto (tgt := 12) hx hb d_Mo_days_8 (by decide) ?_
    exact k_Mo_days_12 C0 hST hK hE hf (lv_sub hl [1, 2] rfl)
end
set_option maxHeartbeats 400000 in
set_option maxRecDepth 100000 in
theorem c_Mo_days (l : Launch) (dC : Nat → ClassId) (dI : Nat → Nat → Nat) (nf : Nat) (p0 : Int64) (p1 : Int32) (p2 : Int32) {r0 : Int64} (hf : f_Mo_days nf p0 p1 p2 = some r0) : Met l y_Mo_days (wd y_Mo_days b_Mo_days 12 (some .long)) ({ frames := 1, cells := 0, slots := 0, locals := 25 }) (RO dC dI [] [] [.long p0, .int p1, .int p2]) (SV (some (.long r0))) 0 0 (fun _ => False) :=
  met_S (plainFor_of_name (by decide)) (Nat.le_of_ble_eq_true rfl) (fun p e R s m args below meth c ls C0 hST hK hP hl => by
    obtain ⟨hx, hb, hr, hml, hown, hts, hlocks, hRf, hRl⟩ := id C0
    unfold f_Mo_days at hf
    exact k_Mo_days_0 C0 hST hK (fun pc ls hd => W.lret hx hb hr (fun t ht hW => ⟨rfl, ht⟩) (fun q h => by cases h) hd) hf (lv_sub hl [0, 1, 2] rfl))
-- ZoneFilesModel.isLong(J)Z
def f_Mo_isLong_53 (nf : Nat) (s0 : Int32) : Option (Int32) :=
  if s0 = 0 ∨ s0 = 1 then some s0 else none
def f_Mo_isLong_52 (nf : Nat) : Option (Int32) :=
  f_Mo_isLong_53 nf 0
def f_Mo_isLong_48 (nf : Nat) : Option (Int32) :=
  f_Mo_isLong_53 nf 1
def f_Mo_isLong_0 (nf : Nat) (x0 : Int64) : Option (Int32) :=
  (f_Mo_floor nf x0 4).bind fun r_1 =>
  if (r_1 * 4) = x0 then
  (f_Mo_floor nf x0 100).bind fun r_4 =>
    if (r_4 * 100) = x0 then
    (f_Mo_floor nf x0 400).bind fun r_6 =>
      if (r_6 * 400) = x0 then
      f_Mo_isLong_48 nf
      else
      f_Mo_isLong_52 nf
    else
    f_Mo_isLong_48 nf
  else
  f_Mo_isLong_52 nf
def f_Mo_isLong (nf : Nat) (p0 : Int64) : Option (Int32) :=
  f_Mo_isLong_0 nf p0
section
variable {p : Program} {l : Launch} {e : Env} {R : Room} {s : State} {m : MethodId} {args : Array Value} {below : List Frame} {meth : Method} {c : Code} {Q : State → Prop} {dC : Nat → ClassId} {dI : Nat → Nat → Nat} {nf : Nat}
variable {r0 : Int32}
set_option maxHeartbeats 400000 in
set_option maxRecDepth 100000 in
theorem k_Mo_isLong_53 (C0 : Cx p s m meth c args R b_Mo_isLong "ZoneFilesModel" 2 (some .boolean) 1 25) (hST : ST (fun _ => False) s s.heap) (hK : va_K (dC, dI) classes [] s) (hE : ∀ (pc : Nat) (ls : Array Slot), decode b_Mo_isLong pc = .ok (.ireturn, 1) → narrow .boolean (.int r0) = .int r0 → W p l e R s m args below meth c s.heap [] 0 0 Q (F0 m pc ls [.int r0])) {s0 : Int32} (hf : f_Mo_isLong_53 nf s0 = some r0) {ls : Array Slot} (hl : lv_has ls 2 []) : W p l e R s m args below meth c s.heap [] 0 0 Q (F0 m 53 ls [.int s0]) := by
  obtain ⟨hx, hb, hr, hml, hown, hts, hlocks, hRf, hRl⟩ := id C0
  obtain ⟨tms, hZms, hTms, tmg, hZmg, hTmg, hNW⟩ := id hST
  unfold f_Mo_isLong_53 at hf
  obtain ⟨c_3, hf⟩ := it_g hf
  have e := rs hf
  subst e
  exact hE _ _ d_Mo_isLong_53 (nb_of c_3)
set_option maxHeartbeats 400000 in
set_option maxRecDepth 100000 in
theorem k_Mo_isLong_52 (C0 : Cx p s m meth c args R b_Mo_isLong "ZoneFilesModel" 2 (some .boolean) 1 25) (hST : ST (fun _ => False) s s.heap) (hK : va_K (dC, dI) classes [] s) (hE : ∀ (pc : Nat) (ls : Array Slot), decode b_Mo_isLong pc = .ok (.ireturn, 1) → narrow .boolean (.int r0) = .int r0 → W p l e R s m args below meth c s.heap [] 0 0 Q (F0 m pc ls [.int r0])) (hf : f_Mo_isLong_52 nf = some r0) {ls : Array Slot} (hl : lv_has ls 2 []) : W p l e R s m args below meth c s.heap [] 0 0 Q (F0 m 52 ls []) := by
  obtain ⟨hx, hb, hr, hml, hown, hts, hlocks, hRf, hRl⟩ := id C0
  obtain ⟨tms, hZms, hTms, tmg, hZmg, hTmg, hNW⟩ := id hST
  unfold f_Mo_isLong_52 at hf
  refine lv_iconst (v := 0) hx hb d_Mo_isLong_52 (by decide) ?_
  exact k_Mo_isLong_53 C0 hST hK hE hf (lv_sub hl [] rfl)
set_option maxHeartbeats 400000 in
set_option maxRecDepth 100000 in
theorem k_Mo_isLong_48 (C0 : Cx p s m meth c args R b_Mo_isLong "ZoneFilesModel" 2 (some .boolean) 1 25) (hST : ST (fun _ => False) s s.heap) (hK : va_K (dC, dI) classes [] s) (hE : ∀ (pc : Nat) (ls : Array Slot), decode b_Mo_isLong pc = .ok (.ireturn, 1) → narrow .boolean (.int r0) = .int r0 → W p l e R s m args below meth c s.heap [] 0 0 Q (F0 m pc ls [.int r0])) (hf : f_Mo_isLong_48 nf = some r0) {ls : Array Slot} (hl : lv_has ls 2 []) : W p l e R s m args below meth c s.heap [] 0 0 Q (F0 m 48 ls []) := by
  obtain ⟨hx, hb, hr, hml, hown, hts, hlocks, hRf, hRl⟩ := id C0
  obtain ⟨tms, hZms, hTms, tmg, hZmg, hTmg, hNW⟩ := id hST
  unfold f_Mo_isLong_48 at hf
  refine lv_iconst (v := 1) hx hb d_Mo_isLong_48 (by decide) ?_
  refine lv_goto (tgt := 53) hx hb d_Mo_isLong_49 (by decide) ?_
  exact k_Mo_isLong_53 C0 hST hK hE hf (lv_sub hl [] rfl)
set_option maxHeartbeats 400000 in
set_option maxRecDepth 100000 in
theorem k_Mo_isLong_0 (C0 : Cx p s m meth c args R b_Mo_isLong "ZoneFilesModel" 2 (some .boolean) 1 25) (hST : ST (fun _ => False) s s.heap) (hK : va_K (dC, dI) classes [] s) (hE : ∀ (pc : Nat) (ls : Array Slot), decode b_Mo_isLong pc = .ok (.ireturn, 1) → narrow .boolean (.int r0) = .int r0 → W p l e R s m args below meth c s.heap [] 0 0 Q (F0 m pc ls [.int r0])) {x0 : Int64} (hf : f_Mo_isLong_0 nf x0 = some r0) {ls : Array Slot} (hl : lv_has ls 2 [(0, .long x0)]) : W p l e R s m args below meth c s.heap [] 0 0 Q (F0 m 0 ls []) := by
  obtain ⟨hx, hb, hr, hml, hown, hts, hlocks, hRf, hRl⟩ := id C0
  obtain ⟨tms, hZms, hTms, tmg, hZmg, hTmg, hNW⟩ := id hST
  unfold f_Mo_isLong_0 at hf
  refine lv_lload_n hx hb d_Mo_isLong_0 rfl (lv_at hl 0 rfl) ?_
  refine lv_ldc2 (v := 4) hx hb hown (hts (.constantLong "ZoneFilesModel" 263 4) m_7_183) d_Mo_isLong_1 ?_
  obtain ⟨r_1, hc, hf⟩ := ob hf
  refine cl_S (v := (some (.long r_1))) (st1 := [.long r_1]) (va_runS (As := [.long x0, .long 4]) (rest := []) ⟨hx, hb, hml, hown, hts⟩ (c_Mo_floor l dC dI nf x0 4 hc) (va_cwS 2 hts (gdS m_7_225 m_7_226 m_1_10 m_7_227) rfl rfl rfl (by decide +kernel) ⟨Nat.le_trans (Nat.le_of_ble_eq_true rfl) hRf, Nat.le_trans (Nat.le_of_ble_eq_true rfl) hRl⟩) (RO.pre0 hK hST).sta rfl rfl hl.1 rfl (lv_room (Nat.le_of_ble_eq_true rfl)) d_Mo_isLong_4 ⟨Nat.zero_le _, Nat.zero_le _⟩) rfl ?_
  refine lv_ldc2 (v := 4) hx hb hown (hts (.constantLong "ZoneFilesModel" 263 4) m_7_183) d_Mo_isLong_7 ?_
  refine lv_lmul hx hb d_Mo_isLong_10 ?_
  refine lv_lload_n hx hb d_Mo_isLong_11 rfl (lv_at hl 0 rfl) ?_
  refine lc_ne (tgt := 52) hx hb d_Mo_isLong_12 d_Mo_isLong_13 (by decide) (fun c_2 => ?_) (fun c_2 => ?_)
  · have hf := it_f c_2 hf
    exact k_Mo_isLong_52 C0 hST hK hE hf (lv_sub hl [] rfl)
  · have hf := it_t c_2 hf
    refine lv_lload_n hx hb d_Mo_isLong_16 rfl (lv_at hl 0 rfl) ?_
    refine lv_ldc2 (v := 100) hx hb hown (hts (.constantLong "ZoneFilesModel" 296 100) m_7_238) d_Mo_isLong_17 ?_
    obtain ⟨r_4, hc, hf⟩ := ob hf
    refine cl_S (v := (some (.long r_4))) (st1 := [.long r_4]) (va_runS (As := [.long x0, .long 100]) (rest := []) ⟨hx, hb, hml, hown, hts⟩ (c_Mo_floor l dC dI nf x0 100 hc) (va_cwS 2 hts (gdS m_7_225 m_7_226 m_1_10 m_7_227) rfl rfl rfl (by decide +kernel) ⟨Nat.le_trans (Nat.le_of_ble_eq_true rfl) hRf, Nat.le_trans (Nat.le_of_ble_eq_true rfl) hRl⟩) (RO.pre0 hK hST).sta rfl rfl hl.1 rfl (lv_room (Nat.le_of_ble_eq_true rfl)) d_Mo_isLong_20 ⟨Nat.zero_le _, Nat.zero_le _⟩) rfl ?_
    refine lv_ldc2 (v := 100) hx hb hown (hts (.constantLong "ZoneFilesModel" 296 100) m_7_238) d_Mo_isLong_23 ?_
    refine lv_lmul hx hb d_Mo_isLong_26 ?_
    refine lv_lload_n hx hb d_Mo_isLong_27 rfl (lv_at hl 0 rfl) ?_
    refine lc_ne (tgt := 48) hx hb d_Mo_isLong_28 d_Mo_isLong_29 (by decide) (fun c_5 => ?_) (fun c_5 => ?_)
    · have hf := it_f c_5 hf
      exact k_Mo_isLong_48 C0 hST hK hE hf (lv_sub hl [] rfl)
    · have hf := it_t c_5 hf
      refine lv_lload_n hx hb d_Mo_isLong_32 rfl (lv_at hl 0 rfl) ?_
      refine lv_ldc2 (v := 400) hx hb hown (hts (.constantLong "ZoneFilesModel" 298 400) m_8_1) d_Mo_isLong_33 ?_
      obtain ⟨r_6, hc, hf⟩ := ob hf
      refine cl_S (v := (some (.long r_6))) (st1 := [.long r_6]) (va_runS (As := [.long x0, .long 400]) (rest := []) ⟨hx, hb, hml, hown, hts⟩ (c_Mo_floor l dC dI nf x0 400 hc) (va_cwS 2 hts (gdS m_7_225 m_7_226 m_1_10 m_7_227) rfl rfl rfl (by decide +kernel) ⟨Nat.le_trans (Nat.le_of_ble_eq_true rfl) hRf, Nat.le_trans (Nat.le_of_ble_eq_true rfl) hRl⟩) (RO.pre0 hK hST).sta rfl rfl hl.1 rfl (lv_room (Nat.le_of_ble_eq_true rfl)) d_Mo_isLong_36 ⟨Nat.zero_le _, Nat.zero_le _⟩) rfl ?_
      refine lv_ldc2 (v := 400) hx hb hown (hts (.constantLong "ZoneFilesModel" 298 400) m_8_1) d_Mo_isLong_39 ?_
      refine lv_lmul hx hb d_Mo_isLong_42 ?_
      refine lv_lload_n hx hb d_Mo_isLong_43 rfl (lv_at hl 0 rfl) ?_
      refine lc_ne (tgt := 52) hx hb d_Mo_isLong_44 d_Mo_isLong_45 (by decide) (fun c_7 => ?_) (fun c_7 => ?_)
      · have hf := it_f c_7 hf
        exact k_Mo_isLong_52 C0 hST hK hE hf (lv_sub hl [] rfl)
      · have hf := it_t c_7 hf
        exact k_Mo_isLong_48 C0 hST hK hE hf (lv_sub hl [] rfl)
end
set_option maxHeartbeats 400000 in
set_option maxRecDepth 100000 in
theorem c_Mo_isLong (l : Launch) (dC : Nat → ClassId) (dI : Nat → Nat → Nat) (nf : Nat) (p0 : Int64) {r0 : Int32} (hf : f_Mo_isLong nf p0 = some r0) : Met l y_Mo_isLong (wd y_Mo_isLong b_Mo_isLong 2 (some .boolean)) ({ frames := 1, cells := 0, slots := 0, locals := 25 }) (RO dC dI [] [] [.long p0]) (SV (some (.int r0))) 0 0 (fun _ => False) :=
  met_S (plainFor_of_name (by decide)) (Nat.le_of_ble_eq_true rfl) (fun p e R s m args below meth c ls C0 hST hK hP hl => by
    obtain ⟨hx, hb, hr, hml, hown, hts, hlocks, hRf, hRl⟩ := id C0
    unfold f_Mo_isLong at hf
    exact k_Mo_isLong_0 C0 hST hK (fun pc ls hd hn => W.zret hx hb hr hn (fun t ht hW => ⟨rfl, ht⟩) (fun q h => by cases h) hd) hf (lv_sub hl [0] rfl))
-- ZoneFilesModel.length(JI)I
def f_Mo_length_52 (nf : Nat) (s0 : Int32) : Option (Int32) :=
  some s0
def f_Mo_length_45 (nf : Nat) : Option (Int32) :=
  f_Mo_length_52 nf 30
def f_Mo_length_0 (nf : Nat) (x0 : Int64) (x2 : Int32) : Option (Int32) :=
  if x2 = (2 : Int32) then
  (f_Mo_isLong nf x0).bind fun r_6 =>
    if r_6 = 0 then
    f_Mo_length_52 nf 28
    else
    f_Mo_length_52 nf 29
  else
  if x2 = (4 : Int32) then
    f_Mo_length_45 nf
    else
    if x2 = (6 : Int32) then
      f_Mo_length_45 nf
      else
      if x2 = (9 : Int32) then
        f_Mo_length_45 nf
        else
        if x2 = (11 : Int32) then
          f_Mo_length_45 nf
          else
          f_Mo_length_52 nf 31
def f_Mo_length (nf : Nat) (p0 : Int64) (p1 : Int32) : Option (Int32) :=
  f_Mo_length_0 nf p0 p1
section
variable {p : Program} {l : Launch} {e : Env} {R : Room} {s : State} {m : MethodId} {args : Array Value} {below : List Frame} {meth : Method} {c : Code} {Q : State → Prop} {dC : Nat → ClassId} {dI : Nat → Nat → Nat} {nf : Nat}
variable {r0 : Int32}
set_option maxHeartbeats 400000 in
set_option maxRecDepth 100000 in
theorem k_Mo_length_52 (C0 : Cx p s m meth c args R b_Mo_length "ZoneFilesModel" 3 (some .int) 2 46) (hST : ST (fun _ => False) s s.heap) (hK : va_K (dC, dI) classes [] s) (hE : ∀ (pc : Nat) (ls : Array Slot), decode b_Mo_length pc = .ok (.ireturn, 1) → narrow .int (.int r0) = .int r0 → W p l e R s m args below meth c s.heap [] 0 0 Q (F0 m pc ls [.int r0])) {s0 : Int32} (hf : f_Mo_length_52 nf s0 = some r0) {ls : Array Slot} (hl : lv_has ls 3 []) : W p l e R s m args below meth c s.heap [] 0 0 Q (F0 m 52 ls [.int s0]) := by
  obtain ⟨hx, hb, hr, hml, hown, hts, hlocks, hRf, hRl⟩ := id C0
  obtain ⟨tms, hZms, hTms, tmg, hZmg, hTmg, hNW⟩ := id hST
  unfold f_Mo_length_52 at hf
  have e := rs hf
  subst e
  exact hE _ _ d_Mo_length_52 rfl
set_option maxHeartbeats 400000 in
set_option maxRecDepth 100000 in
theorem k_Mo_length_45 (C0 : Cx p s m meth c args R b_Mo_length "ZoneFilesModel" 3 (some .int) 2 46) (hST : ST (fun _ => False) s s.heap) (hK : va_K (dC, dI) classes [] s) (hE : ∀ (pc : Nat) (ls : Array Slot), decode b_Mo_length pc = .ok (.ireturn, 1) → narrow .int (.int r0) = .int r0 → W p l e R s m args below meth c s.heap [] 0 0 Q (F0 m pc ls [.int r0])) (hf : f_Mo_length_45 nf = some r0) {ls : Array Slot} (hl : lv_has ls 3 []) : W p l e R s m args below meth c s.heap [] 0 0 Q (F0 m 45 ls []) := by
  obtain ⟨hx, hb, hr, hml, hown, hts, hlocks, hRf, hRl⟩ := id C0
  obtain ⟨tms, hZms, hTms, tmg, hZmg, hTmg, hNW⟩ := id hST
  unfold f_Mo_length_45 at hf
  refine lv_bipush (v := 30) hx hb d_Mo_length_45 (by decide) ?_
  refine lv_goto (tgt := 52) hx hb d_Mo_length_47 (by decide) ?_
  exact k_Mo_length_52 C0 hST hK hE hf (lv_sub hl [] rfl)
set_option maxHeartbeats 400000 in
set_option maxRecDepth 100000 in
theorem k_Mo_length_0 (C0 : Cx p s m meth c args R b_Mo_length "ZoneFilesModel" 3 (some .int) 2 46) (hST : ST (fun _ => False) s s.heap) (hK : va_K (dC, dI) classes [] s) (hE : ∀ (pc : Nat) (ls : Array Slot), decode b_Mo_length pc = .ok (.ireturn, 1) → narrow .int (.int r0) = .int r0 → W p l e R s m args below meth c s.heap [] 0 0 Q (F0 m pc ls [.int r0])) {x0 : Int64} {x2 : Int32} (hf : f_Mo_length_0 nf x0 x2 = some r0) {ls : Array Slot} (hl : lv_has ls 3 [(0, .long x0), (2, .int x2)]) : W p l e R s m args below meth c s.heap [] 0 0 Q (F0 m 0 ls []) := by
  obtain ⟨hx, hb, hr, hml, hown, hts, hlocks, hRf, hRl⟩ := id C0
  obtain ⟨tms, hZms, hTms, tmg, hZmg, hTmg, hNW⟩ := id hST
  unfold f_Mo_length_0 at hf
  refine lv_iload_n hx hb d_Mo_length_0 rfl (lv_at hl 1 rfl) ?_
  refine lv_iconst (v := 2) hx hb d_Mo_length_1 (by decide) ?_
  refine lv_icmp_ne (tgt := 22) hx hb d_Mo_length_2 (by decide) (fun c_1 => ?_) (fun c_1 => ?_)
  · have hf := it_f c_1 hf
    refine lv_iload_n hx hb d_Mo_length_22 rfl (lv_at hl 1 rfl) ?_
    refine lv_iconst (v := 4) hx hb d_Mo_length_23 (by decide) ?_
    refine lv_icmp_eq (tgt := 45) hx hb d_Mo_length_24 (by decide) (fun c_2 => ?_) (fun c_2 => ?_)
    · have hf := it_t c_2 hf
      exact k_Mo_length_45 C0 hST hK hE hf (lv_sub hl [] rfl)
    · have hf := it_f c_2 hf
      refine lv_iload_n hx hb d_Mo_length_27 rfl (lv_at hl 1 rfl) ?_
      refine lv_bipush (v := 6) hx hb d_Mo_length_28 (by decide) ?_
      refine lv_icmp_eq (tgt := 45) hx hb d_Mo_length_30 (by decide) (fun c_3 => ?_) (fun c_3 => ?_)
      · have hf := it_t c_3 hf
        exact k_Mo_length_45 C0 hST hK hE hf (lv_sub hl [] rfl)
      · have hf := it_f c_3 hf
        refine lv_iload_n hx hb d_Mo_length_33 rfl (lv_at hl 1 rfl) ?_
        refine lv_bipush (v := 9) hx hb d_Mo_length_34 (by decide) ?_
        refine lv_icmp_eq (tgt := 45) hx hb d_Mo_length_36 (by decide) (fun c_4 => ?_) (fun c_4 => ?_)
        · have hf := it_t c_4 hf
          exact k_Mo_length_45 C0 hST hK hE hf (lv_sub hl [] rfl)
        · have hf := it_f c_4 hf
          refine lv_iload_n hx hb d_Mo_length_39 rfl (lv_at hl 1 rfl) ?_
          refine lv_bipush (v := 11) hx hb d_Mo_length_40 (by decide) ?_
          refine lv_icmp_ne (tgt := 50) hx hb d_Mo_length_42 (by decide) (fun c_5 => ?_) (fun c_5 => ?_)
          · have hf := it_f c_5 hf
            refine lv_bipush (v := 31) hx hb d_Mo_length_50 (by decide) ?_
            exact k_Mo_length_52 C0 hST hK hE hf (lv_sub hl [] rfl)
          · have hf := it_t c_5 hf
            exact k_Mo_length_45 C0 hST hK hE hf (lv_sub hl [] rfl)
  · have hf := it_t c_1 hf
    refine lv_lload_n hx hb d_Mo_length_5 rfl (lv_at hl 0 rfl) ?_
    obtain ⟨r_6, hc, hf⟩ := ob hf
    refine cl_S (v := (some (.int r_6))) (st1 := [.int r_6]) (va_runS (As := [.long x0]) (rest := []) ⟨hx, hb, hml, hown, hts⟩ (c_Mo_isLong l dC dI nf x0 hc) (va_cwS 1 hts (gdS m_8_14 m_8_15 m_1_10 m_8_16) rfl rfl rfl (by decide +kernel) ⟨Nat.le_trans (Nat.le_of_ble_eq_true rfl) hRf, Nat.le_trans (Nat.le_of_ble_eq_true rfl) hRl⟩) (RO.pre0 hK hST).sta rfl rfl hl.1 rfl (lv_room (Nat.le_of_ble_eq_true rfl)) d_Mo_length_6 ⟨Nat.zero_le _, Nat.zero_le _⟩) rfl ?_
    refine lv_if_eq (tgt := 17) hx hb d_Mo_length_9 (by decide) (fun c_7 => ?_) (fun c_7 => ?_)
    · have hf := it_t c_7 hf
      refine lv_bipush (v := 28) hx hb d_Mo_length_17 (by decide) ?_
      refine lv_goto (tgt := 52) hx hb d_Mo_length_19 (by decide) ?_
      exact k_Mo_length_52 C0 hST hK hE hf (lv_sub hl [] rfl)
    · have hf := it_f c_7 hf
      refine lv_bipush (v := 29) hx hb d_Mo_length_12 (by decide) ?_
      refine lv_goto (tgt := 52) hx hb d_Mo_length_14 (by decide) ?_
      exact k_Mo_length_52 C0 hST hK hE hf (lv_sub hl [] rfl)
end
set_option maxHeartbeats 400000 in
set_option maxRecDepth 100000 in
theorem c_Mo_length (l : Launch) (dC : Nat → ClassId) (dI : Nat → Nat → Nat) (nf : Nat) (p0 : Int64) (p1 : Int32) {r0 : Int32} (hf : f_Mo_length nf p0 p1 = some r0) : Met l y_Mo_length (wd y_Mo_length b_Mo_length 3 (some .int)) ({ frames := 2, cells := 0, slots := 0, locals := 46 }) (RO dC dI [] [] [.long p0, .int p1]) (SV (some (.int r0))) 0 0 (fun _ => False) :=
  met_S (plainFor_of_name (by decide)) (Nat.le_of_ble_eq_true rfl) (fun p e R s m args below meth c ls C0 hST hK hP hl => by
    obtain ⟨hx, hb, hr, hml, hown, hts, hlocks, hRf, hRl⟩ := id C0
    unfold f_Mo_length at hf
    exact k_Mo_length_0 C0 hST hK (fun pc ls hd hn => W.zret hx hb hr hn (fun t ht hW => ⟨rfl, ht⟩) (fun q h => by cases h) hd) hf (lv_sub hl [0, 1] rfl))
-- ZoneFilesModel.weekday(J)I
def f_Mo_weekday_0 (nf : Nat) (x0 : Int64) : Option (Int32) :=
  (f_Mo_floor nf (x0 + 4) 7).bind fun r_1 =>
  some (((x0 + 4) - (r_1 * 7)).toInt32)
def f_Mo_weekday (nf : Nat) (p0 : Int64) : Option (Int32) :=
  f_Mo_weekday_0 nf p0
section
variable {p : Program} {l : Launch} {e : Env} {R : Room} {s : State} {m : MethodId} {args : Array Value} {below : List Frame} {meth : Method} {c : Code} {Q : State → Prop} {dC : Nat → ClassId} {dI : Nat → Nat → Nat} {nf : Nat}
variable {r0 : Int32}
set_option maxHeartbeats 400000 in
set_option maxRecDepth 100000 in
theorem k_Mo_weekday_0 (C0 : Cx p s m meth c args R b_Mo_weekday "ZoneFilesModel" 4 (some .int) 1 25) (hST : ST (fun _ => False) s s.heap) (hK : va_K (dC, dI) classes [] s) (hE : ∀ (pc : Nat) (ls : Array Slot), decode b_Mo_weekday pc = .ok (.ireturn, 1) → narrow .int (.int r0) = .int r0 → W p l e R s m args below meth c s.heap [] 0 0 Q (F0 m pc ls [.int r0])) {x0 : Int64} (hf : f_Mo_weekday_0 nf x0 = some r0) {ls : Array Slot} (hl : lv_has ls 4 [(0, .long x0)]) : W p l e R s m args below meth c s.heap [] 0 0 Q (F0 m 0 ls []) := by
  obtain ⟨hx, hb, hr, hml, hown, hts, hlocks, hRf, hRl⟩ := id C0
  obtain ⟨tms, hZms, hTms, tmg, hZmg, hTmg, hNW⟩ := id hST
  unfold f_Mo_weekday_0 at hf
  refine lv_lload_n hx hb d_Mo_weekday_0 rfl (lv_at hl 0 rfl) ?_
  refine lv_ldc2 (v := 4) hx hb hown (hts (.constantLong "ZoneFilesModel" 263 4) m_7_183) d_Mo_weekday_1 ?_
  refine lv_ladd hx hb d_Mo_weekday_4 ?_
  refine lv_lstore_n (lv' := [(2, .long (x0 + 4)), (0, .long x0)]) hx hb d_Mo_weekday_5 rfl hl (by decide) rfl (fun ls hl => ?_)
  refine lv_lload_n hx hb d_Mo_weekday_6 rfl (lv_at hl 0 rfl) ?_
  refine lv_lload_n hx hb d_Mo_weekday_7 rfl (lv_at hl 0 rfl) ?_
  refine lv_ldc2 (v := 7) hx hb hown (hts (.constantLong "ZoneFilesModel" 329 7) m_8_20) d_Mo_weekday_8 ?_
  obtain ⟨r_1, hc, hf⟩ := ob hf
  refine cl_S (v := (some (.long r_1))) (st1 := [.long r_1, .long (x0 + 4)]) (va_runS (As := [.long (x0 + 4), .long 7]) (rest := [.long (x0 + 4)]) ⟨hx, hb, hml, hown, hts⟩ (c_Mo_floor l dC dI nf (x0 + 4) 7 hc) (va_cwS 2 hts (gdS m_7_225 m_7_226 m_1_10 m_7_227) rfl rfl rfl (by decide +kernel) ⟨Nat.le_trans (Nat.le_of_ble_eq_true rfl) hRf, Nat.le_trans (Nat.le_of_ble_eq_true rfl) hRl⟩) (RO.pre0 hK hST).sta rfl rfl hl.1 rfl (lv_room (Nat.le_of_ble_eq_true rfl)) d_Mo_weekday_11 ⟨Nat.zero_le _, Nat.zero_le _⟩) rfl ?_
  refine lv_ldc2 (v := 7) hx hb hown (hts (.constantLong "ZoneFilesModel" 329 7) m_8_20) d_Mo_weekday_14 ?_
  refine lv_lmul hx hb d_Mo_weekday_17 ?_
  refine lv_lsub hx hb d_Mo_weekday_18 ?_
  refine lv_l2i hx hb d_Mo_weekday_19 rfl ?_
  have e := rs hf
  subst e
  exact hE _ _ d_Mo_weekday_20 rfl
end
set_option maxHeartbeats 400000 in
set_option maxRecDepth 100000 in
theorem c_Mo_weekday (l : Launch) (dC : Nat → ClassId) (dI : Nat → Nat → Nat) (nf : Nat) (p0 : Int64) {r0 : Int32} (hf : f_Mo_weekday nf p0 = some r0) : Met l y_Mo_weekday (wd y_Mo_weekday b_Mo_weekday 4 (some .int)) ({ frames := 1, cells := 0, slots := 0, locals := 25 }) (RO dC dI [] [] [.long p0]) (SV (some (.int r0))) 0 0 (fun _ => False) :=
  met_S (plainFor_of_name (by decide)) (Nat.le_of_ble_eq_true rfl) (fun p e R s m args below meth c ls C0 hST hK hP hl => by
    obtain ⟨hx, hb, hr, hml, hown, hts, hlocks, hRf, hRl⟩ := id C0
    unfold f_Mo_weekday at hf
    exact k_Mo_weekday_0 C0 hST hK (fun pc ls hd hn => W.zret hx hb hr hn (fun t ht hW => ⟨rfl, ht⟩) (fun q h => by cases h) hd) hf (lv_sub hl [0] rfl))
-- ZoneFilesModel.ruleDay(IJ)J
def f_Mo_ruleDay_154 (nf : Nat) (s0 : Int64) (s1 : Int64) : Option (Int64) :=
  some (s1 + s0)
def f_Mo_ruleDay_54 (nf : Nat) (s0 : Int64) (s1 : Int64) : Option (Int64) :=
  some (s1 + s0)
def f_Mo_ruleDay_53 (nf : Nat) (s0 : Int64) : Option (Int64) :=
  f_Mo_ruleDay_54 nf 0 s0
def f_Mo_ruleDay_0 (nf : Nat) (sa : Nat → Nat → Int32) (x1 : Int32) (x2 : Int64) : Option (Int64) :=
  (f_Mo_days nf x2 1 1).bind fun r_1 =>
  if x1 < 0 ∨ 10 ≤ x1.toNatClampNeg then none else
  if (sa 27 x1.toNatClampNeg) = (74 : Int32) then
  if x1 < 0 ∨ 10 ≤ x1.toNatClampNeg then none else
    (f_Mo_isLong nf x2).bind fun r_16 =>
    if r_16 = 0 then
    f_Mo_ruleDay_53 nf ((r_1 + ((sa 28 x1.toNatClampNeg).toInt64)) - 1)
    else
    if x1 < 0 ∨ 10 ≤ x1.toNatClampNeg then none else
      if (sa 28 x1.toNatClampNeg) < (60 : Int32) then
      f_Mo_ruleDay_53 nf ((r_1 + ((sa 28 x1.toNatClampNeg).toInt64)) - 1)
      else
      f_Mo_ruleDay_54 nf 1 ((r_1 + ((sa 28 x1.toNatClampNeg).toInt64)) - 1)
  else
  if x1 < 0 ∨ 10 ≤ x1.toNatClampNeg then none else
    if (sa 27 x1.toNatClampNeg) = 0 then
    if x1 < 0 ∨ 10 ≤ x1.toNatClampNeg then none else
      some (r_1 + ((sa 28 x1.toNatClampNeg).toInt64))
    else
    if x1 < 0 ∨ 10 ≤ x1.toNatClampNeg then none else
      (f_Mo_days nf x2 (sa 28 x1.toNatClampNeg) 1).bind fun r_7 =>
      if x1 < 0 ∨ 10 ≤ x1.toNatClampNeg then none else
      (f_Mo_weekday nf r_7).bind fun r_9 =>
      if x1 < 0 ∨ 10 ≤ x1.toNatClampNeg then none else
      if x1 < 0 ∨ 10 ≤ x1.toNatClampNeg then none else
      (f_Mo_length nf x2 (sa 28 x1.toNatClampNeg)).bind fun r_12 =>
      if ((((((sa 30 x1.toNatClampNeg) - r_9) + 7) - (((sa 30 x1.toNatClampNeg) - r_9) + 7) / 7 * 7).toInt64) + (7 * (((sa 29 x1.toNatClampNeg) - 1).toInt64))) < r_12.toInt64 then
      f_Mo_ruleDay_154 nf ((((((sa 30 x1.toNatClampNeg) - r_9) + 7) - (((sa 30 x1.toNatClampNeg) - r_9) + 7) / 7 * 7).toInt64) + (7 * (((sa 29 x1.toNatClampNeg) - 1).toInt64))) r_7
      else
      f_Mo_ruleDay_154 nf (((((((sa 30 x1.toNatClampNeg) - r_9) + 7) - (((sa 30 x1.toNatClampNeg) - r_9) + 7) / 7 * 7).toInt64) + (7 * (((sa 29 x1.toNatClampNeg) - 1).toInt64))) - 7) r_7
def f_Mo_ruleDay (nf : Nat) (p0 : Int32) (p1 : Int64) (si : Nat → Int32) (sj : Nat → Int64) (sa : Nat → Nat → Int32) (sb : Nat → Nat → Int64) : Option (Int64) :=
  f_Mo_ruleDay_0 nf sa p0 p1
section
variable {p : Program} {l : Launch} {e : Env} {R : Room} {s : State} {m : MethodId} {args : Array Value} {below : List Frame} {meth : Method} {c : Code} {Q : State → Prop} {dC : Nat → ClassId} {dI : Nat → Nat → Nat} {nf : Nat} {A : Nat → Prop} {h0 : Nat} {r : Nat → Nat} {cA : Nat → ClassId}
variable {si : Nat → Int32} {sj : Nat → Int64} {sa : Nat → Nat → Int32} {sb : Nat → Nat → Int64} {r0 : Int64}
set_option maxHeartbeats 400000 in
set_option maxRecDepth 100000 in
theorem k_Mo_ruleDay_154 (C0 : Cx p s m meth c args R b_Mo_ruleDay "ZoneFilesModel" 10 (some .long) 3 68) (hST : ST (fun _ => False) s s.heap) (hK : va_K (dC, dI) classes (moT cA) s) (hP : va_P (dC, dI) classes (moW h0 r cA si sj sa sb) s.heap) (hE : ∀ (pc : Nat) (ls : Array Slot), decode b_Mo_ruleDay pc = .ok (.lreturn, 1) → W p l e R s m args below meth c s.heap [] 0 0 Q (F0 m pc ls [.long r0])) {s0 : Int64} {s1 : Int64} (hf : f_Mo_ruleDay_154 nf s0 s1 = some r0) {ls : Array Slot} (hl : lv_has ls 10 []) : W p l e R s m args below meth c s.heap [] 0 0 Q (F0 m 154 ls [.long s0, .long s1]) := by
  obtain ⟨hx, hb, hr, hml, hown, hts, hlocks, hRf, hRl⟩ := id C0
  obtain ⟨tms, hZms, hTms, tmg, hZmg, hTmg, hNW⟩ := id hST
  unfold f_Mo_ruleDay_154 at hf
  refine lv_ladd hx hb d_Mo_ruleDay_154 ?_
  cases rs hf
  exact hE _ _ d_Mo_ruleDay_155
set_option maxHeartbeats 400000 in
set_option maxRecDepth 100000 in
theorem k_Mo_ruleDay_54 (C0 : Cx p s m meth c args R b_Mo_ruleDay "ZoneFilesModel" 10 (some .long) 3 68) (hST : ST (fun _ => False) s s.heap) (hK : va_K (dC, dI) classes (moT cA) s) (hP : va_P (dC, dI) classes (moW h0 r cA si sj sa sb) s.heap) (hE : ∀ (pc : Nat) (ls : Array Slot), decode b_Mo_ruleDay pc = .ok (.lreturn, 1) → W p l e R s m args below meth c s.heap [] 0 0 Q (F0 m pc ls [.long r0])) {s0 : Int64} {s1 : Int64} (hf : f_Mo_ruleDay_54 nf s0 s1 = some r0) {ls : Array Slot} (hl : lv_has ls 10 []) : W p l e R s m args below meth c s.heap [] 0 0 Q (F0 m 54 ls [.long s0, .long s1]) := by
  obtain ⟨hx, hb, hr, hml, hown, hts, hlocks, hRf, hRl⟩ := id C0
  obtain ⟨tms, hZms, hTms, tmg, hZmg, hTmg, hNW⟩ := id hST
  unfold f_Mo_ruleDay_54 at hf
  refine lv_ladd hx hb d_Mo_ruleDay_54 ?_
  cases rs hf
  exact hE _ _ d_Mo_ruleDay_55
set_option maxHeartbeats 400000 in
set_option maxRecDepth 100000 in
theorem k_Mo_ruleDay_53 (C0 : Cx p s m meth c args R b_Mo_ruleDay "ZoneFilesModel" 10 (some .long) 3 68) (hST : ST (fun _ => False) s s.heap) (hK : va_K (dC, dI) classes (moT cA) s) (hP : va_P (dC, dI) classes (moW h0 r cA si sj sa sb) s.heap) (hE : ∀ (pc : Nat) (ls : Array Slot), decode b_Mo_ruleDay pc = .ok (.lreturn, 1) → W p l e R s m args below meth c s.heap [] 0 0 Q (F0 m pc ls [.long r0])) {s0 : Int64} (hf : f_Mo_ruleDay_53 nf s0 = some r0) {ls : Array Slot} (hl : lv_has ls 10 []) : W p l e R s m args below meth c s.heap [] 0 0 Q (F0 m 53 ls [.long s0]) := by
  obtain ⟨hx, hb, hr, hml, hown, hts, hlocks, hRf, hRl⟩ := id C0
  obtain ⟨tms, hZms, hTms, tmg, hZmg, hTmg, hNW⟩ := id hST
  unfold f_Mo_ruleDay_53 at hf
  refine lv_lconst (v := 0) hx hb d_Mo_ruleDay_53 (by decide) ?_
  exact k_Mo_ruleDay_54 C0 hST hK hP hE hf (lv_sub hl [] rfl)
set_option maxHeartbeats 400000 in
set_option maxRecDepth 100000 in
theorem k_Mo_ruleDay_0 (C0 : Cx p s m meth c args R b_Mo_ruleDay "ZoneFilesModel" 10 (some .long) 3 68) (hST : ST (fun _ => False) s s.heap) (hK : va_K (dC, dI) classes (moT cA) s) (hP : va_P (dC, dI) classes (moW h0 r cA si sj sa sb) s.heap) (hE : ∀ (pc : Nat) (ls : Array Slot), decode b_Mo_ruleDay pc = .ok (.lreturn, 1) → W p l e R s m args below meth c s.heap [] 0 0 Q (F0 m pc ls [.long r0])) {x1 : Int32} {x2 : Int64} (hf : f_Mo_ruleDay_0 nf sa x1 x2 = some r0) {ls : Array Slot} (hl : lv_has ls 10 [(0, .ref h0), (1, .int x1), (2, .long x2)]) : W p l e R s m args below meth c s.heap [] 0 0 Q (F0 m 0 ls []) := by
  obtain ⟨hx, hb, hr, hml, hown, hts, hlocks, hRf, hRl⟩ := id C0
  obtain ⟨tms, hZms, hTms, tmg, hZmg, hTmg, hNW⟩ := id hST
  unfold f_Mo_ruleDay_0 at hf
  refine lv_lload_n hx hb d_Mo_ruleDay_0 rfl (lv_at hl 2 rfl) ?_
  refine lv_iconst (v := 1) hx hb d_Mo_ruleDay_1 (by decide) ?_
  refine lv_iconst (v := 1) hx hb d_Mo_ruleDay_2 (by decide) ?_
  obtain ⟨r_1, hc, hf⟩ := ob hf
  refine cl_S (v := (some (.long r_1))) (st1 := [.long r_1]) (va_runS (As := [.long x2, .int 1, .int 1]) (rest := []) ⟨hx, hb, hml, hown, hts⟩ (c_Mo_days l dC dI nf x2 1 1 hc) (va_cwS 3 hts (gdS m_8_11 m_8_12 m_1_10 m_8_13) rfl rfl rfl (by decide +kernel) ⟨Nat.le_trans (Nat.le_of_ble_eq_true rfl) hRf, Nat.le_trans (Nat.le_of_ble_eq_true rfl) hRl⟩) (RO.pre0 hK hST).sta rfl rfl hl.1 rfl (lv_room (Nat.le_of_ble_eq_true rfl)) d_Mo_ruleDay_3 ⟨Nat.zero_le _, Nat.zero_le _⟩) rfl ?_
  refine lv_lstore (lv' := [(4, .long r_1), (0, .ref h0), (1, .int x1), (2, .long x2)]) hx hb d_Mo_ruleDay_6 hl (by decide) rfl (fun ls hl => ?_)
  refine lv_aload_n hx hb d_Mo_ruleDay_8 rfl (lv_at hl 1 rfl) ?_
  refine mg_27 hx hb hts hown hK hP d_Mo_ruleDay_9 ?_
  refine lv_iload_n hx hb d_Mo_ruleDay_12 rfl (lv_at hl 2 rfl) ?_
  obtain ⟨c_2, hf⟩ := it_n hf
  refine ma_27 (v := sa 27 x1.toNatClampNeg) hx hb hK hP c_2 rfl d_Mo_ruleDay_13 ?_
  refine lv_bipush (v := 74) hx hb d_Mo_ruleDay_14 (by decide) ?_
  refine lv_icmp_ne (tgt := 56) hx hb d_Mo_ruleDay_16 (by decide) (fun c_3 => ?_) (fun c_3 => ?_)
  · have hf := it_f c_3 hf
    refine lv_aload_n hx hb d_Mo_ruleDay_56 rfl (lv_at hl 1 rfl) ?_
    refine mg_27 hx hb hts hown hK hP d_Mo_ruleDay_57 ?_
    refine lv_iload_n hx hb d_Mo_ruleDay_60 rfl (lv_at hl 2 rfl) ?_
    obtain ⟨c_4, hf⟩ := it_n hf
    refine ma_27 (v := sa 27 x1.toNatClampNeg) hx hb hK hP c_4 rfl d_Mo_ruleDay_61 ?_
    refine lv_if_ne (tgt := 76) hx hb d_Mo_ruleDay_62 (by decide) (fun c_5 => ?_) (fun c_5 => ?_)
    · have hf := it_f c_5 hf
      refine lv_lload_n hx hb d_Mo_ruleDay_76 rfl (lv_at hl 3 rfl) ?_
      refine lv_aload_n hx hb d_Mo_ruleDay_77 rfl (lv_at hl 1 rfl) ?_
      refine mg_28 hx hb hts hown hK hP d_Mo_ruleDay_78 ?_
      refine lv_iload_n hx hb d_Mo_ruleDay_81 rfl (lv_at hl 2 rfl) ?_
      obtain ⟨c_6, hf⟩ := it_n hf
      refine ma_28 (v := sa 28 x1.toNatClampNeg) hx hb hK hP c_6 rfl d_Mo_ruleDay_82 ?_
      refine lv_iconst (v := 1) hx hb d_Mo_ruleDay_83 (by decide) ?_
      obtain ⟨r_7, hc, hf⟩ := ob hf
      refine cl_S (v := (some (.long r_7))) (st1 := [.long r_7]) (va_runS (As := [.long x2, .int (sa 28 x1.toNatClampNeg), .int 1]) (rest := []) ⟨hx, hb, hml, hown, hts⟩ (c_Mo_days l dC dI nf x2 (sa 28 x1.toNatClampNeg) 1 hc) (va_cwS 3 hts (gdS m_8_11 m_8_12 m_1_10 m_8_13) rfl rfl rfl (by decide +kernel) ⟨Nat.le_trans (Nat.le_of_ble_eq_true rfl) hRf, Nat.le_trans (Nat.le_of_ble_eq_true rfl) hRl⟩) (RO.pre0 hK hST).sta rfl rfl hl.1 rfl (lv_room (Nat.le_of_ble_eq_true rfl)) d_Mo_ruleDay_84 ⟨Nat.zero_le _, Nat.zero_le _⟩) rfl ?_
      refine lv_lstore (lv' := [(6, .long r_7), (4, .long r_1), (0, .ref h0), (1, .int x1), (2, .long x2)]) hx hb d_Mo_ruleDay_87 hl (by decide) rfl (fun ls hl => ?_)
      refine lv_aload_n hx hb d_Mo_ruleDay_89 rfl (lv_at hl 2 rfl) ?_
      refine mg_30 hx hb hts hown hK hP d_Mo_ruleDay_90 ?_
      refine lv_iload_n hx hb d_Mo_ruleDay_93 rfl (lv_at hl 3 rfl) ?_
      obtain ⟨c_8, hf⟩ := it_n hf
      refine ma_30 (v := sa 30 x1.toNatClampNeg) hx hb hK hP c_8 rfl d_Mo_ruleDay_94 ?_
      refine lv_lload hx hb d_Mo_ruleDay_95 (lv_at hl 0 rfl) ?_
      obtain ⟨r_9, hc, hf⟩ := ob hf
      refine cl_S (v := (some (.int r_9))) (st1 := [.int r_9, .int (sa 30 x1.toNatClampNeg)]) (va_runS (As := [.long r_7]) (rest := [.int (sa 30 x1.toNatClampNeg)]) ⟨hx, hb, hml, hown, hts⟩ (c_Mo_weekday l dC dI nf r_7 hc) (va_cwS 1 hts (gdS m_8_17 m_8_18 m_1_10 m_8_19) rfl rfl rfl (by decide +kernel) ⟨Nat.le_trans (Nat.le_of_ble_eq_true rfl) hRf, Nat.le_trans (Nat.le_of_ble_eq_true rfl) hRl⟩) (RO.pre0 hK hST).sta rfl rfl hl.1 rfl (lv_room (Nat.le_of_ble_eq_true rfl)) d_Mo_ruleDay_97 ⟨Nat.zero_le _, Nat.zero_le _⟩) rfl ?_
      refine lv_isub hx hb d_Mo_ruleDay_100 ?_
      refine lv_bipush (v := 7) hx hb d_Mo_ruleDay_101 (by decide) ?_
      refine lv_iadd hx hb d_Mo_ruleDay_103 ?_
      refine lv_bipush (v := 7) hx hb d_Mo_ruleDay_104 (by decide) ?_
      refine lv_irem hx hb d_Mo_ruleDay_106 (by decide) ?_
      refine lv_i2l hx hb d_Mo_ruleDay_107 rfl ?_
      refine lv_ldc2 (v := 7) hx hb hown (hts (.constantLong "ZoneFilesModel" 329 7) m_8_20) d_Mo_ruleDay_108 ?_
      refine lv_aload_n hx hb d_Mo_ruleDay_111 rfl (lv_at hl 2 rfl) ?_
      refine mg_29 hx hb hts hown hK hP d_Mo_ruleDay_112 ?_
      refine lv_iload_n hx hb d_Mo_ruleDay_115 rfl (lv_at hl 3 rfl) ?_
      obtain ⟨c_10, hf⟩ := it_n hf
      refine ma_29 (v := sa 29 x1.toNatClampNeg) hx hb hK hP c_10 rfl d_Mo_ruleDay_116 ?_
      refine lv_iconst (v := 1) hx hb d_Mo_ruleDay_117 (by decide) ?_
      refine lv_isub hx hb d_Mo_ruleDay_118 ?_
      refine lv_i2l hx hb d_Mo_ruleDay_119 rfl ?_
      refine lv_lmul hx hb d_Mo_ruleDay_120 ?_
      refine lv_ladd hx hb d_Mo_ruleDay_121 ?_
      refine lv_lstore (lv' := [(8, .long ((((((sa 30 x1.toNatClampNeg) - r_9) + 7) - (((sa 30 x1.toNatClampNeg) - r_9) + 7) / 7 * 7).toInt64) + (7 * (((sa 29 x1.toNatClampNeg) - 1).toInt64)))), (6, .long r_7), (4, .long r_1), (0, .ref h0), (1, .int x1), (2, .long x2)]) hx hb d_Mo_ruleDay_122 hl (by decide) rfl (fun ls hl => ?_)
      refine lv_lload hx hb d_Mo_ruleDay_124 (lv_at hl 1 rfl) ?_
      refine lv_lload hx hb d_Mo_ruleDay_126 (lv_at hl 0 rfl) ?_
      refine lv_lload_n hx hb d_Mo_ruleDay_128 rfl (lv_at hl 5 rfl) ?_
      refine lv_aload_n hx hb d_Mo_ruleDay_129 rfl (lv_at hl 3 rfl) ?_
      refine mg_28 hx hb hts hown hK hP d_Mo_ruleDay_130 ?_
      refine lv_iload_n hx hb d_Mo_ruleDay_133 rfl (lv_at hl 4 rfl) ?_
      obtain ⟨c_11, hf⟩ := it_n hf
      refine ma_28 (v := sa 28 x1.toNatClampNeg) hx hb hK hP c_11 rfl d_Mo_ruleDay_134 ?_
      obtain ⟨r_12, hc, hf⟩ := ob hf
      refine cl_S (v := (some (.int r_12))) (st1 := [.int r_12, .long ((((((sa 30 x1.toNatClampNeg) - r_9) + 7) - (((sa 30 x1.toNatClampNeg) - r_9) + 7) / 7 * 7).toInt64) + (7 * (((sa 29 x1.toNatClampNeg) - 1).toInt64))), .long r_7]) (va_runS (As := [.long x2, .int (sa 28 x1.toNatClampNeg)]) (rest := [.long ((((((sa 30 x1.toNatClampNeg) - r_9) + 7) - (((sa 30 x1.toNatClampNeg) - r_9) + 7) / 7 * 7).toInt64) + (7 * (((sa 29 x1.toNatClampNeg) - 1).toInt64))), .long r_7]) ⟨hx, hb, hml, hown, hts⟩ (c_Mo_length l dC dI nf x2 (sa 28 x1.toNatClampNeg) hc) (va_cwS 2 hts (gdS m_8_21 m_8_22 m_1_10 m_8_23) rfl rfl rfl (by decide +kernel) ⟨Nat.le_trans (Nat.le_of_ble_eq_true rfl) hRf, Nat.le_trans (Nat.le_of_ble_eq_true rfl) hRl⟩) (RO.pre0 hK hST).sta rfl rfl hl.1 rfl (lv_room (Nat.le_of_ble_eq_true rfl)) d_Mo_ruleDay_135 ⟨Nat.zero_le _, Nat.zero_le _⟩) rfl ?_
      refine lv_i2l hx hb d_Mo_ruleDay_138 rfl ?_
      refine lc_lt (tgt := 152) hx hb d_Mo_ruleDay_139 d_Mo_ruleDay_140 (by decide) (fun c_13 => ?_) (fun c_13 => ?_)
      · have hf := it_t c_13 hf
        refine lv_lload hx hb d_Mo_ruleDay_152 (lv_at hl 0 rfl) ?_
        exact k_Mo_ruleDay_154 C0 hST hK hP hE hf (lv_sub hl [] rfl)
      · have hf := it_f c_13 hf
        refine lv_lload hx hb d_Mo_ruleDay_143 (lv_at hl 0 rfl) ?_
        refine lv_ldc2 (v := 7) hx hb hown (hts (.constantLong "ZoneFilesModel" 329 7) m_8_20) d_Mo_ruleDay_145 ?_
        refine lv_lsub hx hb d_Mo_ruleDay_148 ?_
        refine lv_goto (tgt := 154) hx hb d_Mo_ruleDay_149 (by decide) ?_
        exact k_Mo_ruleDay_154 C0 hST hK hP hE hf (lv_sub hl [] rfl)
    · have hf := it_t c_5 hf
      refine lv_lload hx hb d_Mo_ruleDay_65 (lv_at hl 0 rfl) ?_
      refine lv_aload_n hx hb d_Mo_ruleDay_67 rfl (lv_at hl 1 rfl) ?_
      refine mg_28 hx hb hts hown hK hP d_Mo_ruleDay_68 ?_
      refine lv_iload_n hx hb d_Mo_ruleDay_71 rfl (lv_at hl 2 rfl) ?_
      obtain ⟨c_14, hf⟩ := it_n hf
      refine ma_28 (v := sa 28 x1.toNatClampNeg) hx hb hK hP c_14 rfl d_Mo_ruleDay_72 ?_
      refine lv_i2l hx hb d_Mo_ruleDay_73 rfl ?_
      refine lv_ladd hx hb d_Mo_ruleDay_74 ?_
      cases rs hf
      exact hE _ _ d_Mo_ruleDay_75
  · have hf := it_t c_3 hf
    refine lv_lload hx hb d_Mo_ruleDay_19 (lv_at hl 0 rfl) ?_
    refine lv_aload_n hx hb d_Mo_ruleDay_21 rfl (lv_at hl 1 rfl) ?_
    refine mg_28 hx hb hts hown hK hP d_Mo_ruleDay_22 ?_
    refine lv_iload_n hx hb d_Mo_ruleDay_25 rfl (lv_at hl 2 rfl) ?_
    obtain ⟨c_15, hf⟩ := it_n hf
    refine ma_28 (v := sa 28 x1.toNatClampNeg) hx hb hK hP c_15 rfl d_Mo_ruleDay_26 ?_
    refine lv_i2l hx hb d_Mo_ruleDay_27 rfl ?_
    refine lv_ladd hx hb d_Mo_ruleDay_28 ?_
    refine lv_lconst (v := 1) hx hb d_Mo_ruleDay_29 (by decide) ?_
    refine lv_lsub hx hb d_Mo_ruleDay_30 ?_
    refine lv_lload_n hx hb d_Mo_ruleDay_31 rfl (lv_at hl 3 rfl) ?_
    obtain ⟨r_16, hc, hf⟩ := ob hf
    refine cl_S (v := (some (.int r_16))) (st1 := [.int r_16, .long ((r_1 + ((sa 28 x1.toNatClampNeg).toInt64)) - 1)]) (va_runS (As := [.long x2]) (rest := [.long ((r_1 + ((sa 28 x1.toNatClampNeg).toInt64)) - 1)]) ⟨hx, hb, hml, hown, hts⟩ (c_Mo_isLong l dC dI nf x2 hc) (va_cwS 1 hts (gdS m_8_14 m_8_15 m_1_10 m_8_16) rfl rfl rfl (by decide +kernel) ⟨Nat.le_trans (Nat.le_of_ble_eq_true rfl) hRf, Nat.le_trans (Nat.le_of_ble_eq_true rfl) hRl⟩) (RO.pre0 hK hST).sta rfl rfl hl.1 rfl (lv_room (Nat.le_of_ble_eq_true rfl)) d_Mo_ruleDay_32 ⟨Nat.zero_le _, Nat.zero_le _⟩) rfl ?_
    refine lv_if_eq (tgt := 53) hx hb d_Mo_ruleDay_35 (by decide) (fun c_17 => ?_) (fun c_17 => ?_)
    · have hf := it_t c_17 hf
      exact k_Mo_ruleDay_53 C0 hST hK hP hE hf (lv_sub hl [] rfl)
    · have hf := it_f c_17 hf
      refine lv_aload_n hx hb d_Mo_ruleDay_38 rfl (lv_at hl 1 rfl) ?_
      refine mg_28 hx hb hts hown hK hP d_Mo_ruleDay_39 ?_
      refine lv_iload_n hx hb d_Mo_ruleDay_42 rfl (lv_at hl 2 rfl) ?_
      obtain ⟨c_18, hf⟩ := it_n hf
      refine ma_28 (v := sa 28 x1.toNatClampNeg) hx hb hK hP c_18 rfl d_Mo_ruleDay_43 ?_
      refine lv_bipush (v := 60) hx hb d_Mo_ruleDay_44 (by decide) ?_
      refine lv_icmp_lt (tgt := 53) hx hb d_Mo_ruleDay_46 (by decide) (fun c_19 => ?_) (fun c_19 => ?_)
      · have hf := it_t c_19 hf
        exact k_Mo_ruleDay_53 C0 hST hK hP hE hf (lv_sub hl [] rfl)
      · have hf := it_f c_19 hf
        refine lv_lconst (v := 1) hx hb d_Mo_ruleDay_49 (by decide) ?_
        refine lv_goto (tgt := 54) hx hb d_Mo_ruleDay_50 (by decide) ?_
        exact k_Mo_ruleDay_54 C0 hST hK hP hE hf (lv_sub hl [] rfl)
end
set_option maxHeartbeats 400000 in
set_option maxRecDepth 100000 in
theorem c_Mo_ruleDay (l : Launch) (dC : Nat → ClassId) (dI : Nat → Nat → Nat) (h0 : Nat) (r : Nat → Nat) (cA : Nat → ClassId) (nf : Nat) (p0 : Int32) (p1 : Int64) (si : Nat → Int32) (sj : Nat → Int64) (sa : Nat → Nat → Int32) (sb : Nat → Nat → Int64) {r0 : Int64} (hf : f_Mo_ruleDay nf p0 p1 si sj sa sb = some r0) : Met l y_Mo_ruleDay (wd y_Mo_ruleDay b_Mo_ruleDay 10 (some .long)) ({ frames := 3, cells := 0, slots := 0, locals := 68 }) (RO dC dI (moW h0 r cA si sj sa sb) (moT cA) [.ref h0, .int p0, .long p1]) (SV (some (.long r0))) 0 0 (fun _ => False) :=
  met_S (plainFor_of_name (by decide)) (Nat.le_of_ble_eq_true rfl) (fun p e R s m args below meth c ls C0 hST hK hP hl => by
    obtain ⟨hx, hb, hr, hml, hown, hts, hlocks, hRf, hRl⟩ := id C0
    unfold f_Mo_ruleDay at hf
    exact k_Mo_ruleDay_0 C0 hST hK hP (fun pc ls hd => W.lret hx hb hr (fun t ht hW => ⟨rfl, ht⟩) (fun q h => by cases h) hd) hf (lv_sub hl [0, 1, 2] rfl))
-- ZoneFilesModel.event(IJI)J
def f_Mo_event_0 (nf : Nat) (si : Nat → Int32) (sj : Nat → Int64) (sa : Nat → Nat → Int32) (sb : Nat → Nat → Int64) (x1 : Int32) (x2 : Int64) (x4 : Int32) : Option (Int64) :=
  (f_Mo_ruleDay nf ((2 * x1) + x4) x2 si sj sa sb).bind fun r_1 =>
  if ((2 * x1) + x4) < 0 ∨ 10 ≤ ((2 * x1) + x4).toNatClampNeg then none else
  if ((2 * x1) + x4) < 0 ∨ 10 ≤ ((2 * x1) + x4).toNatClampNeg then none else
  some (((r_1 * 86400) + ((sa 31 ((2 * x1) + x4).toNatClampNeg).toInt64)) - ((sa 24 ((2 * x1) + x4).toNatClampNeg).toInt64))
def f_Mo_event (nf : Nat) (p0 : Int32) (p1 : Int64) (p2 : Int32) (si : Nat → Int32) (sj : Nat → Int64) (sa : Nat → Nat → Int32) (sb : Nat → Nat → Int64) : Option (Int64) :=
  f_Mo_event_0 nf si sj sa sb p0 p1 p2
section
variable {p : Program} {l : Launch} {e : Env} {R : Room} {s : State} {m : MethodId} {args : Array Value} {below : List Frame} {meth : Method} {c : Code} {Q : State → Prop} {dC : Nat → ClassId} {dI : Nat → Nat → Nat} {nf : Nat} {A : Nat → Prop} {h0 : Nat} {r : Nat → Nat} {cA : Nat → ClassId}
variable {si : Nat → Int32} {sj : Nat → Int64} {sa : Nat → Nat → Int32} {sb : Nat → Nat → Int64} {r0 : Int64}
set_option maxHeartbeats 400000 in
set_option maxRecDepth 100000 in
theorem k_Mo_event_0 (C0 : Cx p s m meth c args R b_Mo_event "ZoneFilesModel" 5 (some .long) 4 97) (hST : ST (fun _ => False) s s.heap) (hK : va_K (dC, dI) classes (moT cA) s) (hP : va_P (dC, dI) classes (moW h0 r cA si sj sa sb) s.heap) (hE : ∀ (pc : Nat) (ls : Array Slot), decode b_Mo_event pc = .ok (.lreturn, 1) → W p l e R s m args below meth c s.heap [] 0 0 Q (F0 m pc ls [.long r0])) {x1 : Int32} {x2 : Int64} {x4 : Int32} (hf : f_Mo_event_0 nf si sj sa sb x1 x2 x4 = some r0) {ls : Array Slot} (hl : lv_has ls 5 [(0, .ref h0), (1, .int x1), (2, .long x2), (4, .int x4)]) : W p l e R s m args below meth c s.heap [] 0 0 Q (F0 m 0 ls []) := by
  obtain ⟨hx, hb, hr, hml, hown, hts, hlocks, hRf, hRl⟩ := id C0
  obtain ⟨tms, hZms, hTms, tmg, hZmg, hTmg, hNW⟩ := id hST
  unfold f_Mo_event_0 at hf
  refine lv_aload_n hx hb d_Mo_event_0 rfl (lv_at hl 0 rfl) ?_
  refine lv_iconst (v := 2) hx hb d_Mo_event_1 (by decide) ?_
  refine lv_iload_n hx hb d_Mo_event_2 rfl (lv_at hl 1 rfl) ?_
  refine lv_imul hx hb d_Mo_event_3 ?_
  refine lv_iload hx hb d_Mo_event_4 (lv_at hl 3 rfl) ?_
  refine lv_iadd hx hb d_Mo_event_6 ?_
  refine lv_lload_n hx hb d_Mo_event_7 rfl (lv_at hl 2 rfl) ?_
  obtain ⟨r_1, hc, hf⟩ := ob hf
  refine cl_S (v := (some (.long r_1))) (st1 := [.long r_1]) (va_runV (As := [.int ((2 * x1) + x4), .long x2]) (rest := []) ⟨hx, hb, hml, hown, hts⟩ (c_Mo_ruleDay l dC dI h0 r cA nf ((2 * x1) + x4) x2 si sj sa sb hc) (cwV 2 hts (gdV m_8_7 m_8_9 msel_81 m_1_10 m_8_10) rfl rfl rfl (by decide +kernel) ⟨Nat.le_trans (Nat.le_of_ble_eq_true rfl) hRf, Nat.le_trans (Nat.le_of_ble_eq_true rfl) hRl⟩) ((RO.pre hP hK hST).vir (va_recv hK hP (ci := 10) (q0 := 0) rfl rfl)) rfl rfl hl.1 rfl (lv_room (Nat.le_of_ble_eq_true rfl)) d_Mo_event_8 ⟨Nat.zero_le _, Nat.zero_le _⟩) rfl ?_
  refine lv_ldc2 (v := 86400) hx hb hown (hts (.constantLong "ZoneFilesModel" 335 86400) m_7_224) d_Mo_event_11 ?_
  refine lv_lmul hx hb d_Mo_event_14 ?_
  refine lv_aload_n hx hb d_Mo_event_15 rfl (lv_at hl 0 rfl) ?_
  refine mg_31 hx hb hts hown hK hP d_Mo_event_16 ?_
  refine lv_iconst (v := 2) hx hb d_Mo_event_19 (by decide) ?_
  refine lv_iload_n hx hb d_Mo_event_20 rfl (lv_at hl 1 rfl) ?_
  refine lv_imul hx hb d_Mo_event_21 ?_
  refine lv_iload hx hb d_Mo_event_22 (lv_at hl 3 rfl) ?_
  refine lv_iadd hx hb d_Mo_event_24 ?_
  obtain ⟨c_2, hf⟩ := it_n hf
  refine ma_31 (v := sa 31 ((2 * x1) + x4).toNatClampNeg) hx hb hK hP c_2 rfl d_Mo_event_25 ?_
  refine lv_i2l hx hb d_Mo_event_26 rfl ?_
  refine lv_ladd hx hb d_Mo_event_27 ?_
  refine lv_aload_n hx hb d_Mo_event_28 rfl (lv_at hl 0 rfl) ?_
  refine mg_24 hx hb hts hown hK hP d_Mo_event_29 ?_
  refine lv_iconst (v := 2) hx hb d_Mo_event_32 (by decide) ?_
  refine lv_iload_n hx hb d_Mo_event_33 rfl (lv_at hl 1 rfl) ?_
  refine lv_imul hx hb d_Mo_event_34 ?_
  refine lv_iload hx hb d_Mo_event_35 (lv_at hl 3 rfl) ?_
  refine lv_iadd hx hb d_Mo_event_37 ?_
  obtain ⟨c_3, hf⟩ := it_n hf
  refine ma_24 (v := sa 24 ((2 * x1) + x4).toNatClampNeg) hx hb hK hP c_3 rfl d_Mo_event_38 ?_
  refine lv_i2l hx hb d_Mo_event_39 rfl ?_
  refine lv_lsub hx hb d_Mo_event_40 ?_
  cases rs hf
  exact hE _ _ d_Mo_event_41
end
set_option maxHeartbeats 400000 in
set_option maxRecDepth 100000 in
theorem c_Mo_event (l : Launch) (dC : Nat → ClassId) (dI : Nat → Nat → Nat) (h0 : Nat) (r : Nat → Nat) (cA : Nat → ClassId) (nf : Nat) (p0 : Int32) (p1 : Int64) (p2 : Int32) (si : Nat → Int32) (sj : Nat → Int64) (sa : Nat → Nat → Int32) (sb : Nat → Nat → Int64) {r0 : Int64} (hf : f_Mo_event nf p0 p1 p2 si sj sa sb = some r0) : Met l y_Mo_event (wd y_Mo_event b_Mo_event 5 (some .long)) ({ frames := 4, cells := 0, slots := 0, locals := 97 }) (RO dC dI (moW h0 r cA si sj sa sb) (moT cA) [.ref h0, .int p0, .long p1, .int p2]) (SV (some (.long r0))) 0 0 (fun _ => False) :=
  met_S (plainFor_of_name (by decide)) (Nat.le_of_ble_eq_true rfl) (fun p e R s m args below meth c ls C0 hST hK hP hl => by
    obtain ⟨hx, hb, hr, hml, hown, hts, hlocks, hRf, hRl⟩ := id C0
    unfold f_Mo_event at hf
    exact k_Mo_event_0 C0 hST hK hP (fun pc ls hd => W.lret hx hb hr (fun t ht hW => ⟨rfl, ht⟩) (fun q h => by cases h) hd) hf (lv_sub hl [0, 1, 2, 3] rfl))
