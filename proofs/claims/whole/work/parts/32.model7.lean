theorem m_8_173 : Cond.methodLink "ZoneFilesModel" 523 ⟨"ZoneFilesModel", "tableText", "(I)Z"⟩ ∈ T0 := tb_8 173 rfl rfl
theorem m_8_175 : Cond.instanceMethod ⟨"ZoneFilesModel", "tableText", "(I)Z"⟩ ∈ T0 := tb_8 175 rfl rfl
theorem m_8_176 : Cond.code ⟨"ZoneFilesModel", "tableText", "(I)Z"⟩ prog_14_method_93_code 2 (some .boolean) ∈ T0 := tb_8 176 rfl rfl
theorem m_8_177 : Cond.methodLink "ZoneFilesModel" 520 ⟨"ZoneFilesModel", "line", "()Z"⟩ ∈ T0 := tb_8 177 rfl rfl
theorem m_8_179 : Cond.instanceMethod ⟨"ZoneFilesModel", "line", "()Z"⟩ ∈ T0 := tb_8 179 rfl rfl
theorem m_8_180 : Cond.code ⟨"ZoneFilesModel", "line", "()Z"⟩ prog_14_method_92_code 2 (some .boolean) ∈ T0 := tb_8 180 rfl rfl
theorem m_8_181 : Cond.methodLink "ZoneFilesModel" 514 ⟨"ZoneFilesModel", "expiryLine", "()Z"⟩ ∈ T0 := tb_8 181 rfl rfl
theorem m_8_183 : Cond.instanceMethod ⟨"ZoneFilesModel", "expiryLine", "()Z"⟩ ∈ T0 := tb_8 183 rfl rfl
theorem m_8_184 : Cond.code ⟨"ZoneFilesModel", "expiryLine", "()Z"⟩ prog_14_method_90_code 2 (some .boolean) ∈ T0 := tb_8 184 rfl rfl
theorem m_8_185 : Cond.methodLink "ZoneFilesModel" 496 ⟨"ZoneFilesModel", "blanks", "()V"⟩ ∈ T0 := tb_8 185 rfl rfl
theorem m_8_187 : Cond.instanceMethod ⟨"ZoneFilesModel", "blanks", "()V"⟩ ∈ T0 := tb_8 187 rfl rfl
theorem m_8_188 : Cond.code ⟨"ZoneFilesModel", "blanks", "()V"⟩ prog_14_method_86_code 1 none ∈ T0 := tb_8 188 rfl rfl
theorem m_8_189 : Cond.methodLink "ZoneFilesModel" 485 ⟨"ZoneFilesModel", "isBlank", "(I)Z"⟩ ∈ T0 := tb_8 189 rfl rfl
theorem m_8_190 : Cond.static ⟨"ZoneFilesModel", "isBlank", "(I)Z"⟩ ∈ T0 := tb_8 190 rfl rfl
theorem m_8_191 : Cond.code ⟨"ZoneFilesModel", "isBlank", "(I)Z"⟩ prog_14_method_85_code 1 (some .boolean) ∈ T0 := tb_8 191 rfl rfl
theorem m_8_192 : Cond.methodLink "ZoneFilesModel" 499 ⟨"ZoneFilesModel", "digits", "()Z"⟩ ∈ T0 := tb_8 192 rfl rfl
theorem m_8_194 : Cond.instanceMethod ⟨"ZoneFilesModel", "digits", "()Z"⟩ ∈ T0 := tb_8 194 rfl rfl
theorem m_8_195 : Cond.code ⟨"ZoneFilesModel", "digits", "()Z"⟩ prog_14_method_87_code 2 (some .boolean) ∈ T0 := tb_8 195 rfl rfl
theorem m_8_196 : Cond.constantLong "ZoneFilesModel" 491 48 ∈ T0 := tb_8 196 rfl rfl
theorem m_8_197 : Cond.methodLink "ZoneFilesModel" 493 ⟨"ZoneFilesModel", "lineEnd", "()Z"⟩ ∈ T0 := tb_8 197 rfl rfl
theorem m_8_199 : Cond.instanceMethod ⟨"ZoneFilesModel", "lineEnd", "()Z"⟩ ∈ T0 := tb_8 199 rfl rfl
theorem m_8_200 : Cond.code ⟨"ZoneFilesModel", "lineEnd", "()Z"⟩ prog_14_method_88_code 1 (some .boolean) ∈ T0 := tb_8 200 rfl rfl
theorem m_8_201 : Cond.methodLink "ZoneFilesModel" 508 ⟨"ZoneFilesModel", "remark", "()Z"⟩ ∈ T0 := tb_8 201 rfl rfl
theorem m_8_203 : Cond.instanceMethod ⟨"ZoneFilesModel", "remark", "()Z"⟩ ∈ T0 := tb_8 203 rfl rfl
theorem m_8_204 : Cond.code ⟨"ZoneFilesModel", "remark", "()Z"⟩ prog_14_method_89_code 1 (some .boolean) ∈ T0 := tb_8 204 rfl rfl
theorem m_8_205 : Cond.methodLink "ZoneFilesModel" 517 ⟨"ZoneFilesModel", "rowLine", "()Z"⟩ ∈ T0 := tb_8 205 rfl rfl
theorem m_8_207 : Cond.instanceMethod ⟨"ZoneFilesModel", "rowLine", "()Z"⟩ ∈ T0 := tb_8 207 rfl rfl
theorem m_8_208 : Cond.code ⟨"ZoneFilesModel", "rowLine", "()Z"⟩ prog_14_method_91_code 8 (some .boolean) ∈ T0 := tb_8 208 rfl rfl
theorem m_8_209 : Cond.constantLong "ZoneFilesModel" 532 2208988800 ∈ T0 := tb_8 209 rfl rfl
theorem m_8_226 : Cond.methodLink "ZoneFilesModel" 537 ⟨"ZoneFilesModel", "rowOf", "(J)I"⟩ ∈ T0 := tb_8 226 rfl rfl
theorem m_8_228 : Cond.instanceMethod ⟨"ZoneFilesModel", "rowOf", "(J)I"⟩ ∈ T0 := tb_8 228 rfl rfl
theorem m_8_229 : Cond.code ⟨"ZoneFilesModel", "rowOf", "(J)I"⟩ prog_14_method_98_code 4 (some .int) ∈ T0 := tb_8 229 rfl rfl
theorem msel_97 : Cond.selects "ZoneFilesModel" ⟨"ZoneFilesModel", "tableText", "(I)Z"⟩ ⟨"ZoneFilesModel", "tableText", "(I)Z"⟩ ∈ T0 := ps_7 (q := (⟨"ZoneFilesModel", "tableText", "(I)Z"⟩, 72)) 1 rfl
theorem msel_98 : Cond.selects "ZoneFilesModel" ⟨"ZoneFilesModel", "line", "()Z"⟩ ⟨"ZoneFilesModel", "line", "()Z"⟩ ∈ T0 := ps_7 (q := (⟨"ZoneFilesModel", "line", "()Z"⟩, 72)) 2 rfl
theorem msel_99 : Cond.selects "ZoneFilesModel" ⟨"ZoneFilesModel", "expiryLine", "()Z"⟩ ⟨"ZoneFilesModel", "expiryLine", "()Z"⟩ ∈ T0 := ps_7 (q := (⟨"ZoneFilesModel", "expiryLine", "()Z"⟩, 72)) 3 rfl
theorem msel_100 : Cond.selects "ZoneFilesModel" ⟨"ZoneFilesModel", "blanks", "()V"⟩ ⟨"ZoneFilesModel", "blanks", "()V"⟩ ∈ T0 := ps_7 (q := (⟨"ZoneFilesModel", "blanks", "()V"⟩, 72)) 4 rfl
theorem msel_101 : Cond.selects "ZoneFilesModel" ⟨"ZoneFilesModel", "digits", "()Z"⟩ ⟨"ZoneFilesModel", "digits", "()Z"⟩ ∈ T0 := ps_7 (q := (⟨"ZoneFilesModel", "digits", "()Z"⟩, 72)) 5 rfl
theorem msel_102 : Cond.selects "ZoneFilesModel" ⟨"ZoneFilesModel", "lineEnd", "()Z"⟩ ⟨"ZoneFilesModel", "lineEnd", "()Z"⟩ ∈ T0 := ps_7 (q := (⟨"ZoneFilesModel", "lineEnd", "()Z"⟩, 72)) 6 rfl
theorem msel_103 : Cond.selects "ZoneFilesModel" ⟨"ZoneFilesModel", "remark", "()Z"⟩ ⟨"ZoneFilesModel", "remark", "()Z"⟩ ∈ T0 := ps_7 (q := (⟨"ZoneFilesModel", "remark", "()Z"⟩, 72)) 7 rfl
theorem msel_104 : Cond.selects "ZoneFilesModel" ⟨"ZoneFilesModel", "rowLine", "()Z"⟩ ⟨"ZoneFilesModel", "rowLine", "()Z"⟩ ∈ T0 := ps_7 (q := (⟨"ZoneFilesModel", "rowLine", "()Z"⟩, 72)) 8 rfl
theorem msel_105 : Cond.selects "ZoneFilesModel" ⟨"ZoneFilesModel", "rowOf", "(J)I"⟩ ⟨"ZoneFilesModel", "rowOf", "(J)I"⟩ ∈ T0 := ps_7 (q := (⟨"ZoneFilesModel", "rowOf", "(J)I"⟩, 72)) 9 rfl
abbrev b_Mo_blanks : ByteArray := prog_14_method_86_code
def y_Mo_blanks : MethodName := ⟨"ZoneFilesModel", "blanks", "()V"⟩
theorem d_Mo_blanks_0 : decode b_Mo_blanks 0 = .ok (.aload_n 0, 1) := by decide +kernel
theorem d_Mo_blanks_1 : decode b_Mo_blanks 1 = .ok (.invokevirtual 175, 3) := by decide +kernel
theorem d_Mo_blanks_4 : decode b_Mo_blanks 4 = .ok (.invokestatic 485, 3) := by decide +kernel
theorem d_Mo_blanks_7 : decode b_Mo_blanks 7 = .ok (.ifCond .eq 16, 3) := by decide +kernel
theorem d_Mo_blanks_10 : decode b_Mo_blanks 10 = .ok (.aload_n 0, 1) := by decide +kernel
theorem d_Mo_blanks_11 : decode b_Mo_blanks 11 = .ok (.dup, 1) := by decide +kernel
theorem d_Mo_blanks_12 : decode b_Mo_blanks 12 = .ok (.getfield 155, 3) := by decide +kernel
theorem d_Mo_blanks_15 : decode b_Mo_blanks 15 = .ok (.iconst 1, 1) := by decide +kernel
theorem d_Mo_blanks_16 : decode b_Mo_blanks 16 = .ok (.iadd, 1) := by decide +kernel
theorem d_Mo_blanks_17 : decode b_Mo_blanks 17 = .ok (.putfield 155, 3) := by decide +kernel
theorem d_Mo_blanks_20 : decode b_Mo_blanks 20 = .ok (.goto (-20), 3) := by decide +kernel
theorem d_Mo_blanks_23 : decode b_Mo_blanks 23 = .ok (.return_, 1) := by decide +kernel
abbrev b_Mo_digits : ByteArray := prog_14_method_87_code
def y_Mo_digits : MethodName := ⟨"ZoneFilesModel", "digits", "()Z"⟩
theorem d_Mo_digits_0 : decode b_Mo_digits 0 = .ok (.aload_n 0, 1) := by decide +kernel
theorem d_Mo_digits_1 : decode b_Mo_digits 1 = .ok (.getfield 155, 3) := by decide +kernel
theorem d_Mo_digits_4 : decode b_Mo_digits 4 = .ok (.istore_n 1, 1) := by decide +kernel
theorem d_Mo_digits_5 : decode b_Mo_digits 5 = .ok (.aload_n 0, 1) := by decide +kernel
theorem d_Mo_digits_6 : decode b_Mo_digits 6 = .ok (.lconst 0, 1) := by decide +kernel
theorem d_Mo_digits_7 : decode b_Mo_digits 7 = .ok (.putfield 488, 3) := by decide +kernel
theorem d_Mo_digits_10 : decode b_Mo_digits 10 = .ok (.aload_n 0, 1) := by decide +kernel
theorem d_Mo_digits_11 : decode b_Mo_digits 11 = .ok (.invokevirtual 175, 3) := by decide +kernel
theorem d_Mo_digits_14 : decode b_Mo_digits 14 = .ok (.invokestatic 168, 3) := by decide +kernel
theorem d_Mo_digits_17 : decode b_Mo_digits 17 = .ok (.ifCond .eq 59, 3) := by decide +kernel
theorem d_Mo_digits_20 : decode b_Mo_digits 20 = .ok (.aload_n 0, 1) := by decide +kernel
theorem d_Mo_digits_21 : decode b_Mo_digits 21 = .ok (.getfield 155, 3) := by decide +kernel
theorem d_Mo_digits_24 : decode b_Mo_digits 24 = .ok (.iload_n 1, 1) := by decide +kernel
theorem d_Mo_digits_25 : decode b_Mo_digits 25 = .ok (.isub, 1) := by decide +kernel
theorem d_Mo_digits_26 : decode b_Mo_digits 26 = .ok (.bipush 10, 2) := by decide +kernel
theorem d_Mo_digits_28 : decode b_Mo_digits 28 = .ok (.if_icmp .ne 13, 3) := by decide +kernel
theorem d_Mo_digits_31 : decode b_Mo_digits 31 = .ok (.aload_n 0, 1) := by decide +kernel
theorem d_Mo_digits_32 : decode b_Mo_digits 32 = .ok (.iconst 1, 1) := by decide +kernel
theorem d_Mo_digits_33 : decode b_Mo_digits 33 = .ok (.aload_n 0, 1) := by decide +kernel
theorem d_Mo_digits_34 : decode b_Mo_digits 34 = .ok (.getfield 155, 3) := by decide +kernel
theorem d_Mo_digits_37 : decode b_Mo_digits 37 = .ok (.invokevirtual 217, 3) := by decide +kernel
theorem d_Mo_digits_40 : decode b_Mo_digits 40 = .ok (.ireturn, 1) := by decide +kernel
theorem d_Mo_digits_41 : decode b_Mo_digits 41 = .ok (.aload_n 0, 1) := by decide +kernel
theorem d_Mo_digits_42 : decode b_Mo_digits 42 = .ok (.ldc2_w 480, 3) := by decide +kernel
theorem d_Mo_digits_45 : decode b_Mo_digits 45 = .ok (.aload_n 0, 1) := by decide +kernel
theorem d_Mo_digits_46 : decode b_Mo_digits 46 = .ok (.getfield 488, 3) := by decide +kernel
theorem d_Mo_digits_49 : decode b_Mo_digits 49 = .ok (.lmul, 1) := by decide +kernel
theorem d_Mo_digits_50 : decode b_Mo_digits 50 = .ok (.aload_n 0, 1) := by decide +kernel
theorem d_Mo_digits_51 : decode b_Mo_digits 51 = .ok (.invokevirtual 175, 3) := by decide +kernel
theorem d_Mo_digits_54 : decode b_Mo_digits 54 = .ok (.i2l, 1) := by decide +kernel
theorem d_Mo_digits_55 : decode b_Mo_digits 55 = .ok (.ladd, 1) := by decide +kernel
theorem d_Mo_digits_56 : decode b_Mo_digits 56 = .ok (.ldc2_w 491, 3) := by decide +kernel
theorem d_Mo_digits_59 : decode b_Mo_digits 59 = .ok (.lsub, 1) := by decide +kernel
theorem d_Mo_digits_60 : decode b_Mo_digits 60 = .ok (.putfield 488, 3) := by decide +kernel
theorem d_Mo_digits_63 : decode b_Mo_digits 63 = .ok (.aload_n 0, 1) := by decide +kernel
theorem d_Mo_digits_64 : decode b_Mo_digits 64 = .ok (.dup, 1) := by decide +kernel
theorem d_Mo_digits_65 : decode b_Mo_digits 65 = .ok (.getfield 155, 3) := by decide +kernel
theorem d_Mo_digits_68 : decode b_Mo_digits 68 = .ok (.iconst 1, 1) := by decide +kernel
theorem d_Mo_digits_69 : decode b_Mo_digits 69 = .ok (.iadd, 1) := by decide +kernel
theorem d_Mo_digits_70 : decode b_Mo_digits 70 = .ok (.putfield 155, 3) := by decide +kernel
theorem d_Mo_digits_73 : decode b_Mo_digits 73 = .ok (.goto (-63), 3) := by decide +kernel
theorem d_Mo_digits_76 : decode b_Mo_digits 76 = .ok (.aload_n 0, 1) := by decide +kernel
theorem d_Mo_digits_77 : decode b_Mo_digits 77 = .ok (.getfield 155, 3) := by decide +kernel
theorem d_Mo_digits_80 : decode b_Mo_digits 80 = .ok (.iload_n 1, 1) := by decide +kernel
theorem d_Mo_digits_81 : decode b_Mo_digits 81 = .ok (.if_icmp .gt 15, 3) := by decide +kernel
theorem d_Mo_digits_84 : decode b_Mo_digits 84 = .ok (.aload_n 0, 1) := by decide +kernel
theorem d_Mo_digits_85 : decode b_Mo_digits 85 = .ok (.iconst 1, 1) := by decide +kernel
theorem d_Mo_digits_86 : decode b_Mo_digits 86 = .ok (.aload_n 0, 1) := by decide +kernel
theorem d_Mo_digits_87 : decode b_Mo_digits 87 = .ok (.getfield 155, 3) := by decide +kernel
theorem d_Mo_digits_90 : decode b_Mo_digits 90 = .ok (.invokevirtual 217, 3) := by decide +kernel
theorem d_Mo_digits_93 : decode b_Mo_digits 93 = .ok (.ifCond .eq 7, 3) := by decide +kernel
theorem d_Mo_digits_96 : decode b_Mo_digits 96 = .ok (.iconst 1, 1) := by decide +kernel
theorem d_Mo_digits_97 : decode b_Mo_digits 97 = .ok (.goto 4, 3) := by decide +kernel
theorem d_Mo_digits_100 : decode b_Mo_digits 100 = .ok (.iconst 0, 1) := by decide +kernel
theorem d_Mo_digits_101 : decode b_Mo_digits 101 = .ok (.ireturn, 1) := by decide +kernel
abbrev b_Mo_lineEnd : ByteArray := prog_14_method_88_code
def y_Mo_lineEnd : MethodName := ⟨"ZoneFilesModel", "lineEnd", "()Z"⟩
theorem d_Mo_lineEnd_0 : decode b_Mo_lineEnd 0 = .ok (.aload_n 0, 1) := by decide +kernel
theorem d_Mo_lineEnd_1 : decode b_Mo_lineEnd 1 = .ok (.invokevirtual 175, 3) := by decide +kernel
theorem d_Mo_lineEnd_4 : decode b_Mo_lineEnd 4 = .ok (.bipush 10, 2) := by decide +kernel
theorem d_Mo_lineEnd_6 : decode b_Mo_lineEnd 6 = .ok (.if_icmp .eq 13, 3) := by decide +kernel
theorem d_Mo_lineEnd_9 : decode b_Mo_lineEnd 9 = .ok (.aload_n 0, 1) := by decide +kernel
theorem d_Mo_lineEnd_10 : decode b_Mo_lineEnd 10 = .ok (.iconst 1, 1) := by decide +kernel
theorem d_Mo_lineEnd_11 : decode b_Mo_lineEnd 11 = .ok (.aload_n 0, 1) := by decide +kernel
theorem d_Mo_lineEnd_12 : decode b_Mo_lineEnd 12 = .ok (.getfield 155, 3) := by decide +kernel
theorem d_Mo_lineEnd_15 : decode b_Mo_lineEnd 15 = .ok (.invokevirtual 217, 3) := by decide +kernel
theorem d_Mo_lineEnd_18 : decode b_Mo_lineEnd 18 = .ok (.ireturn, 1) := by decide +kernel
theorem d_Mo_lineEnd_19 : decode b_Mo_lineEnd 19 = .ok (.aload_n 0, 1) := by decide +kernel
theorem d_Mo_lineEnd_20 : decode b_Mo_lineEnd 20 = .ok (.dup, 1) := by decide +kernel
theorem d_Mo_lineEnd_21 : decode b_Mo_lineEnd 21 = .ok (.getfield 155, 3) := by decide +kernel
theorem d_Mo_lineEnd_24 : decode b_Mo_lineEnd 24 = .ok (.iconst 1, 1) := by decide +kernel
theorem d_Mo_lineEnd_25 : decode b_Mo_lineEnd 25 = .ok (.iadd, 1) := by decide +kernel
theorem d_Mo_lineEnd_26 : decode b_Mo_lineEnd 26 = .ok (.putfield 155, 3) := by decide +kernel
theorem d_Mo_lineEnd_29 : decode b_Mo_lineEnd 29 = .ok (.iconst 1, 1) := by decide +kernel
theorem d_Mo_lineEnd_30 : decode b_Mo_lineEnd 30 = .ok (.ireturn, 1) := by decide +kernel
abbrev b_Mo_remark : ByteArray := prog_14_method_89_code
def y_Mo_remark : MethodName := ⟨"ZoneFilesModel", "remark", "()Z"⟩
theorem d_Mo_remark_0 : decode b_Mo_remark 0 = .ok (.aload_n 0, 1) := by decide +kernel
theorem d_Mo_remark_1 : decode b_Mo_remark 1 = .ok (.invokevirtual 175, 3) := by decide +kernel
theorem d_Mo_remark_4 : decode b_Mo_remark 4 = .ok (.bipush 10, 2) := by decide +kernel
theorem d_Mo_remark_6 : decode b_Mo_remark 6 = .ok (.if_icmp .eq 23, 3) := by decide +kernel
theorem d_Mo_remark_9 : decode b_Mo_remark 9 = .ok (.aload_n 0, 1) := by decide +kernel
theorem d_Mo_remark_10 : decode b_Mo_remark 10 = .ok (.invokevirtual 175, 3) := by decide +kernel
theorem d_Mo_remark_13 : decode b_Mo_remark 13 = .ok (.ifCond .lt 16, 3) := by decide +kernel
theorem d_Mo_remark_16 : decode b_Mo_remark 16 = .ok (.aload_n 0, 1) := by decide +kernel
theorem d_Mo_remark_17 : decode b_Mo_remark 17 = .ok (.dup, 1) := by decide +kernel
theorem d_Mo_remark_18 : decode b_Mo_remark 18 = .ok (.getfield 155, 3) := by decide +kernel
theorem d_Mo_remark_21 : decode b_Mo_remark 21 = .ok (.iconst 1, 1) := by decide +kernel
theorem d_Mo_remark_22 : decode b_Mo_remark 22 = .ok (.iadd, 1) := by decide +kernel
theorem d_Mo_remark_23 : decode b_Mo_remark 23 = .ok (.putfield 155, 3) := by decide +kernel
theorem d_Mo_remark_26 : decode b_Mo_remark 26 = .ok (.goto (-26), 3) := by decide +kernel
theorem d_Mo_remark_29 : decode b_Mo_remark 29 = .ok (.aload_n 0, 1) := by decide +kernel
theorem d_Mo_remark_30 : decode b_Mo_remark 30 = .ok (.invokevirtual 493, 3) := by decide +kernel
theorem d_Mo_remark_33 : decode b_Mo_remark 33 = .ok (.ireturn, 1) := by decide +kernel
abbrev b_Mo_expiryLine : ByteArray := prog_14_method_90_code
def y_Mo_expiryLine : MethodName := ⟨"ZoneFilesModel", "expiryLine", "()Z"⟩
theorem d_Mo_expiryLine_0 : decode b_Mo_expiryLine 0 = .ok (.aload_n 0, 1) := by decide +kernel
theorem d_Mo_expiryLine_1 : decode b_Mo_expiryLine 1 = .ok (.dup, 1) := by decide +kernel
theorem d_Mo_expiryLine_2 : decode b_Mo_expiryLine 2 = .ok (.getfield 155, 3) := by decide +kernel
theorem d_Mo_expiryLine_5 : decode b_Mo_expiryLine 5 = .ok (.iconst 2, 1) := by decide +kernel
theorem d_Mo_expiryLine_6 : decode b_Mo_expiryLine 6 = .ok (.iadd, 1) := by decide +kernel
theorem d_Mo_expiryLine_7 : decode b_Mo_expiryLine 7 = .ok (.putfield 155, 3) := by decide +kernel
theorem d_Mo_expiryLine_10 : decode b_Mo_expiryLine 10 = .ok (.aload_n 0, 1) := by decide +kernel
theorem d_Mo_expiryLine_11 : decode b_Mo_expiryLine 11 = .ok (.invokevirtual 496, 3) := by decide +kernel
theorem d_Mo_expiryLine_14 : decode b_Mo_expiryLine 14 = .ok (.aload_n 0, 1) := by decide +kernel
theorem d_Mo_expiryLine_15 : decode b_Mo_expiryLine 15 = .ok (.getfield 155, 3) := by decide +kernel
theorem d_Mo_expiryLine_18 : decode b_Mo_expiryLine 18 = .ok (.istore_n 1, 1) := by decide +kernel
theorem d_Mo_expiryLine_19 : decode b_Mo_expiryLine 19 = .ok (.aload_n 0, 1) := by decide +kernel
theorem d_Mo_expiryLine_20 : decode b_Mo_expiryLine 20 = .ok (.invokevirtual 499, 3) := by decide +kernel
theorem d_Mo_expiryLine_23 : decode b_Mo_expiryLine 23 = .ok (.ifCond .ne 5, 3) := by decide +kernel
theorem d_Mo_expiryLine_26 : decode b_Mo_expiryLine 26 = .ok (.iconst 0, 1) := by decide +kernel
theorem d_Mo_expiryLine_27 : decode b_Mo_expiryLine 27 = .ok (.ireturn, 1) := by decide +kernel
theorem d_Mo_expiryLine_28 : decode b_Mo_expiryLine 28 = .ok (.aload_n 0, 1) := by decide +kernel
theorem d_Mo_expiryLine_29 : decode b_Mo_expiryLine 29 = .ok (.invokevirtual 496, 3) := by decide +kernel
theorem d_Mo_expiryLine_32 : decode b_Mo_expiryLine 32 = .ok (.aload_n 0, 1) := by decide +kernel
theorem d_Mo_expiryLine_33 : decode b_Mo_expiryLine 33 = .ok (.invokevirtual 493, 3) := by decide +kernel
theorem d_Mo_expiryLine_36 : decode b_Mo_expiryLine 36 = .ok (.ifCond .ne 5, 3) := by decide +kernel
theorem d_Mo_expiryLine_39 : decode b_Mo_expiryLine 39 = .ok (.iconst 0, 1) := by decide +kernel
theorem d_Mo_expiryLine_40 : decode b_Mo_expiryLine 40 = .ok (.ireturn, 1) := by decide +kernel
theorem d_Mo_expiryLine_41 : decode b_Mo_expiryLine 41 = .ok (.aload_n 0, 1) := by decide +kernel
theorem d_Mo_expiryLine_42 : decode b_Mo_expiryLine 42 = .ok (.getfield 502, 3) := by decide +kernel
theorem d_Mo_expiryLine_45 : decode b_Mo_expiryLine 45 = .ok (.ifCond .eq 10, 3) := by decide +kernel
theorem d_Mo_expiryLine_48 : decode b_Mo_expiryLine 48 = .ok (.aload_n 0, 1) := by decide +kernel
theorem d_Mo_expiryLine_49 : decode b_Mo_expiryLine 49 = .ok (.iconst 5, 1) := by decide +kernel
theorem d_Mo_expiryLine_50 : decode b_Mo_expiryLine 50 = .ok (.iload_n 1, 1) := by decide +kernel
theorem d_Mo_expiryLine_51 : decode b_Mo_expiryLine 51 = .ok (.invokevirtual 217, 3) := by decide +kernel
theorem d_Mo_expiryLine_54 : decode b_Mo_expiryLine 54 = .ok (.ireturn, 1) := by decide +kernel
theorem d_Mo_expiryLine_55 : decode b_Mo_expiryLine 55 = .ok (.aload_n 0, 1) := by decide +kernel
theorem d_Mo_expiryLine_56 : decode b_Mo_expiryLine 56 = .ok (.iconst 1, 1) := by decide +kernel
theorem d_Mo_expiryLine_57 : decode b_Mo_expiryLine 57 = .ok (.putfield 502, 3) := by decide +kernel
theorem d_Mo_expiryLine_60 : decode b_Mo_expiryLine 60 = .ok (.aload_n 0, 1) := by decide +kernel
theorem d_Mo_expiryLine_61 : decode b_Mo_expiryLine 61 = .ok (.aload_n 0, 1) := by decide +kernel
theorem d_Mo_expiryLine_62 : decode b_Mo_expiryLine 62 = .ok (.getfield 488, 3) := by decide +kernel
theorem d_Mo_expiryLine_65 : decode b_Mo_expiryLine 65 = .ok (.putfield 505, 3) := by decide +kernel
theorem d_Mo_expiryLine_68 : decode b_Mo_expiryLine 68 = .ok (.iconst 1, 1) := by decide +kernel
theorem d_Mo_expiryLine_69 : decode b_Mo_expiryLine 69 = .ok (.ireturn, 1) := by decide +kernel
abbrev b_Mo_rowLine : ByteArray := prog_14_method_91_code
def y_Mo_rowLine : MethodName := ⟨"ZoneFilesModel", "rowLine", "()Z"⟩
theorem d_Mo_rowLine_0 : decode b_Mo_rowLine 0 = .ok (.aload_n 0, 1) := by decide +kernel
theorem d_Mo_rowLine_1 : decode b_Mo_rowLine 1 = .ok (.getfield 155, 3) := by decide +kernel
theorem d_Mo_rowLine_4 : decode b_Mo_rowLine 4 = .ok (.istore_n 1, 1) := by decide +kernel
theorem d_Mo_rowLine_5 : decode b_Mo_rowLine 5 = .ok (.aload_n 0, 1) := by decide +kernel
theorem d_Mo_rowLine_6 : decode b_Mo_rowLine 6 = .ok (.invokevirtual 499, 3) := by decide +kernel
theorem d_Mo_rowLine_9 : decode b_Mo_rowLine 9 = .ok (.ifCond .ne 5, 3) := by decide +kernel
theorem d_Mo_rowLine_12 : decode b_Mo_rowLine 12 = .ok (.iconst 0, 1) := by decide +kernel
theorem d_Mo_rowLine_13 : decode b_Mo_rowLine 13 = .ok (.ireturn, 1) := by decide +kernel
theorem d_Mo_rowLine_14 : decode b_Mo_rowLine 14 = .ok (.aload_n 0, 1) := by decide +kernel
theorem d_Mo_rowLine_15 : decode b_Mo_rowLine 15 = .ok (.getfield 488, 3) := by decide +kernel
theorem d_Mo_rowLine_18 : decode b_Mo_rowLine 18 = .ok (.lstore_n 2, 1) := by decide +kernel
theorem d_Mo_rowLine_19 : decode b_Mo_rowLine 19 = .ok (.aload_n 0, 1) := by decide +kernel
theorem d_Mo_rowLine_20 : decode b_Mo_rowLine 20 = .ok (.invokevirtual 175, 3) := by decide +kernel
theorem d_Mo_rowLine_23 : decode b_Mo_rowLine 23 = .ok (.invokestatic 485, 3) := by decide +kernel
theorem d_Mo_rowLine_26 : decode b_Mo_rowLine 26 = .ok (.ifCond .ne 13, 3) := by decide +kernel
theorem d_Mo_rowLine_29 : decode b_Mo_rowLine 29 = .ok (.aload_n 0, 1) := by decide +kernel
theorem d_Mo_rowLine_30 : decode b_Mo_rowLine 30 = .ok (.iconst 1, 1) := by decide +kernel
theorem d_Mo_rowLine_31 : decode b_Mo_rowLine 31 = .ok (.aload_n 0, 1) := by decide +kernel
theorem d_Mo_rowLine_32 : decode b_Mo_rowLine 32 = .ok (.getfield 155, 3) := by decide +kernel
theorem d_Mo_rowLine_35 : decode b_Mo_rowLine 35 = .ok (.invokevirtual 217, 3) := by decide +kernel
theorem d_Mo_rowLine_38 : decode b_Mo_rowLine 38 = .ok (.ireturn, 1) := by decide +kernel
theorem d_Mo_rowLine_39 : decode b_Mo_rowLine 39 = .ok (.aload_n 0, 1) := by decide +kernel
theorem d_Mo_rowLine_40 : decode b_Mo_rowLine 40 = .ok (.invokevirtual 496, 3) := by decide +kernel
theorem d_Mo_rowLine_43 : decode b_Mo_rowLine 43 = .ok (.aload_n 0, 1) := by decide +kernel
theorem d_Mo_rowLine_44 : decode b_Mo_rowLine 44 = .ok (.getfield 155, 3) := by decide +kernel
theorem d_Mo_rowLine_47 : decode b_Mo_rowLine 47 = .ok (.istore 4, 2) := by decide +kernel
theorem d_Mo_rowLine_49 : decode b_Mo_rowLine 49 = .ok (.aload_n 0, 1) := by decide +kernel
theorem d_Mo_rowLine_50 : decode b_Mo_rowLine 50 = .ok (.invokevirtual 499, 3) := by decide +kernel
theorem d_Mo_rowLine_53 : decode b_Mo_rowLine 53 = .ok (.ifCond .ne 5, 3) := by decide +kernel
theorem d_Mo_rowLine_56 : decode b_Mo_rowLine 56 = .ok (.iconst 0, 1) := by decide +kernel
theorem d_Mo_rowLine_57 : decode b_Mo_rowLine 57 = .ok (.ireturn, 1) := by decide +kernel
theorem d_Mo_rowLine_58 : decode b_Mo_rowLine 58 = .ok (.aload_n 0, 1) := by decide +kernel
theorem d_Mo_rowLine_59 : decode b_Mo_rowLine 59 = .ok (.getfield 488, 3) := by decide +kernel
theorem d_Mo_rowLine_62 : decode b_Mo_rowLine 62 = .ok (.lstore 5, 2) := by decide +kernel
theorem d_Mo_rowLine_64 : decode b_Mo_rowLine 64 = .ok (.aload_n 0, 1) := by decide +kernel
theorem d_Mo_rowLine_65 : decode b_Mo_rowLine 65 = .ok (.invokevirtual 496, 3) := by decide +kernel
theorem d_Mo_rowLine_68 : decode b_Mo_rowLine 68 = .ok (.aload_n 0, 1) := by decide +kernel
theorem d_Mo_rowLine_69 : decode b_Mo_rowLine 69 = .ok (.invokevirtual 175, 3) := by decide +kernel
theorem d_Mo_rowLine_72 : decode b_Mo_rowLine 72 = .ok (.bipush 35, 2) := by decide +kernel
theorem d_Mo_rowLine_74 : decode b_Mo_rowLine 74 = .ok (.if_icmp .ne 10, 3) := by decide +kernel
theorem d_Mo_rowLine_77 : decode b_Mo_rowLine 77 = .ok (.aload_n 0, 1) := by decide +kernel
theorem d_Mo_rowLine_78 : decode b_Mo_rowLine 78 = .ok (.invokevirtual 508, 3) := by decide +kernel
theorem d_Mo_rowLine_81 : decode b_Mo_rowLine 81 = .ok (.goto 7, 3) := by decide +kernel
theorem d_Mo_rowLine_84 : decode b_Mo_rowLine 84 = .ok (.aload_n 0, 1) := by decide +kernel
theorem d_Mo_rowLine_85 : decode b_Mo_rowLine 85 = .ok (.invokevirtual 493, 3) := by decide +kernel
theorem d_Mo_rowLine_88 : decode b_Mo_rowLine 88 = .ok (.istore 7, 2) := by decide +kernel
theorem d_Mo_rowLine_90 : decode b_Mo_rowLine 90 = .ok (.iload 7, 2) := by decide +kernel
theorem d_Mo_rowLine_92 : decode b_Mo_rowLine 92 = .ok (.ifCond .ne 5, 3) := by decide +kernel
theorem d_Mo_rowLine_95 : decode b_Mo_rowLine 95 = .ok (.iconst 0, 1) := by decide +kernel
theorem d_Mo_rowLine_96 : decode b_Mo_rowLine 96 = .ok (.ireturn, 1) := by decide +kernel
theorem d_Mo_rowLine_97 : decode b_Mo_rowLine 97 = .ok (.lload_n 2, 1) := by decide +kernel
theorem d_Mo_rowLine_98 : decode b_Mo_rowLine 98 = .ok (.ldc2_w 335, 3) := by decide +kernel
theorem d_Mo_rowLine_101 : decode b_Mo_rowLine 101 = .ok (.lrem, 1) := by decide +kernel
theorem d_Mo_rowLine_102 : decode b_Mo_rowLine 102 = .ok (.lconst 0, 1) := by decide +kernel
theorem d_Mo_rowLine_103 : decode b_Mo_rowLine 103 = .ok (.lcmp, 1) := by decide +kernel
theorem d_Mo_rowLine_104 : decode b_Mo_rowLine 104 = .ok (.ifCond .ne 26, 3) := by decide +kernel
theorem d_Mo_rowLine_107 : decode b_Mo_rowLine 107 = .ok (.aload_n 0, 1) := by decide +kernel
theorem d_Mo_rowLine_108 : decode b_Mo_rowLine 108 = .ok (.getfield 511, 3) := by decide +kernel
theorem d_Mo_rowLine_111 : decode b_Mo_rowLine 111 = .ok (.ifCond .le 26, 3) := by decide +kernel
theorem d_Mo_rowLine_114 : decode b_Mo_rowLine 114 = .ok (.lload_n 2, 1) := by decide +kernel
theorem d_Mo_rowLine_115 : decode b_Mo_rowLine 115 = .ok (.aload_n 0, 1) := by decide +kernel
theorem d_Mo_rowLine_116 : decode b_Mo_rowLine 116 = .ok (.getfield 129, 3) := by decide +kernel
theorem d_Mo_rowLine_119 : decode b_Mo_rowLine 119 = .ok (.aload_n 0, 1) := by decide +kernel
theorem d_Mo_rowLine_120 : decode b_Mo_rowLine 120 = .ok (.getfield 511, 3) := by decide +kernel
theorem d_Mo_rowLine_123 : decode b_Mo_rowLine 123 = .ok (.iconst 1, 1) := by decide +kernel
theorem d_Mo_rowLine_124 : decode b_Mo_rowLine 124 = .ok (.isub, 1) := by decide +kernel
theorem d_Mo_rowLine_125 : decode b_Mo_rowLine 125 = .ok (.laload, 1) := by decide +kernel
theorem d_Mo_rowLine_126 : decode b_Mo_rowLine 126 = .ok (.lcmp, 1) := by decide +kernel
theorem d_Mo_rowLine_127 : decode b_Mo_rowLine 127 = .ok (.ifCond .gt 10, 3) := by decide +kernel
theorem d_Mo_rowLine_130 : decode b_Mo_rowLine 130 = .ok (.aload_n 0, 1) := by decide +kernel
theorem d_Mo_rowLine_131 : decode b_Mo_rowLine 131 = .ok (.iconst 2, 1) := by decide +kernel
theorem d_Mo_rowLine_132 : decode b_Mo_rowLine 132 = .ok (.iload_n 1, 1) := by decide +kernel
theorem d_Mo_rowLine_133 : decode b_Mo_rowLine 133 = .ok (.invokevirtual 217, 3) := by decide +kernel
theorem d_Mo_rowLine_136 : decode b_Mo_rowLine 136 = .ok (.ireturn, 1) := by decide +kernel
theorem d_Mo_rowLine_137 : decode b_Mo_rowLine 137 = .ok (.aload_n 0, 1) := by decide +kernel
theorem d_Mo_rowLine_138 : decode b_Mo_rowLine 138 = .ok (.getfield 511, 3) := by decide +kernel
theorem d_Mo_rowLine_141 : decode b_Mo_rowLine 141 = .ok (.ifCond .le 51, 3) := by decide +kernel
theorem d_Mo_rowLine_144 : decode b_Mo_rowLine 144 = .ok (.lload 5, 2) := by decide +kernel
theorem d_Mo_rowLine_146 : decode b_Mo_rowLine 146 = .ok (.aload_n 0, 1) := by decide +kernel
theorem d_Mo_rowLine_147 : decode b_Mo_rowLine 147 = .ok (.getfield 132, 3) := by decide +kernel
theorem d_Mo_rowLine_150 : decode b_Mo_rowLine 150 = .ok (.aload_n 0, 1) := by decide +kernel
theorem d_Mo_rowLine_151 : decode b_Mo_rowLine 151 = .ok (.getfield 511, 3) := by decide +kernel
theorem d_Mo_rowLine_154 : decode b_Mo_rowLine 154 = .ok (.iconst 1, 1) := by decide +kernel
theorem d_Mo_rowLine_155 : decode b_Mo_rowLine 155 = .ok (.isub, 1) := by decide +kernel
theorem d_Mo_rowLine_156 : decode b_Mo_rowLine 156 = .ok (.laload, 1) := by decide +kernel
theorem d_Mo_rowLine_157 : decode b_Mo_rowLine 157 = .ok (.lsub, 1) := by decide +kernel
theorem d_Mo_rowLine_158 : decode b_Mo_rowLine 158 = .ok (.lconst 1, 1) := by decide +kernel
theorem d_Mo_rowLine_159 : decode b_Mo_rowLine 159 = .ok (.lcmp, 1) := by decide +kernel
theorem d_Mo_rowLine_160 : decode b_Mo_rowLine 160 = .ok (.ifCond .eq 32, 3) := by decide +kernel
theorem d_Mo_rowLine_163 : decode b_Mo_rowLine 163 = .ok (.lload 5, 2) := by decide +kernel
theorem d_Mo_rowLine_165 : decode b_Mo_rowLine 165 = .ok (.aload_n 0, 1) := by decide +kernel
theorem d_Mo_rowLine_166 : decode b_Mo_rowLine 166 = .ok (.getfield 132, 3) := by decide +kernel
theorem d_Mo_rowLine_169 : decode b_Mo_rowLine 169 = .ok (.aload_n 0, 1) := by decide +kernel
theorem d_Mo_rowLine_170 : decode b_Mo_rowLine 170 = .ok (.getfield 511, 3) := by decide +kernel
theorem d_Mo_rowLine_173 : decode b_Mo_rowLine 173 = .ok (.iconst 1, 1) := by decide +kernel
theorem d_Mo_rowLine_174 : decode b_Mo_rowLine 174 = .ok (.isub, 1) := by decide +kernel
theorem d_Mo_rowLine_175 : decode b_Mo_rowLine 175 = .ok (.laload, 1) := by decide +kernel
theorem d_Mo_rowLine_176 : decode b_Mo_rowLine 176 = .ok (.lsub, 1) := by decide +kernel
theorem d_Mo_rowLine_177 : decode b_Mo_rowLine 177 = .ok (.ldc2_w 267, 3) := by decide +kernel
theorem d_Mo_rowLine_180 : decode b_Mo_rowLine 180 = .ok (.lcmp, 1) := by decide +kernel
theorem d_Mo_rowLine_181 : decode b_Mo_rowLine 181 = .ok (.ifCond .eq 11, 3) := by decide +kernel
theorem d_Mo_rowLine_184 : decode b_Mo_rowLine 184 = .ok (.aload_n 0, 1) := by decide +kernel
theorem d_Mo_rowLine_185 : decode b_Mo_rowLine 185 = .ok (.iconst 3, 1) := by decide +kernel
theorem d_Mo_rowLine_186 : decode b_Mo_rowLine 186 = .ok (.iload 4, 2) := by decide +kernel
theorem d_Mo_rowLine_188 : decode b_Mo_rowLine 188 = .ok (.invokevirtual 217, 3) := by decide +kernel
theorem d_Mo_rowLine_191 : decode b_Mo_rowLine 191 = .ok (.ireturn, 1) := by decide +kernel
theorem d_Mo_rowLine_192 : decode b_Mo_rowLine 192 = .ok (.aload_n 0, 1) := by decide +kernel
theorem d_Mo_rowLine_193 : decode b_Mo_rowLine 193 = .ok (.getfield 511, 3) := by decide +kernel
theorem d_Mo_rowLine_196 : decode b_Mo_rowLine 196 = .ok (.bipush 60, 2) := by decide +kernel
theorem d_Mo_rowLine_198 : decode b_Mo_rowLine 198 = .ok (.if_icmp .ne 10, 3) := by decide +kernel
theorem d_Mo_rowLine_201 : decode b_Mo_rowLine 201 = .ok (.aload_n 0, 1) := by decide +kernel
theorem d_Mo_rowLine_202 : decode b_Mo_rowLine 202 = .ok (.iconst 4, 1) := by decide +kernel
theorem d_Mo_rowLine_203 : decode b_Mo_rowLine 203 = .ok (.iload_n 1, 1) := by decide +kernel
theorem d_Mo_rowLine_204 : decode b_Mo_rowLine 204 = .ok (.invokevirtual 217, 3) := by decide +kernel
theorem d_Mo_rowLine_207 : decode b_Mo_rowLine 207 = .ok (.ireturn, 1) := by decide +kernel
theorem d_Mo_rowLine_208 : decode b_Mo_rowLine 208 = .ok (.aload_n 0, 1) := by decide +kernel
theorem d_Mo_rowLine_209 : decode b_Mo_rowLine 209 = .ok (.getfield 129, 3) := by decide +kernel
theorem d_Mo_rowLine_212 : decode b_Mo_rowLine 212 = .ok (.aload_n 0, 1) := by decide +kernel
theorem d_Mo_rowLine_213 : decode b_Mo_rowLine 213 = .ok (.getfield 511, 3) := by decide +kernel
theorem d_Mo_rowLine_216 : decode b_Mo_rowLine 216 = .ok (.lload_n 2, 1) := by decide +kernel
theorem d_Mo_rowLine_217 : decode b_Mo_rowLine 217 = .ok (.lastore, 1) := by decide +kernel
theorem d_Mo_rowLine_218 : decode b_Mo_rowLine 218 = .ok (.aload_n 0, 1) := by decide +kernel
theorem d_Mo_rowLine_219 : decode b_Mo_rowLine 219 = .ok (.getfield 132, 3) := by decide +kernel
theorem d_Mo_rowLine_222 : decode b_Mo_rowLine 222 = .ok (.aload_n 0, 1) := by decide +kernel
theorem d_Mo_rowLine_223 : decode b_Mo_rowLine 223 = .ok (.getfield 511, 3) := by decide +kernel
theorem d_Mo_rowLine_226 : decode b_Mo_rowLine 226 = .ok (.lload 5, 2) := by decide +kernel
theorem d_Mo_rowLine_228 : decode b_Mo_rowLine 228 = .ok (.lastore, 1) := by decide +kernel
theorem d_Mo_rowLine_229 : decode b_Mo_rowLine 229 = .ok (.aload_n 0, 1) := by decide +kernel
theorem d_Mo_rowLine_230 : decode b_Mo_rowLine 230 = .ok (.dup, 1) := by decide +kernel
theorem d_Mo_rowLine_231 : decode b_Mo_rowLine 231 = .ok (.getfield 511, 3) := by decide +kernel
theorem d_Mo_rowLine_234 : decode b_Mo_rowLine 234 = .ok (.iconst 1, 1) := by decide +kernel
theorem d_Mo_rowLine_235 : decode b_Mo_rowLine 235 = .ok (.iadd, 1) := by decide +kernel
theorem d_Mo_rowLine_236 : decode b_Mo_rowLine 236 = .ok (.putfield 511, 3) := by decide +kernel
theorem d_Mo_rowLine_239 : decode b_Mo_rowLine 239 = .ok (.iconst 1, 1) := by decide +kernel
theorem d_Mo_rowLine_240 : decode b_Mo_rowLine 240 = .ok (.ireturn, 1) := by decide +kernel
abbrev b_Mo_line : ByteArray := prog_14_method_92_code
def y_Mo_line : MethodName := ⟨"ZoneFilesModel", "line", "()Z"⟩
theorem d_Mo_line_0 : decode b_Mo_line 0 = .ok (.aload_n 0, 1) := by decide +kernel
theorem d_Mo_line_1 : decode b_Mo_line 1 = .ok (.invokevirtual 175, 3) := by decide +kernel
theorem d_Mo_line_4 : decode b_Mo_line 4 = .ok (.istore_n 1, 1) := by decide +kernel
theorem d_Mo_line_5 : decode b_Mo_line 5 = .ok (.iload_n 1, 1) := by decide +kernel
theorem d_Mo_line_6 : decode b_Mo_line 6 = .ok (.bipush 35, 2) := by decide +kernel
theorem d_Mo_line_8 : decode b_Mo_line 8 = .ok (.if_icmp .ne 44, 3) := by decide +kernel
theorem d_Mo_line_11 : decode b_Mo_line 11 = .ok (.aload_n 0, 1) := by decide +kernel
theorem d_Mo_line_12 : decode b_Mo_line 12 = .ok (.getfield 155, 3) := by decide +kernel
theorem d_Mo_line_15 : decode b_Mo_line 15 = .ok (.iconst 1, 1) := by decide +kernel
theorem d_Mo_line_16 : decode b_Mo_line 16 = .ok (.iadd, 1) := by decide +kernel
theorem d_Mo_line_17 : decode b_Mo_line 17 = .ok (.aload_n 0, 1) := by decide +kernel
theorem d_Mo_line_18 : decode b_Mo_line 18 = .ok (.getfield 158, 3) := by decide +kernel
theorem d_Mo_line_21 : decode b_Mo_line 21 = .ok (.if_icmp .ge 26, 3) := by decide +kernel
theorem d_Mo_line_24 : decode b_Mo_line 24 = .ok (.aload_n 0, 1) := by decide +kernel
theorem d_Mo_line_25 : decode b_Mo_line 25 = .ok (.getfield 7, 3) := by decide +kernel
theorem d_Mo_line_28 : decode b_Mo_line 28 = .ok (.aload_n 0, 1) := by decide +kernel
theorem d_Mo_line_29 : decode b_Mo_line 29 = .ok (.getfield 155, 3) := by decide +kernel
theorem d_Mo_line_32 : decode b_Mo_line 32 = .ok (.iconst 1, 1) := by decide +kernel
theorem d_Mo_line_33 : decode b_Mo_line 33 = .ok (.iadd, 1) := by decide +kernel
theorem d_Mo_line_34 : decode b_Mo_line 34 = .ok (.iaload, 1) := by decide +kernel
theorem d_Mo_line_35 : decode b_Mo_line 35 = .ok (.bipush 64, 2) := by decide +kernel
theorem d_Mo_line_37 : decode b_Mo_line 37 = .ok (.if_icmp .ne 10, 3) := by decide +kernel
theorem d_Mo_line_40 : decode b_Mo_line 40 = .ok (.aload_n 0, 1) := by decide +kernel
theorem d_Mo_line_41 : decode b_Mo_line 41 = .ok (.invokevirtual 514, 3) := by decide +kernel
theorem d_Mo_line_44 : decode b_Mo_line 44 = .ok (.goto 7, 3) := by decide +kernel
theorem d_Mo_line_47 : decode b_Mo_line 47 = .ok (.aload_n 0, 1) := by decide +kernel
theorem d_Mo_line_48 : decode b_Mo_line 48 = .ok (.invokevirtual 508, 3) := by decide +kernel
theorem d_Mo_line_51 : decode b_Mo_line 51 = .ok (.ireturn, 1) := by decide +kernel
theorem d_Mo_line_52 : decode b_Mo_line 52 = .ok (.iload_n 1, 1) := by decide +kernel
theorem d_Mo_line_53 : decode b_Mo_line 53 = .ok (.invokestatic 168, 3) := by decide +kernel
theorem d_Mo_line_56 : decode b_Mo_line 56 = .ok (.ifCond .eq 8, 3) := by decide +kernel
theorem d_Mo_line_59 : decode b_Mo_line 59 = .ok (.aload_n 0, 1) := by decide +kernel
theorem d_Mo_line_60 : decode b_Mo_line 60 = .ok (.invokevirtual 517, 3) := by decide +kernel
theorem d_Mo_line_63 : decode b_Mo_line 63 = .ok (.ireturn, 1) := by decide +kernel
theorem d_Mo_line_64 : decode b_Mo_line 64 = .ok (.aload_n 0, 1) := by decide +kernel
theorem d_Mo_line_65 : decode b_Mo_line 65 = .ok (.invokevirtual 496, 3) := by decide +kernel
theorem d_Mo_line_68 : decode b_Mo_line 68 = .ok (.aload_n 0, 1) := by decide +kernel
theorem d_Mo_line_69 : decode b_Mo_line 69 = .ok (.invokevirtual 493, 3) := by decide +kernel
theorem d_Mo_line_72 : decode b_Mo_line 72 = .ok (.ireturn, 1) := by decide +kernel
abbrev b_Mo_tableText : ByteArray := prog_14_method_93_code
def y_Mo_tableText : MethodName := ⟨"ZoneFilesModel", "tableText", "(I)Z"⟩
theorem d_Mo_tableText_0 : decode b_Mo_tableText 0 = .ok (.aload_n 0, 1) := by decide +kernel
theorem d_Mo_tableText_1 : decode b_Mo_tableText 1 = .ok (.iconst 0, 1) := by decide +kernel
theorem d_Mo_tableText_2 : decode b_Mo_tableText 2 = .ok (.putfield 155, 3) := by decide +kernel
theorem d_Mo_tableText_5 : decode b_Mo_tableText 5 = .ok (.aload_n 0, 1) := by decide +kernel
theorem d_Mo_tableText_6 : decode b_Mo_tableText 6 = .ok (.iload_n 1, 1) := by decide +kernel
theorem d_Mo_tableText_7 : decode b_Mo_tableText 7 = .ok (.putfield 158, 3) := by decide +kernel
theorem d_Mo_tableText_10 : decode b_Mo_tableText 10 = .ok (.aload_n 0, 1) := by decide +kernel
theorem d_Mo_tableText_11 : decode b_Mo_tableText 11 = .ok (.iconst 0, 1) := by decide +kernel
theorem d_Mo_tableText_12 : decode b_Mo_tableText 12 = .ok (.putfield 511, 3) := by decide +kernel
theorem d_Mo_tableText_15 : decode b_Mo_tableText 15 = .ok (.aload_n 0, 1) := by decide +kernel
theorem d_Mo_tableText_16 : decode b_Mo_tableText 16 = .ok (.iconst 0, 1) := by decide +kernel
theorem d_Mo_tableText_17 : decode b_Mo_tableText 17 = .ok (.putfield 502, 3) := by decide +kernel
theorem d_Mo_tableText_20 : decode b_Mo_tableText 20 = .ok (.aload_n 0, 1) := by decide +kernel
theorem d_Mo_tableText_21 : decode b_Mo_tableText 21 = .ok (.getfield 155, 3) := by decide +kernel
theorem d_Mo_tableText_24 : decode b_Mo_tableText 24 = .ok (.aload_n 0, 1) := by decide +kernel
theorem d_Mo_tableText_25 : decode b_Mo_tableText 25 = .ok (.getfield 158, 3) := by decide +kernel
theorem d_Mo_tableText_28 : decode b_Mo_tableText 28 = .ok (.if_icmp .ge 12, 3) := by decide +kernel
theorem d_Mo_tableText_31 : decode b_Mo_tableText 31 = .ok (.aload_n 0, 1) := by decide +kernel
theorem d_Mo_tableText_32 : decode b_Mo_tableText 32 = .ok (.invokevirtual 520, 3) := by decide +kernel
theorem d_Mo_tableText_35 : decode b_Mo_tableText 35 = .ok (.ifCond .ne (-15), 3) := by decide +kernel
theorem d_Mo_tableText_38 : decode b_Mo_tableText 38 = .ok (.iconst 0, 1) := by decide +kernel
theorem d_Mo_tableText_39 : decode b_Mo_tableText 39 = .ok (.ireturn, 1) := by decide +kernel
theorem d_Mo_tableText_40 : decode b_Mo_tableText 40 = .ok (.aload_n 0, 1) := by decide +kernel
theorem d_Mo_tableText_41 : decode b_Mo_tableText 41 = .ok (.getfield 511, 3) := by decide +kernel
theorem d_Mo_tableText_44 : decode b_Mo_tableText 44 = .ok (.ifCond .ne 11, 3) := by decide +kernel
theorem d_Mo_tableText_47 : decode b_Mo_tableText 47 = .ok (.aload_n 0, 1) := by decide +kernel
theorem d_Mo_tableText_48 : decode b_Mo_tableText 48 = .ok (.bipush 6, 2) := by decide +kernel
theorem d_Mo_tableText_50 : decode b_Mo_tableText 50 = .ok (.iload_n 1, 1) := by decide +kernel
theorem d_Mo_tableText_51 : decode b_Mo_tableText 51 = .ok (.invokevirtual 217, 3) := by decide +kernel
theorem d_Mo_tableText_54 : decode b_Mo_tableText 54 = .ok (.ireturn, 1) := by decide +kernel
theorem d_Mo_tableText_55 : decode b_Mo_tableText 55 = .ok (.aload_n 0, 1) := by decide +kernel
theorem d_Mo_tableText_56 : decode b_Mo_tableText 56 = .ok (.getfield 502, 3) := by decide +kernel
theorem d_Mo_tableText_59 : decode b_Mo_tableText 59 = .ok (.ifCond .ne 11, 3) := by decide +kernel
theorem d_Mo_tableText_62 : decode b_Mo_tableText 62 = .ok (.aload_n 0, 1) := by decide +kernel
theorem d_Mo_tableText_63 : decode b_Mo_tableText 63 = .ok (.bipush 7, 2) := by decide +kernel
theorem d_Mo_tableText_65 : decode b_Mo_tableText 65 = .ok (.iload_n 1, 1) := by decide +kernel
theorem d_Mo_tableText_66 : decode b_Mo_tableText 66 = .ok (.invokevirtual 217, 3) := by decide +kernel
theorem d_Mo_tableText_69 : decode b_Mo_tableText 69 = .ok (.ireturn, 1) := by decide +kernel
theorem d_Mo_tableText_70 : decode b_Mo_tableText 70 = .ok (.aload_n 0, 1) := by decide +kernel
theorem d_Mo_tableText_71 : decode b_Mo_tableText 71 = .ok (.getfield 505, 3) := by decide +kernel
theorem d_Mo_tableText_74 : decode b_Mo_tableText 74 = .ok (.aload_n 0, 1) := by decide +kernel
theorem d_Mo_tableText_75 : decode b_Mo_tableText 75 = .ok (.getfield 129, 3) := by decide +kernel
theorem d_Mo_tableText_78 : decode b_Mo_tableText 78 = .ok (.aload_n 0, 1) := by decide +kernel
theorem d_Mo_tableText_79 : decode b_Mo_tableText 79 = .ok (.getfield 511, 3) := by decide +kernel
theorem d_Mo_tableText_82 : decode b_Mo_tableText 82 = .ok (.iconst 1, 1) := by decide +kernel
theorem d_Mo_tableText_83 : decode b_Mo_tableText 83 = .ok (.isub, 1) := by decide +kernel
theorem d_Mo_tableText_84 : decode b_Mo_tableText 84 = .ok (.laload, 1) := by decide +kernel
theorem d_Mo_tableText_85 : decode b_Mo_tableText 85 = .ok (.lcmp, 1) := by decide +kernel
theorem d_Mo_tableText_86 : decode b_Mo_tableText 86 = .ok (.ifCond .gt 13, 3) := by decide +kernel
theorem d_Mo_tableText_89 : decode b_Mo_tableText 89 = .ok (.aload_n 0, 1) := by decide +kernel
theorem d_Mo_tableText_90 : decode b_Mo_tableText 90 = .ok (.bipush 8, 2) := by decide +kernel
theorem d_Mo_tableText_92 : decode b_Mo_tableText 92 = .ok (.iload_n 1, 1) := by decide +kernel
theorem d_Mo_tableText_93 : decode b_Mo_tableText 93 = .ok (.invokevirtual 217, 3) := by decide +kernel
theorem d_Mo_tableText_96 : decode b_Mo_tableText 96 = .ok (.ifCond .eq 7, 3) := by decide +kernel
theorem d_Mo_tableText_99 : decode b_Mo_tableText 99 = .ok (.iconst 1, 1) := by decide +kernel
theorem d_Mo_tableText_100 : decode b_Mo_tableText 100 = .ok (.goto 4, 3) := by decide +kernel
theorem d_Mo_tableText_103 : decode b_Mo_tableText 103 = .ok (.iconst 0, 1) := by decide +kernel
theorem d_Mo_tableText_104 : decode b_Mo_tableText 104 = .ok (.ireturn, 1) := by decide +kernel
abbrev b_Mo_table : ByteArray := prog_14_method_94_code
def y_Mo_table : MethodName := ⟨"ZoneFilesModel", "table", "()I"⟩
theorem d_Mo_table_0 : decode b_Mo_table 0 = .ok (.aload_n 0, 1) := by decide +kernel
theorem d_Mo_table_1 : decode b_Mo_table 1 = .ok (.iconst 0, 1) := by decide +kernel
theorem d_Mo_table_2 : decode b_Mo_table 2 = .ok (.putfield 150, 3) := by decide +kernel
theorem d_Mo_table_5 : decode b_Mo_table 5 = .ok (.aload_n 0, 1) := by decide +kernel
theorem d_Mo_table_6 : decode b_Mo_table 6 = .ok (.iconst 0, 1) := by decide +kernel
theorem d_Mo_table_7 : decode b_Mo_table 7 = .ok (.putfield 206, 3) := by decide +kernel
theorem d_Mo_table_10 : decode b_Mo_table 10 = .ok (.aload_n 0, 1) := by decide +kernel
theorem d_Mo_table_11 : decode b_Mo_table 11 = .ok (.aload_n 0, 1) := by decide +kernel
theorem d_Mo_table_12 : decode b_Mo_table 12 = .ok (.getfield 135, 3) := by decide +kernel
theorem d_Mo_table_15 : decode b_Mo_table 15 = .ok (.invokevirtual 523, 3) := by decide +kernel
theorem d_Mo_table_18 : decode b_Mo_table 18 = .ok (.istore_n 1, 1) := by decide +kernel
theorem d_Mo_table_19 : decode b_Mo_table 19 = .ok (.aload_n 0, 1) := by decide +kernel
theorem d_Mo_table_20 : decode b_Mo_table 20 = .ok (.iconst 0, 1) := by decide +kernel
theorem d_Mo_table_21 : decode b_Mo_table 21 = .ok (.putfield 135, 3) := by decide +kernel
theorem d_Mo_table_24 : decode b_Mo_table 24 = .ok (.iload_n 1, 1) := by decide +kernel
theorem d_Mo_table_25 : decode b_Mo_table 25 = .ok (.ifCond .eq 72, 3) := by decide +kernel
theorem d_Mo_table_28 : decode b_Mo_table 28 = .ok (.aload_n 0, 1) := by decide +kernel
theorem d_Mo_table_29 : decode b_Mo_table 29 = .ok (.iconst 1, 1) := by decide +kernel
theorem d_Mo_table_30 : decode b_Mo_table 30 = .ok (.putfield 526, 3) := by decide +kernel
theorem d_Mo_table_33 : decode b_Mo_table 33 = .ok (.aload_n 0, 1) := by decide +kernel
theorem d_Mo_table_34 : decode b_Mo_table 34 = .ok (.aload_n 0, 1) := by decide +kernel
theorem d_Mo_table_35 : decode b_Mo_table 35 = .ok (.getfield 511, 3) := by decide +kernel
theorem d_Mo_table_38 : decode b_Mo_table 38 = .ok (.putfield 529, 3) := by decide +kernel
theorem d_Mo_table_41 : decode b_Mo_table 41 = .ok (.aload_n 0, 1) := by decide +kernel
theorem d_Mo_table_42 : decode b_Mo_table 42 = .ok (.aload_n 0, 1) := by decide +kernel
theorem d_Mo_table_43 : decode b_Mo_table 43 = .ok (.getfield 505, 3) := by decide +kernel
theorem d_Mo_table_46 : decode b_Mo_table 46 = .ok (.ldc2_w 532, 3) := by decide +kernel
theorem d_Mo_table_49 : decode b_Mo_table 49 = .ok (.lsub, 1) := by decide +kernel
theorem d_Mo_table_50 : decode b_Mo_table 50 = .ok (.putfield 534, 3) := by decide +kernel
theorem d_Mo_table_53 : decode b_Mo_table 53 = .ok (.iconst 0, 1) := by decide +kernel
theorem d_Mo_table_54 : decode b_Mo_table 54 = .ok (.istore_n 2, 1) := by decide +kernel
theorem d_Mo_table_55 : decode b_Mo_table 55 = .ok (.iload_n 2, 1) := by decide +kernel
theorem d_Mo_table_56 : decode b_Mo_table 56 = .ok (.aload_n 0, 1) := by decide +kernel
theorem d_Mo_table_57 : decode b_Mo_table 57 = .ok (.getfield 529, 3) := by decide +kernel
theorem d_Mo_table_60 : decode b_Mo_table 60 = .ok (.if_icmp .ge 37, 3) := by decide +kernel
theorem d_Mo_table_63 : decode b_Mo_table 63 = .ok (.aload_n 0, 1) := by decide +kernel
theorem d_Mo_table_64 : decode b_Mo_table 64 = .ok (.getfield 123, 3) := by decide +kernel
theorem d_Mo_table_67 : decode b_Mo_table 67 = .ok (.iload_n 2, 1) := by decide +kernel
theorem d_Mo_table_68 : decode b_Mo_table 68 = .ok (.aload_n 0, 1) := by decide +kernel
theorem d_Mo_table_69 : decode b_Mo_table 69 = .ok (.getfield 129, 3) := by decide +kernel
theorem d_Mo_table_72 : decode b_Mo_table 72 = .ok (.iload_n 2, 1) := by decide +kernel
theorem d_Mo_table_73 : decode b_Mo_table 73 = .ok (.laload, 1) := by decide +kernel
theorem d_Mo_table_74 : decode b_Mo_table 74 = .ok (.ldc2_w 532, 3) := by decide +kernel
theorem d_Mo_table_77 : decode b_Mo_table 77 = .ok (.lsub, 1) := by decide +kernel
theorem d_Mo_table_78 : decode b_Mo_table 78 = .ok (.lastore, 1) := by decide +kernel
theorem d_Mo_table_79 : decode b_Mo_table 79 = .ok (.aload_n 0, 1) := by decide +kernel
theorem d_Mo_table_80 : decode b_Mo_table 80 = .ok (.getfield 126, 3) := by decide +kernel
theorem d_Mo_table_83 : decode b_Mo_table 83 = .ok (.iload_n 2, 1) := by decide +kernel
theorem d_Mo_table_84 : decode b_Mo_table 84 = .ok (.aload_n 0, 1) := by decide +kernel
theorem d_Mo_table_85 : decode b_Mo_table 85 = .ok (.getfield 132, 3) := by decide +kernel
theorem d_Mo_table_88 : decode b_Mo_table 88 = .ok (.iload_n 2, 1) := by decide +kernel
theorem d_Mo_table_89 : decode b_Mo_table 89 = .ok (.laload, 1) := by decide +kernel
theorem d_Mo_table_90 : decode b_Mo_table 90 = .ok (.lastore, 1) := by decide +kernel
theorem d_Mo_table_91 : decode b_Mo_table 91 = .ok (.iinc 2 1, 3) := by decide +kernel
theorem d_Mo_table_94 : decode b_Mo_table 94 = .ok (.goto (-39), 3) := by decide +kernel
theorem d_Mo_table_97 : decode b_Mo_table 97 = .ok (.aload_n 0, 1) := by decide +kernel
theorem d_Mo_table_98 : decode b_Mo_table 98 = .ok (.getfield 206, 3) := by decide +kernel
theorem d_Mo_table_101 : decode b_Mo_table 101 = .ok (.ireturn, 1) := by decide +kernel
abbrev b_Mo_told : ByteArray := prog_14_method_95_code
def y_Mo_told : MethodName := ⟨"ZoneFilesModel", "told", "(I)J"⟩
theorem d_Mo_told_0 : decode b_Mo_told 0 = .ok (.aload_n 0, 1) := by decide +kernel
theorem d_Mo_told_1 : decode b_Mo_told 1 = .ok (.iload_n 1, 1) := by decide +kernel
theorem d_Mo_told_2 : decode b_Mo_told 2 = .ok (.ifCond .lt 8, 3) := by decide +kernel
theorem d_Mo_told_5 : decode b_Mo_told 5 = .ok (.iload_n 1, 1) := by decide +kernel
theorem d_Mo_told_6 : decode b_Mo_told 6 = .ok (.iconst 1, 1) := by decide +kernel
theorem d_Mo_told_7 : decode b_Mo_told 7 = .ok (.if_icmp .le 7, 3) := by decide +kernel
theorem d_Mo_told_10 : decode b_Mo_told 10 = .ok (.iconst 1, 1) := by decide +kernel
theorem d_Mo_told_11 : decode b_Mo_told 11 = .ok (.goto 15, 3) := by decide +kernel
theorem d_Mo_told_14 : decode b_Mo_told 14 = .ok (.aload_n 0, 1) := by decide +kernel
theorem d_Mo_told_15 : decode b_Mo_told 15 = .ok (.getfield 526, 3) := by decide +kernel
theorem d_Mo_told_18 : decode b_Mo_told 18 = .ok (.ifCond .ne 7, 3) := by decide +kernel
theorem d_Mo_told_21 : decode b_Mo_told 21 = .ok (.iconst 2, 1) := by decide +kernel
theorem d_Mo_told_22 : decode b_Mo_told 22 = .ok (.goto 4, 3) := by decide +kernel
theorem d_Mo_told_25 : decode b_Mo_told 25 = .ok (.iconst 0, 1) := by decide +kernel
theorem d_Mo_told_26 : decode b_Mo_told 26 = .ok (.putfield 150, 3) := by decide +kernel
theorem d_Mo_told_29 : decode b_Mo_told 29 = .ok (.aload_n 0, 1) := by decide +kernel
theorem d_Mo_told_30 : decode b_Mo_told 30 = .ok (.getfield 150, 3) := by decide +kernel
theorem d_Mo_told_33 : decode b_Mo_told 33 = .ok (.ifCond .le 7, 3) := by decide +kernel
theorem d_Mo_told_36 : decode b_Mo_told 36 = .ok (.lconst 0, 1) := by decide +kernel
theorem d_Mo_told_37 : decode b_Mo_told 37 = .ok (.goto 19, 3) := by decide +kernel
theorem d_Mo_told_40 : decode b_Mo_told 40 = .ok (.iload_n 1, 1) := by decide +kernel
theorem d_Mo_told_41 : decode b_Mo_told 41 = .ok (.ifCond .ne 11, 3) := by decide +kernel
theorem d_Mo_told_44 : decode b_Mo_told 44 = .ok (.aload_n 0, 1) := by decide +kernel
theorem d_Mo_told_45 : decode b_Mo_told 45 = .ok (.getfield 529, 3) := by decide +kernel
theorem d_Mo_told_48 : decode b_Mo_told 48 = .ok (.i2l, 1) := by decide +kernel
theorem d_Mo_told_49 : decode b_Mo_told 49 = .ok (.goto 7, 3) := by decide +kernel
theorem d_Mo_told_52 : decode b_Mo_told 52 = .ok (.aload_n 0, 1) := by decide +kernel
theorem d_Mo_told_53 : decode b_Mo_told 53 = .ok (.getfield 534, 3) := by decide +kernel
theorem d_Mo_told_56 : decode b_Mo_told 56 = .ok (.lreturn, 1) := by decide +kernel
abbrev b_Mo_row : ByteArray := prog_14_method_96_code
def y_Mo_row : MethodName := ⟨"ZoneFilesModel", "row", "(II)J"⟩
theorem d_Mo_row_0 : decode b_Mo_row 0 = .ok (.aload_n 0, 1) := by decide +kernel
theorem d_Mo_row_1 : decode b_Mo_row 1 = .ok (.aload_n 0, 1) := by decide +kernel
theorem d_Mo_row_2 : decode b_Mo_row 2 = .ok (.getfield 526, 3) := by decide +kernel
theorem d_Mo_row_5 : decode b_Mo_row 5 = .ok (.ifCond .eq 24, 3) := by decide +kernel
theorem d_Mo_row_8 : decode b_Mo_row 8 = .ok (.iload_n 1, 1) := by decide +kernel
theorem d_Mo_row_9 : decode b_Mo_row 9 = .ok (.ifCond .lt 20, 3) := by decide +kernel
theorem d_Mo_row_12 : decode b_Mo_row 12 = .ok (.iload_n 1, 1) := by decide +kernel
theorem d_Mo_row_13 : decode b_Mo_row 13 = .ok (.aload_n 0, 1) := by decide +kernel
theorem d_Mo_row_14 : decode b_Mo_row 14 = .ok (.getfield 529, 3) := by decide +kernel
theorem d_Mo_row_17 : decode b_Mo_row 17 = .ok (.if_icmp .ge 12, 3) := by decide +kernel
theorem d_Mo_row_20 : decode b_Mo_row 20 = .ok (.iload_n 2, 1) := by decide +kernel
theorem d_Mo_row_21 : decode b_Mo_row 21 = .ok (.ifCond .lt 8, 3) := by decide +kernel
theorem d_Mo_row_24 : decode b_Mo_row 24 = .ok (.iload_n 2, 1) := by decide +kernel
theorem d_Mo_row_25 : decode b_Mo_row 25 = .ok (.iconst 1, 1) := by decide +kernel
theorem d_Mo_row_26 : decode b_Mo_row 26 = .ok (.if_icmp .le 7, 3) := by decide +kernel
theorem d_Mo_row_29 : decode b_Mo_row 29 = .ok (.iconst 1, 1) := by decide +kernel
theorem d_Mo_row_30 : decode b_Mo_row 30 = .ok (.goto 4, 3) := by decide +kernel
theorem d_Mo_row_33 : decode b_Mo_row 33 = .ok (.iconst 0, 1) := by decide +kernel
theorem d_Mo_row_34 : decode b_Mo_row 34 = .ok (.putfield 150, 3) := by decide +kernel
theorem d_Mo_row_37 : decode b_Mo_row 37 = .ok (.aload_n 0, 1) := by decide +kernel
theorem d_Mo_row_38 : decode b_Mo_row 38 = .ok (.getfield 150, 3) := by decide +kernel
theorem d_Mo_row_41 : decode b_Mo_row 41 = .ok (.ifCond .le 7, 3) := by decide +kernel
theorem d_Mo_row_44 : decode b_Mo_row 44 = .ok (.lconst 0, 1) := by decide +kernel
theorem d_Mo_row_45 : decode b_Mo_row 45 = .ok (.goto 22, 3) := by decide +kernel
theorem d_Mo_row_48 : decode b_Mo_row 48 = .ok (.iload_n 2, 1) := by decide +kernel
theorem d_Mo_row_49 : decode b_Mo_row 49 = .ok (.ifCond .ne 12, 3) := by decide +kernel
theorem d_Mo_row_52 : decode b_Mo_row 52 = .ok (.aload_n 0, 1) := by decide +kernel
theorem d_Mo_row_53 : decode b_Mo_row 53 = .ok (.getfield 123, 3) := by decide +kernel
theorem d_Mo_row_56 : decode b_Mo_row 56 = .ok (.iload_n 1, 1) := by decide +kernel
theorem d_Mo_row_57 : decode b_Mo_row 57 = .ok (.laload, 1) := by decide +kernel
theorem d_Mo_row_58 : decode b_Mo_row 58 = .ok (.goto 9, 3) := by decide +kernel
theorem d_Mo_row_61 : decode b_Mo_row 61 = .ok (.aload_n 0, 1) := by decide +kernel
theorem d_Mo_row_62 : decode b_Mo_row 62 = .ok (.getfield 126, 3) := by decide +kernel
theorem d_Mo_row_65 : decode b_Mo_row 65 = .ok (.iload_n 1, 1) := by decide +kernel
theorem d_Mo_row_66 : decode b_Mo_row 66 = .ok (.laload, 1) := by decide +kernel
theorem d_Mo_row_67 : decode b_Mo_row 67 = .ok (.lreturn, 1) := by decide +kernel
abbrev b_Mo_atomic : ByteArray := prog_14_method_97_code
def y_Mo_atomic : MethodName := ⟨"ZoneFilesModel", "atomic", "(J)J"⟩
theorem d_Mo_atomic_0 : decode b_Mo_atomic 0 = .ok (.aload_n 0, 1) := by decide +kernel
theorem d_Mo_atomic_1 : decode b_Mo_atomic 1 = .ok (.iconst 0, 1) := by decide +kernel
theorem d_Mo_atomic_2 : decode b_Mo_atomic 2 = .ok (.putfield 150, 3) := by decide +kernel
theorem d_Mo_atomic_5 : decode b_Mo_atomic 5 = .ok (.aload_n 0, 1) := by decide +kernel
theorem d_Mo_atomic_6 : decode b_Mo_atomic 6 = .ok (.getfield 526, 3) := by decide +kernel
theorem d_Mo_atomic_9 : decode b_Mo_atomic 9 = .ok (.ifCond .eq 23, 3) := by decide +kernel
theorem d_Mo_atomic_12 : decode b_Mo_atomic 12 = .ok (.lload_n 1, 1) := by decide +kernel
theorem d_Mo_atomic_13 : decode b_Mo_atomic 13 = .ok (.aload_n 0, 1) := by decide +kernel
theorem d_Mo_atomic_14 : decode b_Mo_atomic 14 = .ok (.getfield 123, 3) := by decide +kernel
theorem d_Mo_atomic_17 : decode b_Mo_atomic 17 = .ok (.iconst 0, 1) := by decide +kernel
theorem d_Mo_atomic_18 : decode b_Mo_atomic 18 = .ok (.laload, 1) := by decide +kernel
theorem d_Mo_atomic_19 : decode b_Mo_atomic 19 = .ok (.lcmp, 1) := by decide +kernel
theorem d_Mo_atomic_20 : decode b_Mo_atomic 20 = .ok (.ifCond .lt 12, 3) := by decide +kernel
theorem d_Mo_atomic_23 : decode b_Mo_atomic 23 = .ok (.lload_n 1, 1) := by decide +kernel
theorem d_Mo_atomic_24 : decode b_Mo_atomic 24 = .ok (.aload_n 0, 1) := by decide +kernel
theorem d_Mo_atomic_25 : decode b_Mo_atomic 25 = .ok (.getfield 534, 3) := by decide +kernel
theorem d_Mo_atomic_28 : decode b_Mo_atomic 28 = .ok (.lcmp, 1) := by decide +kernel
theorem d_Mo_atomic_29 : decode b_Mo_atomic 29 = .ok (.ifCond .lt 7, 3) := by decide +kernel
theorem d_Mo_atomic_32 : decode b_Mo_atomic 32 = .ok (.ldc2_w 370, 3) := by decide +kernel
theorem d_Mo_atomic_35 : decode b_Mo_atomic 35 = .ok (.lreturn, 1) := by decide +kernel
theorem d_Mo_atomic_36 : decode b_Mo_atomic 36 = .ok (.aload_n 0, 1) := by decide +kernel
theorem d_Mo_atomic_37 : decode b_Mo_atomic 37 = .ok (.getfield 529, 3) := by decide +kernel
theorem d_Mo_atomic_40 : decode b_Mo_atomic 40 = .ok (.iconst 1, 1) := by decide +kernel
theorem d_Mo_atomic_41 : decode b_Mo_atomic 41 = .ok (.isub, 1) := by decide +kernel
theorem d_Mo_atomic_42 : decode b_Mo_atomic 42 = .ok (.istore_n 3, 1) := by decide +kernel
theorem d_Mo_atomic_43 : decode b_Mo_atomic 43 = .ok (.aload_n 0, 1) := by decide +kernel
theorem d_Mo_atomic_44 : decode b_Mo_atomic 44 = .ok (.getfield 123, 3) := by decide +kernel
theorem d_Mo_atomic_47 : decode b_Mo_atomic 47 = .ok (.iload_n 3, 1) := by decide +kernel
theorem d_Mo_atomic_48 : decode b_Mo_atomic 48 = .ok (.laload, 1) := by decide +kernel
theorem d_Mo_atomic_49 : decode b_Mo_atomic 49 = .ok (.lload_n 1, 1) := by decide +kernel
theorem d_Mo_atomic_50 : decode b_Mo_atomic 50 = .ok (.lcmp, 1) := by decide +kernel
theorem d_Mo_atomic_51 : decode b_Mo_atomic 51 = .ok (.ifCond .le 9, 3) := by decide +kernel
theorem d_Mo_atomic_54 : decode b_Mo_atomic 54 = .ok (.iinc 3 (-1), 3) := by decide +kernel
theorem d_Mo_atomic_57 : decode b_Mo_atomic 57 = .ok (.goto (-14), 3) := by decide +kernel
theorem d_Mo_atomic_60 : decode b_Mo_atomic 60 = .ok (.iload_n 3, 1) := by decide +kernel
theorem d_Mo_atomic_61 : decode b_Mo_atomic 61 = .ok (.iconst 1, 1) := by decide +kernel
theorem d_Mo_atomic_62 : decode b_Mo_atomic 62 = .ok (.iadd, 1) := by decide +kernel
theorem d_Mo_atomic_63 : decode b_Mo_atomic 63 = .ok (.aload_n 0, 1) := by decide +kernel
theorem d_Mo_atomic_64 : decode b_Mo_atomic 64 = .ok (.getfield 529, 3) := by decide +kernel
theorem d_Mo_atomic_67 : decode b_Mo_atomic 67 = .ok (.if_icmp .ge 40, 3) := by decide +kernel
theorem d_Mo_atomic_70 : decode b_Mo_atomic 70 = .ok (.lload_n 1, 1) := by decide +kernel
theorem d_Mo_atomic_71 : decode b_Mo_atomic 71 = .ok (.aload_n 0, 1) := by decide +kernel
theorem d_Mo_atomic_72 : decode b_Mo_atomic 72 = .ok (.getfield 123, 3) := by decide +kernel
theorem d_Mo_atomic_75 : decode b_Mo_atomic 75 = .ok (.iload_n 3, 1) := by decide +kernel
theorem d_Mo_atomic_76 : decode b_Mo_atomic 76 = .ok (.iconst 1, 1) := by decide +kernel
theorem d_Mo_atomic_77 : decode b_Mo_atomic 77 = .ok (.iadd, 1) := by decide +kernel
theorem d_Mo_atomic_78 : decode b_Mo_atomic 78 = .ok (.laload, 1) := by decide +kernel
theorem d_Mo_atomic_79 : decode b_Mo_atomic 79 = .ok (.lconst 1, 1) := by decide +kernel
theorem d_Mo_atomic_80 : decode b_Mo_atomic 80 = .ok (.lsub, 1) := by decide +kernel
theorem d_Mo_atomic_81 : decode b_Mo_atomic 81 = .ok (.lcmp, 1) := by decide +kernel
theorem d_Mo_atomic_82 : decode b_Mo_atomic 82 = .ok (.ifCond .ne 25, 3) := by decide +kernel
theorem d_Mo_atomic_85 : decode b_Mo_atomic 85 = .ok (.aload_n 0, 1) := by decide +kernel
theorem d_Mo_atomic_86 : decode b_Mo_atomic 86 = .ok (.getfield 126, 3) := by decide +kernel
theorem d_Mo_atomic_89 : decode b_Mo_atomic 89 = .ok (.iload_n 3, 1) := by decide +kernel
theorem d_Mo_atomic_90 : decode b_Mo_atomic 90 = .ok (.iconst 1, 1) := by decide +kernel
theorem d_Mo_atomic_91 : decode b_Mo_atomic 91 = .ok (.iadd, 1) := by decide +kernel
theorem d_Mo_atomic_92 : decode b_Mo_atomic 92 = .ok (.laload, 1) := by decide +kernel
theorem d_Mo_atomic_93 : decode b_Mo_atomic 93 = .ok (.aload_n 0, 1) := by decide +kernel
theorem d_Mo_atomic_94 : decode b_Mo_atomic 94 = .ok (.getfield 126, 3) := by decide +kernel
theorem d_Mo_atomic_97 : decode b_Mo_atomic 97 = .ok (.iload_n 3, 1) := by decide +kernel
theorem d_Mo_atomic_98 : decode b_Mo_atomic 98 = .ok (.laload, 1) := by decide +kernel
theorem d_Mo_atomic_99 : decode b_Mo_atomic 99 = .ok (.lcmp, 1) := by decide +kernel
theorem d_Mo_atomic_100 : decode b_Mo_atomic 100 = .ok (.ifCond .ge 7, 3) := by decide +kernel
theorem d_Mo_atomic_103 : decode b_Mo_atomic 103 = .ok (.iconst 1, 1) := by decide +kernel
theorem d_Mo_atomic_104 : decode b_Mo_atomic 104 = .ok (.goto 4, 3) := by decide +kernel
theorem d_Mo_atomic_107 : decode b_Mo_atomic 107 = .ok (.iconst 0, 1) := by decide +kernel
theorem d_Mo_atomic_108 : decode b_Mo_atomic 108 = .ok (.istore 4, 2) := by decide +kernel
theorem d_Mo_atomic_110 : decode b_Mo_atomic 110 = .ok (.iload 4, 2) := by decide +kernel
theorem d_Mo_atomic_112 : decode b_Mo_atomic 112 = .ok (.ifCond .eq 9, 3) := by decide +kernel
theorem d_Mo_atomic_115 : decode b_Mo_atomic 115 = .ok (.ldc2_w 370, 3) := by decide +kernel
theorem d_Mo_atomic_118 : decode b_Mo_atomic 118 = .ok (.goto 11, 3) := by decide +kernel
theorem d_Mo_atomic_121 : decode b_Mo_atomic 121 = .ok (.lload_n 1, 1) := by decide +kernel
theorem d_Mo_atomic_122 : decode b_Mo_atomic 122 = .ok (.aload_n 0, 1) := by decide +kernel
theorem d_Mo_atomic_123 : decode b_Mo_atomic 123 = .ok (.getfield 126, 3) := by decide +kernel
theorem d_Mo_atomic_126 : decode b_Mo_atomic 126 = .ok (.iload_n 3, 1) := by decide +kernel
theorem d_Mo_atomic_127 : decode b_Mo_atomic 127 = .ok (.laload, 1) := by decide +kernel
theorem d_Mo_atomic_128 : decode b_Mo_atomic 128 = .ok (.ladd, 1) := by decide +kernel
theorem d_Mo_atomic_129 : decode b_Mo_atomic 129 = .ok (.lreturn, 1) := by decide +kernel
abbrev b_Mo_rowOf : ByteArray := prog_14_method_98_code
def y_Mo_rowOf : MethodName := ⟨"ZoneFilesModel", "rowOf", "(J)I"⟩
theorem d_Mo_rowOf_0 : decode b_Mo_rowOf 0 = .ok (.aload_n 0, 1) := by decide +kernel
theorem d_Mo_rowOf_1 : decode b_Mo_rowOf 1 = .ok (.getfield 526, 3) := by decide +kernel
theorem d_Mo_rowOf_4 : decode b_Mo_rowOf 4 = .ok (.ifCond .eq 42, 3) := by decide +kernel
theorem d_Mo_rowOf_7 : decode b_Mo_rowOf 7 = .ok (.lload_n 1, 1) := by decide +kernel
theorem d_Mo_rowOf_8 : decode b_Mo_rowOf 8 = .ok (.aload_n 0, 1) := by decide +kernel
theorem d_Mo_rowOf_9 : decode b_Mo_rowOf 9 = .ok (.getfield 123, 3) := by decide +kernel
theorem d_Mo_rowOf_12 : decode b_Mo_rowOf 12 = .ok (.iconst 0, 1) := by decide +kernel
theorem d_Mo_rowOf_13 : decode b_Mo_rowOf 13 = .ok (.laload, 1) := by decide +kernel
theorem d_Mo_rowOf_14 : decode b_Mo_rowOf 14 = .ok (.aload_n 0, 1) := by decide +kernel
theorem d_Mo_rowOf_15 : decode b_Mo_rowOf 15 = .ok (.getfield 126, 3) := by decide +kernel
theorem d_Mo_rowOf_18 : decode b_Mo_rowOf 18 = .ok (.iconst 0, 1) := by decide +kernel
theorem d_Mo_rowOf_19 : decode b_Mo_rowOf 19 = .ok (.laload, 1) := by decide +kernel
theorem d_Mo_rowOf_20 : decode b_Mo_rowOf 20 = .ok (.ladd, 1) := by decide +kernel
theorem d_Mo_rowOf_21 : decode b_Mo_rowOf 21 = .ok (.lcmp, 1) := by decide +kernel
theorem d_Mo_rowOf_22 : decode b_Mo_rowOf 22 = .ok (.ifCond .lt 24, 3) := by decide +kernel
theorem d_Mo_rowOf_25 : decode b_Mo_rowOf 25 = .ok (.lload_n 1, 1) := by decide +kernel
theorem d_Mo_rowOf_26 : decode b_Mo_rowOf 26 = .ok (.aload_n 0, 1) := by decide +kernel
theorem d_Mo_rowOf_27 : decode b_Mo_rowOf 27 = .ok (.getfield 534, 3) := by decide +kernel
theorem d_Mo_rowOf_30 : decode b_Mo_rowOf 30 = .ok (.aload_n 0, 1) := by decide +kernel
theorem d_Mo_rowOf_31 : decode b_Mo_rowOf 31 = .ok (.getfield 126, 3) := by decide +kernel
theorem d_Mo_rowOf_34 : decode b_Mo_rowOf 34 = .ok (.aload_n 0, 1) := by decide +kernel
theorem d_Mo_rowOf_35 : decode b_Mo_rowOf 35 = .ok (.getfield 529, 3) := by decide +kernel
theorem d_Mo_rowOf_38 : decode b_Mo_rowOf 38 = .ok (.iconst 1, 1) := by decide +kernel
theorem d_Mo_rowOf_39 : decode b_Mo_rowOf 39 = .ok (.isub, 1) := by decide +kernel
theorem d_Mo_rowOf_40 : decode b_Mo_rowOf 40 = .ok (.laload, 1) := by decide +kernel
theorem d_Mo_rowOf_41 : decode b_Mo_rowOf 41 = .ok (.ladd, 1) := by decide +kernel
theorem d_Mo_rowOf_42 : decode b_Mo_rowOf 42 = .ok (.lcmp, 1) := by decide +kernel
theorem d_Mo_rowOf_43 : decode b_Mo_rowOf 43 = .ok (.ifCond .lt 5, 3) := by decide +kernel
theorem d_Mo_rowOf_46 : decode b_Mo_rowOf 46 = .ok (.iconst (-1), 1) := by decide +kernel
theorem d_Mo_rowOf_47 : decode b_Mo_rowOf 47 = .ok (.ireturn, 1) := by decide +kernel
theorem d_Mo_rowOf_48 : decode b_Mo_rowOf 48 = .ok (.aload_n 0, 1) := by decide +kernel
theorem d_Mo_rowOf_49 : decode b_Mo_rowOf 49 = .ok (.getfield 529, 3) := by decide +kernel
theorem d_Mo_rowOf_52 : decode b_Mo_rowOf 52 = .ok (.iconst 1, 1) := by decide +kernel
theorem d_Mo_rowOf_53 : decode b_Mo_rowOf 53 = .ok (.isub, 1) := by decide +kernel
theorem d_Mo_rowOf_54 : decode b_Mo_rowOf 54 = .ok (.istore_n 3, 1) := by decide +kernel
theorem d_Mo_rowOf_55 : decode b_Mo_rowOf 55 = .ok (.aload_n 0, 1) := by decide +kernel
theorem d_Mo_rowOf_56 : decode b_Mo_rowOf 56 = .ok (.getfield 123, 3) := by decide +kernel
theorem d_Mo_rowOf_59 : decode b_Mo_rowOf 59 = .ok (.iload_n 3, 1) := by decide +kernel
theorem d_Mo_rowOf_60 : decode b_Mo_rowOf 60 = .ok (.laload, 1) := by decide +kernel
theorem d_Mo_rowOf_61 : decode b_Mo_rowOf 61 = .ok (.aload_n 0, 1) := by decide +kernel
theorem d_Mo_rowOf_62 : decode b_Mo_rowOf 62 = .ok (.getfield 126, 3) := by decide +kernel
theorem d_Mo_rowOf_65 : decode b_Mo_rowOf 65 = .ok (.iload_n 3, 1) := by decide +kernel
theorem d_Mo_rowOf_66 : decode b_Mo_rowOf 66 = .ok (.laload, 1) := by decide +kernel
theorem d_Mo_rowOf_67 : decode b_Mo_rowOf 67 = .ok (.ladd, 1) := by decide +kernel
theorem d_Mo_rowOf_68 : decode b_Mo_rowOf 68 = .ok (.lload_n 1, 1) := by decide +kernel
theorem d_Mo_rowOf_69 : decode b_Mo_rowOf 69 = .ok (.lcmp, 1) := by decide +kernel
theorem d_Mo_rowOf_70 : decode b_Mo_rowOf 70 = .ok (.ifCond .le 9, 3) := by decide +kernel
theorem d_Mo_rowOf_73 : decode b_Mo_rowOf 73 = .ok (.iinc 3 (-1), 3) := by decide +kernel
theorem d_Mo_rowOf_76 : decode b_Mo_rowOf 76 = .ok (.goto (-21), 3) := by decide +kernel
theorem d_Mo_rowOf_79 : decode b_Mo_rowOf 79 = .ok (.iload_n 3, 1) := by decide +kernel
theorem d_Mo_rowOf_80 : decode b_Mo_rowOf 80 = .ok (.ireturn, 1) := by decide +kernel
abbrev b_Mo_isLeap : ByteArray := prog_14_method_99_code
def y_Mo_isLeap : MethodName := ⟨"ZoneFilesModel", "isLeap", "(J)Z"⟩
theorem d_Mo_isLeap_0 : decode b_Mo_isLeap 0 = .ok (.aload_n 0, 1) := by decide +kernel
theorem d_Mo_isLeap_1 : decode b_Mo_isLeap 1 = .ok (.iconst 0, 1) := by decide +kernel
theorem d_Mo_isLeap_2 : decode b_Mo_isLeap 2 = .ok (.putfield 150, 3) := by decide +kernel
theorem d_Mo_isLeap_5 : decode b_Mo_isLeap 5 = .ok (.aload_n 0, 1) := by decide +kernel
theorem d_Mo_isLeap_6 : decode b_Mo_isLeap 6 = .ok (.lload_n 1, 1) := by decide +kernel
theorem d_Mo_isLeap_7 : decode b_Mo_isLeap 7 = .ok (.invokevirtual 537, 3) := by decide +kernel
theorem d_Mo_isLeap_10 : decode b_Mo_isLeap 10 = .ok (.istore_n 3, 1) := by decide +kernel
theorem d_Mo_isLeap_11 : decode b_Mo_isLeap 11 = .ok (.iload_n 3, 1) := by decide +kernel
theorem d_Mo_isLeap_12 : decode b_Mo_isLeap 12 = .ok (.ifCond .lt 37, 3) := by decide +kernel
theorem d_Mo_isLeap_15 : decode b_Mo_isLeap 15 = .ok (.iload_n 3, 1) := by decide +kernel
theorem d_Mo_isLeap_16 : decode b_Mo_isLeap 16 = .ok (.iconst 1, 1) := by decide +kernel
theorem d_Mo_isLeap_17 : decode b_Mo_isLeap 17 = .ok (.iadd, 1) := by decide +kernel
theorem d_Mo_isLeap_18 : decode b_Mo_isLeap 18 = .ok (.aload_n 0, 1) := by decide +kernel
theorem d_Mo_isLeap_19 : decode b_Mo_isLeap 19 = .ok (.getfield 529, 3) := by decide +kernel
theorem d_Mo_isLeap_22 : decode b_Mo_isLeap 22 = .ok (.if_icmp .ge 27, 3) := by decide +kernel
theorem d_Mo_isLeap_25 : decode b_Mo_isLeap 25 = .ok (.lload_n 1, 1) := by decide +kernel
theorem d_Mo_isLeap_26 : decode b_Mo_isLeap 26 = .ok (.aload_n 0, 1) := by decide +kernel
theorem d_Mo_isLeap_27 : decode b_Mo_isLeap 27 = .ok (.getfield 126, 3) := by decide +kernel
theorem d_Mo_isLeap_30 : decode b_Mo_isLeap 30 = .ok (.iload_n 3, 1) := by decide +kernel
theorem d_Mo_isLeap_31 : decode b_Mo_isLeap 31 = .ok (.laload, 1) := by decide +kernel
theorem d_Mo_isLeap_32 : decode b_Mo_isLeap 32 = .ok (.lsub, 1) := by decide +kernel
theorem d_Mo_isLeap_33 : decode b_Mo_isLeap 33 = .ok (.aload_n 0, 1) := by decide +kernel
theorem d_Mo_isLeap_34 : decode b_Mo_isLeap 34 = .ok (.getfield 123, 3) := by decide +kernel
theorem d_Mo_isLeap_37 : decode b_Mo_isLeap 37 = .ok (.iload_n 3, 1) := by decide +kernel
theorem d_Mo_isLeap_38 : decode b_Mo_isLeap 38 = .ok (.iconst 1, 1) := by decide +kernel
theorem d_Mo_isLeap_39 : decode b_Mo_isLeap 39 = .ok (.iadd, 1) := by decide +kernel
theorem d_Mo_isLeap_40 : decode b_Mo_isLeap 40 = .ok (.laload, 1) := by decide +kernel
theorem d_Mo_isLeap_41 : decode b_Mo_isLeap 41 = .ok (.lcmp, 1) := by decide +kernel
theorem d_Mo_isLeap_42 : decode b_Mo_isLeap 42 = .ok (.ifCond .lt 7, 3) := by decide +kernel
theorem d_Mo_isLeap_45 : decode b_Mo_isLeap 45 = .ok (.iconst 1, 1) := by decide +kernel
theorem d_Mo_isLeap_46 : decode b_Mo_isLeap 46 = .ok (.goto 4, 3) := by decide +kernel
theorem d_Mo_isLeap_49 : decode b_Mo_isLeap 49 = .ok (.iconst 0, 1) := by decide +kernel
theorem d_Mo_isLeap_50 : decode b_Mo_isLeap 50 = .ok (.ireturn, 1) := by decide +kernel
-- ZoneFilesModel.blanks()V
def f_Mo_blanks_0 (nf : Nat) : Nat → (Nat → Int32) → (Nat → Int64) → (Nat → Nat → Int32) → (Nat → Nat → Int64) → Option ((Nat → Int32) × (Nat → Int64) × (Nat → Nat → Int32) × (Nat → Nat → Int64))
  | 0, _, _, _, _ => none
  | n + 1, si, sj, sa, sb =>
    (f_Mo_look nf si sj sa sb).bind fun r_1 =>
    (f_Mo_isBlank nf r_1).bind fun r_2 =>
    if r_2 = 0 then
    some (si, sj, sa, sb)
    else
    f_Mo_blanks_0 nf n (va_up si 32 ((si 32) + 1)) sj sa sb
def f_Mo_blanks (nf : Nat) (si : Nat → Int32) (sj : Nat → Int64) (sa : Nat → Nat → Int32) (sb : Nat → Nat → Int64) : Option ((Nat → Int32) × (Nat → Int64) × (Nat → Nat → Int32) × (Nat → Nat → Int64)) :=
  f_Mo_blanks_0 nf nf si sj sa sb
section
variable {p : Program} {l : Launch} {e : Env} {R : Room} {s : State} {m : MethodId} {args : Array Value} {below : List Frame} {meth : Method} {c : Code} {Q : State → Prop} {dC : Nat → ClassId} {dI : Nat → Nat → Nat} {nf : Nat} {A : Nat → Prop} {h0 : Nat} {r : Nat → Nat} {cA : Nat → ClassId}
variable {vi : Nat → Int32} {vj : Nat → Int64} {va : Nat → Nat → Int32} {vb : Nat → Nat → Int64}
set_option maxHeartbeats 400000 in
set_option maxRecDepth 100000 in
theorem k_Mo_blanks_0 (C0 : Cx p s m meth c args R b_Mo_blanks "ZoneFilesModel" 1 none 1 20) (hST : ST A s s.heap) (hA : ∀ q, s.heap.size ≤ q → A q) (hK : va_K (dC, dI) classes (moT cA) s) (hE : ∀ (pc : Nat) (ls : Array Slot) (H : Heap) (locs : List Loc), decode b_Mo_blanks pc = .ok (.return_, 1) → va_P (dC, dI) classes (moW h0 r cA vi vj va vb) H → va_D A (moW h0 r cA vi vj va vb) → va_S A s.heap H locs → W p l e R s m args below meth c H locs 0 0 Q (F0 m pc ls [])) : ∀ (n : Nat) {si : Nat → Int32} {sj : Nat → Int64} {sa : Nat → Nat → Int32} {sb : Nat → Nat → Int64}, f_Mo_blanks_0 nf n si sj sa sb = some (vi, vj, va, vb) → ∀ {H : Heap} {locs : List Loc} {ls : Array Slot}, va_P (dC, dI) classes (moW h0 r cA si sj sa sb) H → va_D A (moW h0 r cA si sj sa sb) → va_S A s.heap H locs → lv_has ls 1 [(0, .ref h0)] → W p l e R s m args below meth c H locs 0 0 Q (F0 m 0 ls []) := by
  obtain ⟨hx, hb, hr, hml, hown, hts, hlocks, hRf, hRl⟩ := id C0
  intro n
  induction n with
  | zero =>
    intro si sj sa sb hf
    exact absurd hf (by simp [f_Mo_blanks_0])
  | succ n ih =>
    intro si sj sa sb hf H locs ls hP hD hS hl
    unfold f_Mo_blanks_0 at hf
    refine lv_aload_n hx hb d_Mo_blanks_0 rfl (lv_at hl 0 rfl) ?_
    obtain ⟨r_1, hc, hf⟩ := ob hf
    refine cl_S (v := (some (.int r_1))) (st1 := [.int r_1]) (va_runV (As := []) (rest := []) ⟨hx, hb, hml, hown, hts⟩ (c_Mo_look l dC dI h0 r cA nf si sj sa sb hc) (cwV 0 hts (gdV m_6_83 m_6_85 msel_49 m_1_10 m_6_86) rfl rfl rfl (by decide +kernel) ⟨Nat.le_trans (Nat.le_of_ble_eq_true rfl) hRf, Nat.le_trans (Nat.le_of_ble_eq_true rfl) hRl⟩) ((RO.pre hP hK (hST.ro hS)).vir (va_recv hK hP (ci := 10) (q0 := 0) rfl rfl)) rfl rfl hl.1 rfl (lv_room (Nat.le_of_ble_eq_true rfl)) d_Mo_blanks_1 ⟨Nat.zero_le _, Nat.zero_le _⟩) rfl ?_
    obtain ⟨r_2, hc, hf⟩ := ob hf
    refine cl_S (v := (some (.int r_2))) (st1 := [.int r_2]) (va_runS (As := [.int r_1]) (rest := []) ⟨hx, hb, hml, hown, hts⟩ (c_Mo_isBlank l dC dI nf r_1 hc) (va_cwS 1 hts (gdS m_8_189 m_8_190 m_1_10 m_8_191) rfl rfl rfl (by decide +kernel) ⟨Nat.le_trans (Nat.le_of_ble_eq_true rfl) hRf, Nat.le_trans (Nat.le_of_ble_eq_true rfl) hRl⟩) (RO.pre0 hK (hST.ro hS)).sta rfl rfl hl.1 rfl (lv_room (Nat.le_of_ble_eq_true rfl)) d_Mo_blanks_4 ⟨Nat.zero_le _, Nat.zero_le _⟩) rfl ?_
    refine lv_if_eq (tgt := 23) hx hb d_Mo_blanks_7 (by decide) (fun c_3 => ?_) (fun c_3 => ?_)
    · have hf := it_t c_3 hf
      cases rs hf
      exact hE _ _ _ _ d_Mo_blanks_23 hP hD hS
    · have hf := it_f c_3 hf
      refine lv_aload_n hx hb d_Mo_blanks_10 rfl (lv_at hl 0 rfl) ?_
      refine lv_dup hx hb d_Mo_blanks_11 rfl ?_
      refine mg_32 (v := si 32) hx hb hts hown hK hP rfl d_Mo_blanks_12 ?_
      refine lv_iconst (v := 1) hx hb d_Mo_blanks_15 (by decide) ?_
      refine lv_iadd hx hb d_Mo_blanks_16 ?_
      refine mp_32 hx hb hts hown hK hP hD hS d_Mo_blanks_17 (fun H locs hP hD hS => ?_)
      refine lv_goto (tgt := 0) hx hb d_Mo_blanks_20 (by decide) ?_
      exact ih hf hP hD hS (lv_sub hl [0] rfl)
end
set_option maxHeartbeats 400000 in
set_option maxRecDepth 100000 in
theorem c_Mo_blanks (l : Launch) (dC : Nat → ClassId) (dI : Nat → Nat → Nat) (h0 : Nat) (r : Nat → Nat) (cA : Nat → ClassId) (sz : Nat) (nf : Nat) (si : Nat → Int32) (sj : Nat → Int64) (sa : Nat → Nat → Int32) (sb : Nat → Nat → Int64) {vi : Nat → Int32} {vj : Nat → Int64} {va : Nat → Nat → Int32} {vb : Nat → Nat → Int64} (hf : f_Mo_blanks nf si sj sa sb = some (vi, vj, va, vb)) : Met l y_Mo_blanks (wd y_Mo_blanks b_Mo_blanks 1 none) ({ frames := 1, cells := 0, slots := 0, locals := 20 }) (MU dC dI (moW h0 r cA si sj sa sb) (moT cA) sz [.ref h0]) (MV none (fun t => va_P (dC, dI) classes (moW h0 r cA vi vj va vb) t.heap) (va_A (moW h0 r cA si sj sa sb) sz)) 0 0 (va_A (moW h0 r cA si sj sa sb) sz) :=
  met_M (plainFor_of_name (by decide)) (Nat.le_of_ble_eq_true rfl) (fun p e R s m args below meth c ls hRc hRs hsz hin C0 hST hK hP hD hl => by
    obtain ⟨hx, hb, hr, hml, hown, hts, hlocks, hRf, hRl⟩ := id C0
    subst hsz
    have hA : ∀ q : Nat, s.heap.size ≤ q → va_A (moW h0 r cA si sj sa sb) s.heap.size q := fun q h => Or.inr h
    have hS : va_S (va_A (moW h0 r cA si sj sa sb) s.heap.size) s.heap s.heap [] := va_S.rf
    unfold f_Mo_blanks at hf
    exact k_Mo_blanks_0 C0 hST hA hK (fun pc ls H locs hd hP hD hS => W.vret hx hb hr (fun t ht hW => ⟨⟨rfl, mo_end ht hP⟩, hS.F ht⟩) hS.2.2 hd) nf hf hP hD hS (lv_sub hl [0] rfl))
-- ZoneFilesModel.digits()Z
def f_Mo_digits_101 (nf : Nat) (s0 : Int32) (si : Nat → Int32) (sj : Nat → Int64) (sa : Nat → Nat → Int32) (sb : Nat → Nat → Int64) : Option (Int32 × (Nat → Int32) × (Nat → Int64) × (Nat → Nat → Int32) × (Nat → Nat → Int64)) :=
  if s0 = 0 ∨ s0 = 1 then some (s0, si, sj, sa, sb) else none
def f_Mo_digits_96 (nf : Nat) (si : Nat → Int32) (sj : Nat → Int64) (sa : Nat → Nat → Int32) (sb : Nat → Nat → Int64) : Option (Int32 × (Nat → Int32) × (Nat → Int64) × (Nat → Nat → Int32) × (Nat → Nat → Int64)) :=
  f_Mo_digits_101 nf 1 si sj sa sb
def f_Mo_digits_10 (nf : Nat) : Nat → Int32 → (Nat → Int32) → (Nat → Int64) → (Nat → Nat → Int32) → (Nat → Nat → Int64) → Option (Int32 × (Nat → Int32) × (Nat → Int64) × (Nat → Nat → Int32) × (Nat → Nat → Int64))
  | 0, _, _, _, _, _ => none
  | n + 1, x1, si, sj, sa, sb =>
    (f_Mo_look nf si sj sa sb).bind fun r_1 =>
    (f_Mo_isDigit nf r_1).bind fun r_2 =>
    if r_2 = 0 then
    if x1 < (si 32) then
      f_Mo_digits_96 nf si sj sa sb
      else
      (f_Mo_faulty nf 1 (si 32) si sj sa sb).bind fun (z_10, i_6, j_7, a_8, b_9) =>
        if z_10 = 0 then
        f_Mo_digits_101 nf 0 i_6 j_7 a_8 b_9
        else
        f_Mo_digits_96 nf i_6 j_7 a_8 b_9
    else
    if ((si 32) - x1) = (10 : Int32) then
      (f_Mo_faulty nf 1 (si 32) si sj sa sb).bind fun (z_18, i_14, j_15, a_16, b_17) =>
        if z_18 = 0 ∨ z_18 = 1 then some (z_18, i_14, j_15, a_16, b_17) else none
      else
      (f_Mo_look nf si sj sa sb).bind fun r_13 =>
        f_Mo_digits_10 nf n x1 (va_up si 32 ((si 32) + 1)) (va_up sj 71 (((10 * (sj 71)) + r_13.toInt64) - 48)) sa sb
def f_Mo_digits_0 (nf : Nat) (si : Nat → Int32) (sj : Nat → Int64) (sa : Nat → Nat → Int32) (sb : Nat → Nat → Int64) : Option (Int32 × (Nat → Int32) × (Nat → Int64) × (Nat → Nat → Int32) × (Nat → Nat → Int64)) :=
  f_Mo_digits_10 nf nf (si 32) si (va_up sj 71 0) sa sb
def f_Mo_digits (nf : Nat) (si : Nat → Int32) (sj : Nat → Int64) (sa : Nat → Nat → Int32) (sb : Nat → Nat → Int64) : Option (Int32 × (Nat → Int32) × (Nat → Int64) × (Nat → Nat → Int32) × (Nat → Nat → Int64)) :=
  f_Mo_digits_0 nf si sj sa sb
section
variable {p : Program} {l : Launch} {e : Env} {R : Room} {s : State} {m : MethodId} {args : Array Value} {below : List Frame} {meth : Method} {c : Code} {Q : State → Prop} {dC : Nat → ClassId} {dI : Nat → Nat → Nat} {nf : Nat} {A : Nat → Prop} {h0 : Nat} {r : Nat → Nat} {cA : Nat → ClassId}
variable {r0 : Int32} {vi : Nat → Int32} {vj : Nat → Int64} {va : Nat → Nat → Int32} {vb : Nat → Nat → Int64}
set_option maxHeartbeats 400000 in
set_option maxRecDepth 100000 in
theorem k_Mo_digits_101 (C0 : Cx p s m meth c args R b_Mo_digits "ZoneFilesModel" 2 (some .boolean) 1 22) (hST : ST A s s.heap) (hA : ∀ q, s.heap.size ≤ q → A q) (hK : va_K (dC, dI) classes (moT cA) s) (hE : ∀ (pc : Nat) (ls : Array Slot) (H : Heap) (locs : List Loc), decode b_Mo_digits pc = .ok (.ireturn, 1) → narrow .boolean (.int r0) = .int r0 → va_P (dC, dI) classes (moW h0 r cA vi vj va vb) H → va_D A (moW h0 r cA vi vj va vb) → va_S A s.heap H locs → W p l e R s m args below meth c H locs 0 0 Q (F0 m pc ls [.int r0])) {s0 : Int32} {si : Nat → Int32} {sj : Nat → Int64} {sa : Nat → Nat → Int32} {sb : Nat → Nat → Int64} (hf : f_Mo_digits_101 nf s0 si sj sa sb = some (r0, vi, vj, va, vb)) {H : Heap} {locs : List Loc} {ls : Array Slot} (hP : va_P (dC, dI) classes (moW h0 r cA si sj sa sb) H) (hD : va_D A (moW h0 r cA si sj sa sb)) (hS : va_S A s.heap H locs) (hl : lv_has ls 2 []) : W p l e R s m args below meth c H locs 0 0 Q (F0 m 101 ls [.int s0]) := by
  obtain ⟨hx, hb, hr, hml, hown, hts, hlocks, hRf, hRl⟩ := id C0
  unfold f_Mo_digits_101 at hf
  obtain ⟨c_5, hf⟩ := it_g hf
  cases rs hf
  exact hE _ _ _ _ d_Mo_digits_101 (nb_of c_5) hP hD hS
set_option maxHeartbeats 400000 in
set_option maxRecDepth 100000 in
theorem k_Mo_digits_96 (C0 : Cx p s m meth c args R b_Mo_digits "ZoneFilesModel" 2 (some .boolean) 1 22) (hST : ST A s s.heap) (hA : ∀ q, s.heap.size ≤ q → A q) (hK : va_K (dC, dI) classes (moT cA) s) (hE : ∀ (pc : Nat) (ls : Array Slot) (H : Heap) (locs : List Loc), decode b_Mo_digits pc = .ok (.ireturn, 1) → narrow .boolean (.int r0) = .int r0 → va_P (dC, dI) classes (moW h0 r cA vi vj va vb) H → va_D A (moW h0 r cA vi vj va vb) → va_S A s.heap H locs → W p l e R s m args below meth c H locs 0 0 Q (F0 m pc ls [.int r0])) {si : Nat → Int32} {sj : Nat → Int64} {sa : Nat → Nat → Int32} {sb : Nat → Nat → Int64} (hf : f_Mo_digits_96 nf si sj sa sb = some (r0, vi, vj, va, vb)) {H : Heap} {locs : List Loc} {ls : Array Slot} (hP : va_P (dC, dI) classes (moW h0 r cA si sj sa sb) H) (hD : va_D A (moW h0 r cA si sj sa sb)) (hS : va_S A s.heap H locs) (hl : lv_has ls 2 []) : W p l e R s m args below meth c H locs 0 0 Q (F0 m 96 ls []) := by
  obtain ⟨hx, hb, hr, hml, hown, hts, hlocks, hRf, hRl⟩ := id C0
  unfold f_Mo_digits_96 at hf
  refine lv_iconst (v := 1) hx hb d_Mo_digits_96 (by decide) ?_
  refine lv_goto (tgt := 101) hx hb d_Mo_digits_97 (by decide) ?_
  exact k_Mo_digits_101 C0 hST hA hK hE hf hP hD hS (lv_sub hl [] rfl)
set_option maxHeartbeats 400000 in
set_option maxRecDepth 100000 in
theorem k_Mo_digits_10 (C0 : Cx p s m meth c args R b_Mo_digits "ZoneFilesModel" 2 (some .boolean) 1 22) (hST : ST A s s.heap) (hA : ∀ q, s.heap.size ≤ q → A q) (hK : va_K (dC, dI) classes (moT cA) s) (hE : ∀ (pc : Nat) (ls : Array Slot) (H : Heap) (locs : List Loc), decode b_Mo_digits pc = .ok (.ireturn, 1) → narrow .boolean (.int r0) = .int r0 → va_P (dC, dI) classes (moW h0 r cA vi vj va vb) H → va_D A (moW h0 r cA vi vj va vb) → va_S A s.heap H locs → W p l e R s m args below meth c H locs 0 0 Q (F0 m pc ls [.int r0])) : ∀ (n : Nat) {x1 : Int32} {si : Nat → Int32} {sj : Nat → Int64} {sa : Nat → Nat → Int32} {sb : Nat → Nat → Int64}, f_Mo_digits_10 nf n x1 si sj sa sb = some (r0, vi, vj, va, vb) → ∀ {H : Heap} {locs : List Loc} {ls : Array Slot}, va_P (dC, dI) classes (moW h0 r cA si sj sa sb) H → va_D A (moW h0 r cA si sj sa sb) → va_S A s.heap H locs → lv_has ls 2 [(1, .int x1), (0, .ref h0)] → W p l e R s m args below meth c H locs 0 0 Q (F0 m 10 ls []) := by
  obtain ⟨hx, hb, hr, hml, hown, hts, hlocks, hRf, hRl⟩ := id C0
  intro n
  induction n with
  | zero =>
    intro x1 si sj sa sb hf
    exact absurd hf (by simp [f_Mo_digits_10])
  | succ n ih =>
    intro x1 si sj sa sb hf H locs ls hP hD hS hl
    unfold f_Mo_digits_10 at hf
    refine lv_aload_n hx hb d_Mo_digits_10 rfl (lv_at hl 1 rfl) ?_
    obtain ⟨r_1, hc, hf⟩ := ob hf
    refine cl_S (v := (some (.int r_1))) (st1 := [.int r_1]) (va_runV (As := []) (rest := []) ⟨hx, hb, hml, hown, hts⟩ (c_Mo_look l dC dI h0 r cA nf si sj sa sb hc) (cwV 0 hts (gdV m_6_83 m_6_85 msel_49 m_1_10 m_6_86) rfl rfl rfl (by decide +kernel) ⟨Nat.le_trans (Nat.le_of_ble_eq_true rfl) hRf, Nat.le_trans (Nat.le_of_ble_eq_true rfl) hRl⟩) ((RO.pre hP hK (hST.ro hS)).vir (va_recv hK hP (ci := 10) (q0 := 0) rfl rfl)) rfl rfl hl.1 rfl (lv_room (Nat.le_of_ble_eq_true rfl)) d_Mo_digits_11 ⟨Nat.zero_le _, Nat.zero_le _⟩) rfl ?_
    obtain ⟨r_2, hc, hf⟩ := ob hf
    refine cl_S (v := (some (.int r_2))) (st1 := [.int r_2]) (va_runS (As := [.int r_1]) (rest := []) ⟨hx, hb, hml, hown, hts⟩ (c_Mo_isDigit l dC dI nf r_1 hc) (va_cwS 1 hts (gdS m_6_90 m_6_91 m_1_10 m_6_92) rfl rfl rfl (by decide +kernel) ⟨Nat.le_trans (Nat.le_of_ble_eq_true rfl) hRf, Nat.le_trans (Nat.le_of_ble_eq_true rfl) hRl⟩) (RO.pre0 hK (hST.ro hS)).sta rfl rfl hl.1 rfl (lv_room (Nat.le_of_ble_eq_true rfl)) d_Mo_digits_14 ⟨Nat.zero_le _, Nat.zero_le _⟩) rfl ?_
    refine lv_if_eq (tgt := 76) hx hb d_Mo_digits_17 (by decide) (fun c_3 => ?_) (fun c_3 => ?_)
    · have hf := it_t c_3 hf
      refine lv_aload_n hx hb d_Mo_digits_76 rfl (lv_at hl 1 rfl) ?_
      refine mg_32 (v := si 32) hx hb hts hown hK hP rfl d_Mo_digits_77 ?_
      refine lv_iload_n hx hb d_Mo_digits_80 rfl (lv_at hl 0 rfl) ?_
      refine lv_icmp_gt (tgt := 96) hx hb d_Mo_digits_81 (by decide) (fun c_4 => ?_) (fun c_4 => ?_)
      · have hf := it_t c_4 hf
        exact k_Mo_digits_96 C0 hST hA hK hE hf hP hD hS (lv_sub hl [] rfl)
      · have hf := it_f c_4 hf
        refine lv_aload_n hx hb d_Mo_digits_84 rfl (lv_at hl 1 rfl) ?_
        refine lv_iconst (v := 1) hx hb d_Mo_digits_85 (by decide) ?_
        refine lv_aload_n hx hb d_Mo_digits_86 rfl (lv_at hl 1 rfl) ?_
        refine mg_32 (v := si 32) hx hb hts hown hK hP rfl d_Mo_digits_87 ?_
        obtain ⟨⟨z_10, i_6, j_7, a_8, b_9⟩, hc, hf⟩ := ob hf
        have hFc := mo_free hD hS hA
        refine cl_M (v := (some (.int z_10))) (st1 := [.int z_10]) (va_runV (As := [.int 1, .int (si 32)]) (rest := []) ⟨hx, hb, hml, hown, hts⟩ (c_Mo_faulty l dC dI h0 r cA H.size nf 1 (si 32) si sj sa sb hc) (cwV 2 hts (gdV m_7_133 m_7_135 msel_60 m_1_10 m_7_136) rfl rfl rfl (by decide +kernel) ⟨Nat.le_trans (Nat.le_of_ble_eq_true rfl) hRf, Nat.le_trans (Nat.le_of_ble_eq_true rfl) hRl⟩) ((MU.pre hP hK hD (hST.mu hS hFc)).vir (va_recv hK hP (ci := 10) (q0 := 0) rfl rfl)) rfl rfl hl.1 rfl (lv_room (Nat.le_of_ble_eq_true rfl)) d_Mo_digits_90 ⟨Nat.zero_le _, Nat.zero_le _⟩) rfl hS (fun q _ h => hFc q h) hFc (fun t H1 locs ht hvm hB hz1 hk1 hS => ?_)
        obtain ⟨hP, hD⟩ := mo_back ht hD hB
        generalize H1 = H at hP hS ⊢
        refine lv_if_eq (tgt := 100) hx hb d_Mo_digits_93 (by decide) (fun c_11 => ?_) (fun c_11 => ?_)
        · have hf := it_t c_11 hf
          refine lv_iconst (v := 0) hx hb d_Mo_digits_100 (by decide) ?_
          exact k_Mo_digits_101 C0 hST hA hK hE hf hP hD hS (lv_sub hl [] rfl)
        · have hf := it_f c_11 hf
          exact k_Mo_digits_96 C0 hST hA hK hE hf hP hD hS (lv_sub hl [] rfl)
    · have hf := it_f c_3 hf
      refine lv_aload_n hx hb d_Mo_digits_20 rfl (lv_at hl 1 rfl) ?_
      refine mg_32 (v := si 32) hx hb hts hown hK hP rfl d_Mo_digits_21 ?_
      refine lv_iload_n hx hb d_Mo_digits_24 rfl (lv_at hl 0 rfl) ?_
      refine lv_isub hx hb d_Mo_digits_25 ?_
      refine lv_bipush (v := 10) hx hb d_Mo_digits_26 (by decide) ?_
      refine lv_icmp_ne (tgt := 41) hx hb d_Mo_digits_28 (by decide) (fun c_12 => ?_) (fun c_12 => ?_)
      · have hf := it_f c_12 hf
        refine lv_aload_n hx hb d_Mo_digits_41 rfl (lv_at hl 1 rfl) ?_
        refine lv_ldc2 (v := 10) hx hb hown (hts (.constantLong "ZoneFilesModel" 480 10) m_8_132) d_Mo_digits_42 ?_
        refine lv_aload_n hx hb d_Mo_digits_45 rfl (lv_at hl 1 rfl) ?_
        refine mg_71 (v := sj 71) hx hb hts hown hK hP rfl d_Mo_digits_46 ?_
        refine lv_lmul hx hb d_Mo_digits_49 ?_
        refine lv_aload_n hx hb d_Mo_digits_50 rfl (lv_at hl 1 rfl) ?_
        obtain ⟨r_13, hc, hf⟩ := ob hf
        refine cl_S (v := (some (.int r_13))) (st1 := [.int r_13, .long (10 * (sj 71)), .ref h0]) (va_runV (As := []) (rest := [.long (10 * (sj 71)), .ref h0]) ⟨hx, hb, hml, hown, hts⟩ (c_Mo_look l dC dI h0 r cA nf si sj sa sb hc) (cwV 0 hts (gdV m_6_83 m_6_85 msel_49 m_1_10 m_6_86) rfl rfl rfl (by decide +kernel) ⟨Nat.le_trans (Nat.le_of_ble_eq_true rfl) hRf, Nat.le_trans (Nat.le_of_ble_eq_true rfl) hRl⟩) ((RO.pre hP hK (hST.ro hS)).vir (va_recv hK hP (ci := 10) (q0 := 0) rfl rfl)) rfl rfl hl.1 rfl (lv_room (Nat.le_of_ble_eq_true rfl)) d_Mo_digits_51 ⟨Nat.zero_le _, Nat.zero_le _⟩) rfl ?_
        refine lv_i2l hx hb d_Mo_digits_54 rfl ?_
        refine lv_ladd hx hb d_Mo_digits_55 ?_
        refine lv_ldc2 (v := 48) hx hb hown (hts (.constantLong "ZoneFilesModel" 491 48) m_8_196) d_Mo_digits_56 ?_
        refine lv_lsub hx hb d_Mo_digits_59 ?_
        refine mp_71 hx hb hts hown hK hP hD hS d_Mo_digits_60 (fun H locs hP hD hS => ?_)
        refine lv_aload_n hx hb d_Mo_digits_63 rfl (lv_at hl 1 rfl) ?_
        refine lv_dup hx hb d_Mo_digits_64 rfl ?_
        refine mg_32 (v := si 32) hx hb hts hown hK hP rfl d_Mo_digits_65 ?_
        refine lv_iconst (v := 1) hx hb d_Mo_digits_68 (by decide) ?_
        refine lv_iadd hx hb d_Mo_digits_69 ?_
        refine mp_32 hx hb hts hown hK hP hD hS d_Mo_digits_70 (fun H locs hP hD hS => ?_)
        refine lv_goto (tgt := 10) hx hb d_Mo_digits_73 (by decide) ?_
        exact ih hf hP hD hS (lv_sub hl [0, 1] rfl)
      · have hf := it_t c_12 hf
        refine lv_aload_n hx hb d_Mo_digits_31 rfl (lv_at hl 1 rfl) ?_
        refine lv_iconst (v := 1) hx hb d_Mo_digits_32 (by decide) ?_
        refine lv_aload_n hx hb d_Mo_digits_33 rfl (lv_at hl 1 rfl) ?_
        refine mg_32 (v := si 32) hx hb hts hown hK hP rfl d_Mo_digits_34 ?_
        obtain ⟨⟨z_18, i_14, j_15, a_16, b_17⟩, hc, hf⟩ := ob hf
        have hFc := mo_free hD hS hA
        refine cl_M (v := (some (.int z_18))) (st1 := [.int z_18]) (va_runV (As := [.int 1, .int (si 32)]) (rest := []) ⟨hx, hb, hml, hown, hts⟩ (c_Mo_faulty l dC dI h0 r cA H.size nf 1 (si 32) si sj sa sb hc) (cwV 2 hts (gdV m_7_133 m_7_135 msel_60 m_1_10 m_7_136) rfl rfl rfl (by decide +kernel) ⟨Nat.le_trans (Nat.le_of_ble_eq_true rfl) hRf, Nat.le_trans (Nat.le_of_ble_eq_true rfl) hRl⟩) ((MU.pre hP hK hD (hST.mu hS hFc)).vir (va_recv hK hP (ci := 10) (q0 := 0) rfl rfl)) rfl rfl hl.1 rfl (lv_room (Nat.le_of_ble_eq_true rfl)) d_Mo_digits_37 ⟨Nat.zero_le _, Nat.zero_le _⟩) rfl hS (fun q _ h => hFc q h) hFc (fun t H1 locs ht hvm hB hz1 hk1 hS => ?_)
        obtain ⟨hP, hD⟩ := mo_back ht hD hB
        generalize H1 = H at hP hS ⊢
        obtain ⟨c_19, hf⟩ := it_g hf
        cases rs hf
        exact hE _ _ _ _ d_Mo_digits_40 (nb_of c_19) hP hD hS
set_option maxHeartbeats 400000 in
set_option maxRecDepth 100000 in
theorem k_Mo_digits_0 (C0 : Cx p s m meth c args R b_Mo_digits "ZoneFilesModel" 2 (some .boolean) 1 22) (hST : ST A s s.heap) (hA : ∀ q, s.heap.size ≤ q → A q) (hK : va_K (dC, dI) classes (moT cA) s) (hE : ∀ (pc : Nat) (ls : Array Slot) (H : Heap) (locs : List Loc), decode b_Mo_digits pc = .ok (.ireturn, 1) → narrow .boolean (.int r0) = .int r0 → va_P (dC, dI) classes (moW h0 r cA vi vj va vb) H → va_D A (moW h0 r cA vi vj va vb) → va_S A s.heap H locs → W p l e R s m args below meth c H locs 0 0 Q (F0 m pc ls [.int r0])) {si : Nat → Int32} {sj : Nat → Int64} {sa : Nat → Nat → Int32} {sb : Nat → Nat → Int64} (hf : f_Mo_digits_0 nf si sj sa sb = some (r0, vi, vj, va, vb)) {H : Heap} {locs : List Loc} {ls : Array Slot} (hP : va_P (dC, dI) classes (moW h0 r cA si sj sa sb) H) (hD : va_D A (moW h0 r cA si sj sa sb)) (hS : va_S A s.heap H locs) (hl : lv_has ls 2 [(0, .ref h0)]) : W p l e R s m args below meth c H locs 0 0 Q (F0 m 0 ls []) := by
  obtain ⟨hx, hb, hr, hml, hown, hts, hlocks, hRf, hRl⟩ := id C0
  unfold f_Mo_digits_0 at hf
  refine lv_aload_n hx hb d_Mo_digits_0 rfl (lv_at hl 0 rfl) ?_
  refine mg_32 (v := si 32) hx hb hts hown hK hP rfl d_Mo_digits_1 ?_
  refine lv_istore_n (lv' := [(1, .int (si 32)), (0, .ref h0)]) hx hb d_Mo_digits_4 rfl hl (by decide) rfl (fun ls hl => ?_)
  refine lv_aload_n hx hb d_Mo_digits_5 rfl (lv_at hl 1 rfl) ?_
  refine lv_lconst (v := 0) hx hb d_Mo_digits_6 (by decide) ?_
  refine mp_71 hx hb hts hown hK hP hD hS d_Mo_digits_7 (fun H locs hP hD hS => ?_)
  exact k_Mo_digits_10 C0 hST hA hK hE nf hf hP hD hS (lv_sub hl [0, 1] rfl)
end
set_option maxHeartbeats 400000 in
set_option maxRecDepth 100000 in
theorem c_Mo_digits (l : Launch) (dC : Nat → ClassId) (dI : Nat → Nat → Nat) (h0 : Nat) (r : Nat → Nat) (cA : Nat → ClassId) (sz : Nat) (nf : Nat) (si : Nat → Int32) (sj : Nat → Int64) (sa : Nat → Nat → Int32) (sb : Nat → Nat → Int64) {r0 : Int32} {vi : Nat → Int32} {vj : Nat → Int64} {va : Nat → Nat → Int32} {vb : Nat → Nat → Int64} (hf : f_Mo_digits nf si sj sa sb = some (r0, vi, vj, va, vb)) : Met l y_Mo_digits (wd y_Mo_digits b_Mo_digits 2 (some .boolean)) ({ frames := 1, cells := 0, slots := 0, locals := 22 }) (MU dC dI (moW h0 r cA si sj sa sb) (moT cA) sz [.ref h0]) (MV (some (.int r0)) (fun t => va_P (dC, dI) classes (moW h0 r cA vi vj va vb) t.heap) (va_A (moW h0 r cA si sj sa sb) sz)) 0 0 (va_A (moW h0 r cA si sj sa sb) sz) :=
  met_M (plainFor_of_name (by decide)) (Nat.le_of_ble_eq_true rfl) (fun p e R s m args below meth c ls hRc hRs hsz hin C0 hST hK hP hD hl => by
    obtain ⟨hx, hb, hr, hml, hown, hts, hlocks, hRf, hRl⟩ := id C0
    subst hsz
    have hA : ∀ q : Nat, s.heap.size ≤ q → va_A (moW h0 r cA si sj sa sb) s.heap.size q := fun q h => Or.inr h
    have hS : va_S (va_A (moW h0 r cA si sj sa sb) s.heap.size) s.heap s.heap [] := va_S.rf
    unfold f_Mo_digits at hf
    exact k_Mo_digits_0 C0 hST hA hK (fun pc ls H locs hd hn hP hD hS => W.zret hx hb hr hn (fun t ht hW => ⟨⟨rfl, mo_end ht hP⟩, hS.F ht⟩) hS.2.2 hd) hf hP hD hS (lv_sub hl [0] rfl))
-- ZoneFilesModel.lineEnd()Z
def f_Mo_lineEnd_0 (nf : Nat) (si : Nat → Int32) (sj : Nat → Int64) (sa : Nat → Nat → Int32) (sb : Nat → Nat → Int64) : Option (Int32 × (Nat → Int32) × (Nat → Int64) × (Nat → Nat → Int32) × (Nat → Nat → Int64)) :=
  (f_Mo_look nf si sj sa sb).bind fun r_1 =>
  if r_1 = (10 : Int32) then
  some (1, va_up si 32 ((si 32) + 1), sj, sa, sb)
  else
  (f_Mo_faulty nf 1 (si 32) si sj sa sb).bind fun (z_7, i_3, j_4, a_5, b_6) =>
    if z_7 = 0 ∨ z_7 = 1 then some (z_7, i_3, j_4, a_5, b_6) else none
def f_Mo_lineEnd (nf : Nat) (si : Nat → Int32) (sj : Nat → Int64) (sa : Nat → Nat → Int32) (sb : Nat → Nat → Int64) : Option (Int32 × (Nat → Int32) × (Nat → Int64) × (Nat → Nat → Int32) × (Nat → Nat → Int64)) :=
  f_Mo_lineEnd_0 nf si sj sa sb
section
variable {p : Program} {l : Launch} {e : Env} {R : Room} {s : State} {m : MethodId} {args : Array Value} {below : List Frame} {meth : Method} {c : Code} {Q : State → Prop} {dC : Nat → ClassId} {dI : Nat → Nat → Nat} {nf : Nat} {A : Nat → Prop} {h0 : Nat} {r : Nat → Nat} {cA : Nat → ClassId}
variable {r0 : Int32} {vi : Nat → Int32} {vj : Nat → Int64} {va : Nat → Nat → Int32} {vb : Nat → Nat → Int64}
set_option maxHeartbeats 400000 in
set_option maxRecDepth 100000 in
theorem k_Mo_lineEnd_0 (C0 : Cx p s m meth c args R b_Mo_lineEnd "ZoneFilesModel" 1 (some .boolean) 1 22) (hST : ST A s s.heap) (hA : ∀ q, s.heap.size ≤ q → A q) (hK : va_K (dC, dI) classes (moT cA) s) (hE : ∀ (pc : Nat) (ls : Array Slot) (H : Heap) (locs : List Loc), decode b_Mo_lineEnd pc = .ok (.ireturn, 1) → narrow .boolean (.int r0) = .int r0 → va_P (dC, dI) classes (moW h0 r cA vi vj va vb) H → va_D A (moW h0 r cA vi vj va vb) → va_S A s.heap H locs → W p l e R s m args below meth c H locs 0 0 Q (F0 m pc ls [.int r0])) {si : Nat → Int32} {sj : Nat → Int64} {sa : Nat → Nat → Int32} {sb : Nat → Nat → Int64} (hf : f_Mo_lineEnd_0 nf si sj sa sb = some (r0, vi, vj, va, vb)) {H : Heap} {locs : List Loc} {ls : Array Slot} (hP : va_P (dC, dI) classes (moW h0 r cA si sj sa sb) H) (hD : va_D A (moW h0 r cA si sj sa sb)) (hS : va_S A s.heap H locs) (hl : lv_has ls 1 [(0, .ref h0)]) : W p l e R s m args below meth c H locs 0 0 Q (F0 m 0 ls []) := by
  obtain ⟨hx, hb, hr, hml, hown, hts, hlocks, hRf, hRl⟩ := id C0
  unfold f_Mo_lineEnd_0 at hf
  refine lv_aload_n hx hb d_Mo_lineEnd_0 rfl (lv_at hl 0 rfl) ?_
  obtain ⟨r_1, hc, hf⟩ := ob hf
  refine cl_S (v := (some (.int r_1))) (st1 := [.int r_1]) (va_runV (As := []) (rest := []) ⟨hx, hb, hml, hown, hts⟩ (c_Mo_look l dC dI h0 r cA nf si sj sa sb hc) (cwV 0 hts (gdV m_6_83 m_6_85 msel_49 m_1_10 m_6_86) rfl rfl rfl (by decide +kernel) ⟨Nat.le_trans (Nat.le_of_ble_eq_true rfl) hRf, Nat.le_trans (Nat.le_of_ble_eq_true rfl) hRl⟩) ((RO.pre hP hK (hST.ro hS)).vir (va_recv hK hP (ci := 10) (q0 := 0) rfl rfl)) rfl rfl hl.1 rfl (lv_room (Nat.le_of_ble_eq_true rfl)) d_Mo_lineEnd_1 ⟨Nat.zero_le _, Nat.zero_le _⟩) rfl ?_
  refine lv_bipush (v := 10) hx hb d_Mo_lineEnd_4 (by decide) ?_
  refine lv_icmp_eq (tgt := 19) hx hb d_Mo_lineEnd_6 (by decide) (fun c_2 => ?_) (fun c_2 => ?_)
  · have hf := it_t c_2 hf
    refine lv_aload_n hx hb d_Mo_lineEnd_19 rfl (lv_at hl 0 rfl) ?_
    refine lv_dup hx hb d_Mo_lineEnd_20 rfl ?_
    refine mg_32 (v := si 32) hx hb hts hown hK hP rfl d_Mo_lineEnd_21 ?_
    refine lv_iconst (v := 1) hx hb d_Mo_lineEnd_24 (by decide) ?_
    refine lv_iadd hx hb d_Mo_lineEnd_25 ?_
    refine mp_32 hx hb hts hown hK hP hD hS d_Mo_lineEnd_26 (fun H locs hP hD hS => ?_)
    refine lv_iconst (v := 1) hx hb d_Mo_lineEnd_29 (by decide) ?_
    cases rs hf
    exact hE _ _ _ _ d_Mo_lineEnd_30 rfl hP hD hS
  · have hf := it_f c_2 hf
    refine lv_aload_n hx hb d_Mo_lineEnd_9 rfl (lv_at hl 0 rfl) ?_
    refine lv_iconst (v := 1) hx hb d_Mo_lineEnd_10 (by decide) ?_
    refine lv_aload_n hx hb d_Mo_lineEnd_11 rfl (lv_at hl 0 rfl) ?_
    refine mg_32 (v := si 32) hx hb hts hown hK hP rfl d_Mo_lineEnd_12 ?_
    obtain ⟨⟨z_7, i_3, j_4, a_5, b_6⟩, hc, hf⟩ := ob hf
    have hFc := mo_free hD hS hA
    refine cl_M (v := (some (.int z_7))) (st1 := [.int z_7]) (va_runV (As := [.int 1, .int (si 32)]) (rest := []) ⟨hx, hb, hml, hown, hts⟩ (c_Mo_faulty l dC dI h0 r cA H.size nf 1 (si 32) si sj sa sb hc) (cwV 2 hts (gdV m_7_133 m_7_135 msel_60 m_1_10 m_7_136) rfl rfl rfl (by decide +kernel) ⟨Nat.le_trans (Nat.le_of_ble_eq_true rfl) hRf, Nat.le_trans (Nat.le_of_ble_eq_true rfl) hRl⟩) ((MU.pre hP hK hD (hST.mu hS hFc)).vir (va_recv hK hP (ci := 10) (q0 := 0) rfl rfl)) rfl rfl hl.1 rfl (lv_room (Nat.le_of_ble_eq_true rfl)) d_Mo_lineEnd_15 ⟨Nat.zero_le _, Nat.zero_le _⟩) rfl hS (fun q _ h => hFc q h) hFc (fun t H1 locs ht hvm hB hz1 hk1 hS => ?_)
    obtain ⟨hP, hD⟩ := mo_back ht hD hB
    generalize H1 = H at hP hS ⊢
    obtain ⟨c_8, hf⟩ := it_g hf
    cases rs hf
    exact hE _ _ _ _ d_Mo_lineEnd_18 (nb_of c_8) hP hD hS
end
set_option maxHeartbeats 400000 in
set_option maxRecDepth 100000 in
theorem c_Mo_lineEnd (l : Launch) (dC : Nat → ClassId) (dI : Nat → Nat → Nat) (h0 : Nat) (r : Nat → Nat) (cA : Nat → ClassId) (sz : Nat) (nf : Nat) (si : Nat → Int32) (sj : Nat → Int64) (sa : Nat → Nat → Int32) (sb : Nat → Nat → Int64) {r0 : Int32} {vi : Nat → Int32} {vj : Nat → Int64} {va : Nat → Nat → Int32} {vb : Nat → Nat → Int64} (hf : f_Mo_lineEnd nf si sj sa sb = some (r0, vi, vj, va, vb)) : Met l y_Mo_lineEnd (wd y_Mo_lineEnd b_Mo_lineEnd 1 (some .boolean)) ({ frames := 1, cells := 0, slots := 0, locals := 22 }) (MU dC dI (moW h0 r cA si sj sa sb) (moT cA) sz [.ref h0]) (MV (some (.int r0)) (fun t => va_P (dC, dI) classes (moW h0 r cA vi vj va vb) t.heap) (va_A (moW h0 r cA si sj sa sb) sz)) 0 0 (va_A (moW h0 r cA si sj sa sb) sz) :=
  met_M (plainFor_of_name (by decide)) (Nat.le_of_ble_eq_true rfl) (fun p e R s m args below meth c ls hRc hRs hsz hin C0 hST hK hP hD hl => by
    obtain ⟨hx, hb, hr, hml, hown, hts, hlocks, hRf, hRl⟩ := id C0
    subst hsz
    have hA : ∀ q : Nat, s.heap.size ≤ q → va_A (moW h0 r cA si sj sa sb) s.heap.size q := fun q h => Or.inr h
    have hS : va_S (va_A (moW h0 r cA si sj sa sb) s.heap.size) s.heap s.heap [] := va_S.rf
    unfold f_Mo_lineEnd at hf
    exact k_Mo_lineEnd_0 C0 hST hA hK (fun pc ls H locs hd hn hP hD hS => W.zret hx hb hr hn (fun t ht hW => ⟨⟨rfl, mo_end ht hP⟩, hS.F ht⟩) hS.2.2 hd) hf hP hD hS (lv_sub hl [0] rfl))
-- ZoneFilesModel.remark()Z
def f_Mo_remark_29 (nf : Nat) (si : Nat → Int32) (sj : Nat → Int64) (sa : Nat → Nat → Int32) (sb : Nat → Nat → Int64) : Option (Int32 × (Nat → Int32) × (Nat → Int64) × (Nat → Nat → Int32) × (Nat → Nat → Int64)) :=
  (f_Mo_lineEnd nf si sj sa sb).bind fun (z_7, i_3, j_4, a_5, b_6) =>
  if z_7 = 0 ∨ z_7 = 1 then some (z_7, i_3, j_4, a_5, b_6) else none
def f_Mo_remark_0 (nf : Nat) : Nat → (Nat → Int32) → (Nat → Int64) → (Nat → Nat → Int32) → (Nat → Nat → Int64) → Option (Int32 × (Nat → Int32) × (Nat → Int64) × (Nat → Nat → Int32) × (Nat → Nat → Int64))
  | 0, _, _, _, _ => none
  | n + 1, si, sj, sa, sb =>
    (f_Mo_look nf si sj sa sb).bind fun r_1 =>
    if r_1 = (10 : Int32) then
    f_Mo_remark_29 nf si sj sa sb
    else
    (f_Mo_look nf si sj sa sb).bind fun r_9 =>
      if r_9 < 0 then
      f_Mo_remark_29 nf si sj sa sb
      else
      f_Mo_remark_0 nf n (va_up si 32 ((si 32) + 1)) sj sa sb
def f_Mo_remark (nf : Nat) (si : Nat → Int32) (sj : Nat → Int64) (sa : Nat → Nat → Int32) (sb : Nat → Nat → Int64) : Option (Int32 × (Nat → Int32) × (Nat → Int64) × (Nat → Nat → Int32) × (Nat → Nat → Int64)) :=
  f_Mo_remark_0 nf nf si sj sa sb
section
variable {p : Program} {l : Launch} {e : Env} {R : Room} {s : State} {m : MethodId} {args : Array Value} {below : List Frame} {meth : Method} {c : Code} {Q : State → Prop} {dC : Nat → ClassId} {dI : Nat → Nat → Nat} {nf : Nat} {A : Nat → Prop} {h0 : Nat} {r : Nat → Nat} {cA : Nat → ClassId}
variable {r0 : Int32} {vi : Nat → Int32} {vj : Nat → Int64} {va : Nat → Nat → Int32} {vb : Nat → Nat → Int64}
set_option maxHeartbeats 400000 in
set_option maxRecDepth 100000 in
theorem k_Mo_remark_29 (C0 : Cx p s m meth c args R b_Mo_remark "ZoneFilesModel" 1 (some .boolean) 2 42) (hST : ST A s s.heap) (hA : ∀ q, s.heap.size ≤ q → A q) (hK : va_K (dC, dI) classes (moT cA) s) (hE : ∀ (pc : Nat) (ls : Array Slot) (H : Heap) (locs : List Loc), decode b_Mo_remark pc = .ok (.ireturn, 1) → narrow .boolean (.int r0) = .int r0 → va_P (dC, dI) classes (moW h0 r cA vi vj va vb) H → va_D A (moW h0 r cA vi vj va vb) → va_S A s.heap H locs → W p l e R s m args below meth c H locs 0 0 Q (F0 m pc ls [.int r0])) {si : Nat → Int32} {sj : Nat → Int64} {sa : Nat → Nat → Int32} {sb : Nat → Nat → Int64} (hf : f_Mo_remark_29 nf si sj sa sb = some (r0, vi, vj, va, vb)) {H : Heap} {locs : List Loc} {ls : Array Slot} (hP : va_P (dC, dI) classes (moW h0 r cA si sj sa sb) H) (hD : va_D A (moW h0 r cA si sj sa sb)) (hS : va_S A s.heap H locs) (hl : lv_has ls 1 [(0, .ref h0)]) : W p l e R s m args below meth c H locs 0 0 Q (F0 m 29 ls []) := by
  obtain ⟨hx, hb, hr, hml, hown, hts, hlocks, hRf, hRl⟩ := id C0
  unfold f_Mo_remark_29 at hf
  refine lv_aload_n hx hb d_Mo_remark_29 rfl (lv_at hl 0 rfl) ?_
  obtain ⟨⟨z_7, i_3, j_4, a_5, b_6⟩, hc, hf⟩ := ob hf
  have hFc := mo_free hD hS hA
  refine cl_M (v := (some (.int z_7))) (st1 := [.int z_7]) (va_runV (As := []) (rest := []) ⟨hx, hb, hml, hown, hts⟩ (c_Mo_lineEnd l dC dI h0 r cA H.size nf si sj sa sb hc) (cwV 0 hts (gdV m_8_197 m_8_199 msel_102 m_1_10 m_8_200) rfl rfl rfl (by decide +kernel) ⟨Nat.le_trans (Nat.le_of_ble_eq_true rfl) hRf, Nat.le_trans (Nat.le_of_ble_eq_true rfl) hRl⟩) ((MU.pre hP hK hD (hST.mu hS hFc)).vir (va_recv hK hP (ci := 10) (q0 := 0) rfl rfl)) rfl rfl hl.1 rfl (lv_room (Nat.le_of_ble_eq_true rfl)) d_Mo_remark_30 ⟨Nat.zero_le _, Nat.zero_le _⟩) rfl hS (fun q _ h => hFc q h) hFc (fun t H1 locs ht hvm hB hz1 hk1 hS => ?_)
  obtain ⟨hP, hD⟩ := mo_back ht hD hB
  generalize H1 = H at hP hS ⊢
  obtain ⟨c_8, hf⟩ := it_g hf
  cases rs hf
  exact hE _ _ _ _ d_Mo_remark_33 (nb_of c_8) hP hD hS
set_option maxHeartbeats 400000 in
set_option maxRecDepth 100000 in
theorem k_Mo_remark_0 (C0 : Cx p s m meth c args R b_Mo_remark "ZoneFilesModel" 1 (some .boolean) 2 42) (hST : ST A s s.heap) (hA : ∀ q, s.heap.size ≤ q → A q) (hK : va_K (dC, dI) classes (moT cA) s) (hE : ∀ (pc : Nat) (ls : Array Slot) (H : Heap) (locs : List Loc), decode b_Mo_remark pc = .ok (.ireturn, 1) → narrow .boolean (.int r0) = .int r0 → va_P (dC, dI) classes (moW h0 r cA vi vj va vb) H → va_D A (moW h0 r cA vi vj va vb) → va_S A s.heap H locs → W p l e R s m args below meth c H locs 0 0 Q (F0 m pc ls [.int r0])) : ∀ (n : Nat) {si : Nat → Int32} {sj : Nat → Int64} {sa : Nat → Nat → Int32} {sb : Nat → Nat → Int64}, f_Mo_remark_0 nf n si sj sa sb = some (r0, vi, vj, va, vb) → ∀ {H : Heap} {locs : List Loc} {ls : Array Slot}, va_P (dC, dI) classes (moW h0 r cA si sj sa sb) H → va_D A (moW h0 r cA si sj sa sb) → va_S A s.heap H locs → lv_has ls 1 [(0, .ref h0)] → W p l e R s m args below meth c H locs 0 0 Q (F0 m 0 ls []) := by
  obtain ⟨hx, hb, hr, hml, hown, hts, hlocks, hRf, hRl⟩ := id C0
  intro n
  induction n with
  | zero =>
    intro si sj sa sb hf
    exact absurd hf (by simp [f_Mo_remark_0])
  | succ n ih =>
    intro si sj sa sb hf H locs ls hP hD hS hl
    unfold f_Mo_remark_0 at hf
    refine lv_aload_n hx hb d_Mo_remark_0 rfl (lv_at hl 0 rfl) ?_
    obtain ⟨r_1, hc, hf⟩ := ob hf
    refine cl_S (v := (some (.int r_1))) (st1 := [.int r_1]) (va_runV (As := []) (rest := []) ⟨hx, hb, hml, hown, hts⟩ (c_Mo_look l dC dI h0 r cA nf si sj sa sb hc) (cwV 0 hts (gdV m_6_83 m_6_85 msel_49 m_1_10 m_6_86) rfl rfl rfl (by decide +kernel) ⟨Nat.le_trans (Nat.le_of_ble_eq_true rfl) hRf, Nat.le_trans (Nat.le_of_ble_eq_true rfl) hRl⟩) ((RO.pre hP hK (hST.ro hS)).vir (va_recv hK hP (ci := 10) (q0 := 0) rfl rfl)) rfl rfl hl.1 rfl (lv_room (Nat.le_of_ble_eq_true rfl)) d_Mo_remark_1 ⟨Nat.zero_le _, Nat.zero_le _⟩) rfl ?_
    refine lv_bipush (v := 10) hx hb d_Mo_remark_4 (by decide) ?_
    refine lv_icmp_eq (tgt := 29) hx hb d_Mo_remark_6 (by decide) (fun c_2 => ?_) (fun c_2 => ?_)
    · have hf := it_t c_2 hf
      exact k_Mo_remark_29 C0 hST hA hK hE hf hP hD hS (lv_sub hl [0] rfl)
    · have hf := it_f c_2 hf
      refine lv_aload_n hx hb d_Mo_remark_9 rfl (lv_at hl 0 rfl) ?_
      obtain ⟨r_9, hc, hf⟩ := ob hf
      refine cl_S (v := (some (.int r_9))) (st1 := [.int r_9]) (va_runV (As := []) (rest := []) ⟨hx, hb, hml, hown, hts⟩ (c_Mo_look l dC dI h0 r cA nf si sj sa sb hc) (cwV 0 hts (gdV m_6_83 m_6_85 msel_49 m_1_10 m_6_86) rfl rfl rfl (by decide +kernel) ⟨Nat.le_trans (Nat.le_of_ble_eq_true rfl) hRf, Nat.le_trans (Nat.le_of_ble_eq_true rfl) hRl⟩) ((RO.pre hP hK (hST.ro hS)).vir (va_recv hK hP (ci := 10) (q0 := 0) rfl rfl)) rfl rfl hl.1 rfl (lv_room (Nat.le_of_ble_eq_true rfl)) d_Mo_remark_10 ⟨Nat.zero_le _, Nat.zero_le _⟩) rfl ?_
      refine lv_if_lt (tgt := 29) hx hb d_Mo_remark_13 (by decide) (fun c_10 => ?_) (fun c_10 => ?_)
      · have hf := it_t c_10 hf
        exact k_Mo_remark_29 C0 hST hA hK hE hf hP hD hS (lv_sub hl [0] rfl)
      · have hf := it_f c_10 hf
        refine lv_aload_n hx hb d_Mo_remark_16 rfl (lv_at hl 0 rfl) ?_
        refine lv_dup hx hb d_Mo_remark_17 rfl ?_
        refine mg_32 (v := si 32) hx hb hts hown hK hP rfl d_Mo_remark_18 ?_
        refine lv_iconst (v := 1) hx hb d_Mo_remark_21 (by decide) ?_
        refine lv_iadd hx hb d_Mo_remark_22 ?_
        refine mp_32 hx hb hts hown hK hP hD hS d_Mo_remark_23 (fun H locs hP hD hS => ?_)
        refine lv_goto (tgt := 0) hx hb d_Mo_remark_26 (by decide) ?_
        exact ih hf hP hD hS (lv_sub hl [0] rfl)
end
set_option maxHeartbeats 400000 in
set_option maxRecDepth 100000 in
theorem c_Mo_remark (l : Launch) (dC : Nat → ClassId) (dI : Nat → Nat → Nat) (h0 : Nat) (r : Nat → Nat) (cA : Nat → ClassId) (sz : Nat) (nf : Nat) (si : Nat → Int32) (sj : Nat → Int64) (sa : Nat → Nat → Int32) (sb : Nat → Nat → Int64) {r0 : Int32} {vi : Nat → Int32} {vj : Nat → Int64} {va : Nat → Nat → Int32} {vb : Nat → Nat → Int64} (hf : f_Mo_remark nf si sj sa sb = some (r0, vi, vj, va, vb)) : Met l y_Mo_remark (wd y_Mo_remark b_Mo_remark 1 (some .boolean)) ({ frames := 2, cells := 0, slots := 0, locals := 42 }) (MU dC dI (moW h0 r cA si sj sa sb) (moT cA) sz [.ref h0]) (MV (some (.int r0)) (fun t => va_P (dC, dI) classes (moW h0 r cA vi vj va vb) t.heap) (va_A (moW h0 r cA si sj sa sb) sz)) 0 0 (va_A (moW h0 r cA si sj sa sb) sz) :=
  met_M (plainFor_of_name (by decide)) (Nat.le_of_ble_eq_true rfl) (fun p e R s m args below meth c ls hRc hRs hsz hin C0 hST hK hP hD hl => by
    obtain ⟨hx, hb, hr, hml, hown, hts, hlocks, hRf, hRl⟩ := id C0
    subst hsz
    have hA : ∀ q : Nat, s.heap.size ≤ q → va_A (moW h0 r cA si sj sa sb) s.heap.size q := fun q h => Or.inr h
    have hS : va_S (va_A (moW h0 r cA si sj sa sb) s.heap.size) s.heap s.heap [] := va_S.rf
    unfold f_Mo_remark at hf
    exact k_Mo_remark_0 C0 hST hA hK (fun pc ls H locs hd hn hP hD hS => W.zret hx hb hr hn (fun t ht hW => ⟨⟨rfl, mo_end ht hP⟩, hS.F ht⟩) hS.2.2 hd) nf hf hP hD hS (lv_sub hl [0] rfl))
-- ZoneFilesModel.expiryLine()Z
def f_Mo_expiryLine_0 (nf : Nat) (si : Nat → Int32) (sj : Nat → Int64) (sa : Nat → Nat → Int32) (sb : Nat → Nat → Int64) : Option (Int32 × (Nat → Int32) × (Nat → Int64) × (Nat → Nat → Int32) × (Nat → Nat → Int64)) :=
  (f_Mo_blanks nf (va_up si 32 ((si 32) + 2)) sj sa sb).bind fun (i_1, j_2, a_3, b_4) =>
  (f_Mo_digits nf i_1 j_2 a_3 b_4).bind fun (z_9, i_5, j_6, a_7, b_8) =>
  if z_9 = 0 then
  some (0, i_5, j_6, a_7, b_8)
  else
  (f_Mo_blanks nf i_5 j_6 a_7 b_8).bind fun (i_11, j_12, a_13, b_14) =>
    (f_Mo_lineEnd nf i_11 j_12 a_13 b_14).bind fun (z_19, i_15, j_16, a_17, b_18) =>
    if z_19 = 0 then
    some (0, i_15, j_16, a_17, b_18)
    else
    if (i_15 70) = 0 then
      some (1, va_up i_15 70 1, va_up j_16 69 (j_16 71), a_17, b_18)
      else
      (f_Mo_faulty nf 5 (i_1 32) i_15 j_16 a_17 b_18).bind fun (z_26, i_22, j_23, a_24, b_25) =>
        if z_26 = 0 ∨ z_26 = 1 then some (z_26, i_22, j_23, a_24, b_25) else none
def f_Mo_expiryLine (nf : Nat) (si : Nat → Int32) (sj : Nat → Int64) (sa : Nat → Nat → Int32) (sb : Nat → Nat → Int64) : Option (Int32 × (Nat → Int32) × (Nat → Int64) × (Nat → Nat → Int32) × (Nat → Nat → Int64)) :=
  f_Mo_expiryLine_0 nf si sj sa sb
section
variable {p : Program} {l : Launch} {e : Env} {R : Room} {s : State} {m : MethodId} {args : Array Value} {below : List Frame} {meth : Method} {c : Code} {Q : State → Prop} {dC : Nat → ClassId} {dI : Nat → Nat → Nat} {nf : Nat} {A : Nat → Prop} {h0 : Nat} {r : Nat → Nat} {cA : Nat → ClassId}
variable {r0 : Int32} {vi : Nat → Int32} {vj : Nat → Int64} {va : Nat → Nat → Int32} {vb : Nat → Nat → Int64}
set_option maxHeartbeats 400000 in
set_option maxRecDepth 100000 in
theorem k_Mo_expiryLine_0 (C0 : Cx p s m meth c args R b_Mo_expiryLine "ZoneFilesModel" 2 (some .boolean) 2 43) (hST : ST A s s.heap) (hA : ∀ q, s.heap.size ≤ q → A q) (hK : va_K (dC, dI) classes (moT cA) s) (hE : ∀ (pc : Nat) (ls : Array Slot) (H : Heap) (locs : List Loc), decode b_Mo_expiryLine pc = .ok (.ireturn, 1) → narrow .boolean (.int r0) = .int r0 → va_P (dC, dI) classes (moW h0 r cA vi vj va vb) H → va_D A (moW h0 r cA vi vj va vb) → va_S A s.heap H locs → W p l e R s m args below meth c H locs 0 0 Q (F0 m pc ls [.int r0])) {si : Nat → Int32} {sj : Nat → Int64} {sa : Nat → Nat → Int32} {sb : Nat → Nat → Int64} (hf : f_Mo_expiryLine_0 nf si sj sa sb = some (r0, vi, vj, va, vb)) {H : Heap} {locs : List Loc} {ls : Array Slot} (hP : va_P (dC, dI) classes (moW h0 r cA si sj sa sb) H) (hD : va_D A (moW h0 r cA si sj sa sb)) (hS : va_S A s.heap H locs) (hl : lv_has ls 2 [(0, .ref h0)]) : W p l e R s m args below meth c H locs 0 0 Q (F0 m 0 ls []) := by
  obtain ⟨hx, hb, hr, hml, hown, hts, hlocks, hRf, hRl⟩ := id C0
  unfold f_Mo_expiryLine_0 at hf
  refine lv_aload_n hx hb d_Mo_expiryLine_0 rfl (lv_at hl 0 rfl) ?_
  refine lv_dup hx hb d_Mo_expiryLine_1 rfl ?_
  refine mg_32 (v := si 32) hx hb hts hown hK hP rfl d_Mo_expiryLine_2 ?_
  refine lv_iconst (v := 2) hx hb d_Mo_expiryLine_5 (by decide) ?_
  refine lv_iadd hx hb d_Mo_expiryLine_6 ?_
  refine mp_32 hx hb hts hown hK hP hD hS d_Mo_expiryLine_7 (fun H locs hP hD hS => ?_)
  refine lv_aload_n hx hb d_Mo_expiryLine_10 rfl (lv_at hl 0 rfl) ?_
  obtain ⟨⟨i_1, j_2, a_3, b_4⟩, hc, hf⟩ := ob hf
  have hFc := mo_free hD hS hA
  refine cl_M (v := none) (st1 := []) (va_runV (As := []) (rest := []) ⟨hx, hb, hml, hown, hts⟩ (c_Mo_blanks l dC dI h0 r cA H.size nf (va_up si 32 ((si 32) + 2)) sj sa sb hc) (cwV 0 hts (gdV m_8_185 m_8_187 msel_100 m_1_10 m_8_188) rfl rfl rfl (by decide +kernel) ⟨Nat.le_trans (Nat.le_of_ble_eq_true rfl) hRf, Nat.le_trans (Nat.le_of_ble_eq_true rfl) hRl⟩) ((MU.pre hP hK hD (hST.mu hS hFc)).vir (va_recv hK hP (ci := 10) (q0 := 0) rfl rfl)) rfl rfl hl.1 rfl (lv_room (Nat.le_of_ble_eq_true rfl)) d_Mo_expiryLine_11 ⟨Nat.zero_le _, Nat.zero_le _⟩) rfl hS (fun q _ h => hFc q h) hFc (fun t H1 locs ht hvm hB hz1 hk1 hS => ?_)
  obtain ⟨hP, hD⟩ := mo_back ht hD hB
  generalize H1 = H at hP hS ⊢
  refine lv_aload_n hx hb d_Mo_expiryLine_14 rfl (lv_at hl 0 rfl) ?_
  refine mg_32 (v := i_1 32) hx hb hts hown hK hP rfl d_Mo_expiryLine_15 ?_
  refine lv_istore_n (lv' := [(1, .int (i_1 32)), (0, .ref h0)]) hx hb d_Mo_expiryLine_18 rfl hl (by decide) rfl (fun ls hl => ?_)
  refine lv_aload_n hx hb d_Mo_expiryLine_19 rfl (lv_at hl 1 rfl) ?_
  obtain ⟨⟨z_9, i_5, j_6, a_7, b_8⟩, hc, hf⟩ := ob hf
  have hFc := mo_free hD hS hA
  refine cl_M (v := (some (.int z_9))) (st1 := [.int z_9]) (va_runV (As := []) (rest := []) ⟨hx, hb, hml, hown, hts⟩ (c_Mo_digits l dC dI h0 r cA H.size nf i_1 j_2 a_3 b_4 hc) (cwV 0 hts (gdV m_8_192 m_8_194 msel_101 m_1_10 m_8_195) rfl rfl rfl (by decide +kernel) ⟨Nat.le_trans (Nat.le_of_ble_eq_true rfl) hRf, Nat.le_trans (Nat.le_of_ble_eq_true rfl) hRl⟩) ((MU.pre hP hK hD (hST.mu hS hFc)).vir (va_recv hK hP (ci := 10) (q0 := 0) rfl rfl)) rfl rfl hl.1 rfl (lv_room (Nat.le_of_ble_eq_true rfl)) d_Mo_expiryLine_20 ⟨Nat.zero_le _, Nat.zero_le _⟩) rfl hS (fun q _ h => hFc q h) hFc (fun t H1 locs ht hvm hB hz1 hk1 hS => ?_)
  obtain ⟨hP, hD⟩ := mo_back ht hD hB
  generalize H1 = H at hP hS ⊢
  refine lv_if_ne (tgt := 28) hx hb d_Mo_expiryLine_23 (by decide) (fun c_10 => ?_) (fun c_10 => ?_)
  · have hf := it_f c_10 hf
    refine lv_aload_n hx hb d_Mo_expiryLine_28 rfl (lv_at hl 1 rfl) ?_
    obtain ⟨⟨i_11, j_12, a_13, b_14⟩, hc, hf⟩ := ob hf
    have hFc := mo_free hD hS hA
    refine cl_M (v := none) (st1 := []) (va_runV (As := []) (rest := []) ⟨hx, hb, hml, hown, hts⟩ (c_Mo_blanks l dC dI h0 r cA H.size nf i_5 j_6 a_7 b_8 hc) (cwV 0 hts (gdV m_8_185 m_8_187 msel_100 m_1_10 m_8_188) rfl rfl rfl (by decide +kernel) ⟨Nat.le_trans (Nat.le_of_ble_eq_true rfl) hRf, Nat.le_trans (Nat.le_of_ble_eq_true rfl) hRl⟩) ((MU.pre hP hK hD (hST.mu hS hFc)).vir (va_recv hK hP (ci := 10) (q0 := 0) rfl rfl)) rfl rfl hl.1 rfl (lv_room (Nat.le_of_ble_eq_true rfl)) d_Mo_expiryLine_29 ⟨Nat.zero_le _, Nat.zero_le _⟩) rfl hS (fun q _ h => hFc q h) hFc (fun t H1 locs ht hvm hB hz1 hk1 hS => ?_)
    obtain ⟨hP, hD⟩ := mo_back ht hD hB
    generalize H1 = H at hP hS ⊢
    refine lv_aload_n hx hb d_Mo_expiryLine_32 rfl (lv_at hl 1 rfl) ?_
    obtain ⟨⟨z_19, i_15, j_16, a_17, b_18⟩, hc, hf⟩ := ob hf
    have hFc := mo_free hD hS hA
    refine cl_M (v := (some (.int z_19))) (st1 := [.int z_19]) (va_runV (As := []) (rest := []) ⟨hx, hb, hml, hown, hts⟩ (c_Mo_lineEnd l dC dI h0 r cA H.size nf i_11 j_12 a_13 b_14 hc) (cwV 0 hts (gdV m_8_197 m_8_199 msel_102 m_1_10 m_8_200) rfl rfl rfl (by decide +kernel) ⟨Nat.le_trans (Nat.le_of_ble_eq_true rfl) hRf, Nat.le_trans (Nat.le_of_ble_eq_true rfl) hRl⟩) ((MU.pre hP hK hD (hST.mu hS hFc)).vir (va_recv hK hP (ci := 10) (q0 := 0) rfl rfl)) rfl rfl hl.1 rfl (lv_room (Nat.le_of_ble_eq_true rfl)) d_Mo_expiryLine_33 ⟨Nat.zero_le _, Nat.zero_le _⟩) rfl hS (fun q _ h => hFc q h) hFc (fun t H1 locs ht hvm hB hz1 hk1 hS => ?_)
    obtain ⟨hP, hD⟩ := mo_back ht hD hB
    generalize H1 = H at hP hS ⊢
    refine lv_if_ne (tgt := 41) hx hb d_Mo_expiryLine_36 (by decide) (fun c_20 => ?_) (fun c_20 => ?_)
    · have hf := it_f c_20 hf
      refine lv_aload_n hx hb d_Mo_expiryLine_41 rfl (lv_at hl 1 rfl) ?_
      refine mg_70 (v := i_15 70) hx hb hts hown hK hP rfl d_Mo_expiryLine_42 ?_
      refine lv_if_eq (tgt := 55) hx hb d_Mo_expiryLine_45 (by decide) (fun c_21 => ?_) (fun c_21 => ?_)
      · have hf := it_t c_21 hf
        refine lv_aload_n hx hb d_Mo_expiryLine_55 rfl (lv_at hl 1 rfl) ?_
        refine lv_iconst (v := 1) hx hb d_Mo_expiryLine_56 (by decide) ?_
        refine mp_70 hx hb hts hown hK hP hD hS (by decide) d_Mo_expiryLine_57 (fun H locs hP hD hS => ?_)
        refine lv_aload_n hx hb d_Mo_expiryLine_60 rfl (lv_at hl 1 rfl) ?_
        refine lv_aload_n hx hb d_Mo_expiryLine_61 rfl (lv_at hl 1 rfl) ?_
        refine mg_71 (v := j_16 71) hx hb hts hown hK hP rfl d_Mo_expiryLine_62 ?_
        refine mp_69 hx hb hts hown hK hP hD hS d_Mo_expiryLine_65 (fun H locs hP hD hS => ?_)
        refine lv_iconst (v := 1) hx hb d_Mo_expiryLine_68 (by decide) ?_
        cases rs hf
        exact hE _ _ _ _ d_Mo_expiryLine_69 rfl hP hD hS
      · have hf := it_f c_21 hf
        refine lv_aload_n hx hb d_Mo_expiryLine_48 rfl (lv_at hl 1 rfl) ?_
        refine lv_iconst (v := 5) hx hb d_Mo_expiryLine_49 (by decide) ?_
        refine lv_iload_n hx hb d_Mo_expiryLine_50 rfl (lv_at hl 0 rfl) ?_
        obtain ⟨⟨z_26, i_22, j_23, a_24, b_25⟩, hc, hf⟩ := ob hf
        have hFc := mo_free hD hS hA
        refine cl_M (v := (some (.int z_26))) (st1 := [.int z_26]) (va_runV (As := [.int 5, .int (i_1 32)]) (rest := []) ⟨hx, hb, hml, hown, hts⟩ (c_Mo_faulty l dC dI h0 r cA H.size nf 5 (i_1 32) i_15 j_16 a_17 b_18 hc) (cwV 2 hts (gdV m_7_133 m_7_135 msel_60 m_1_10 m_7_136) rfl rfl rfl (by decide +kernel) ⟨Nat.le_trans (Nat.le_of_ble_eq_true rfl) hRf, Nat.le_trans (Nat.le_of_ble_eq_true rfl) hRl⟩) ((MU.pre hP hK hD (hST.mu hS hFc)).vir (va_recv hK hP (ci := 10) (q0 := 0) rfl rfl)) rfl rfl hl.1 rfl (lv_room (Nat.le_of_ble_eq_true rfl)) d_Mo_expiryLine_51 ⟨Nat.zero_le _, Nat.zero_le _⟩) rfl hS (fun q _ h => hFc q h) hFc (fun t H1 locs ht hvm hB hz1 hk1 hS => ?_)
        obtain ⟨hP, hD⟩ := mo_back ht hD hB
        generalize H1 = H at hP hS ⊢
        obtain ⟨c_27, hf⟩ := it_g hf
        cases rs hf
        exact hE _ _ _ _ d_Mo_expiryLine_54 (nb_of c_27) hP hD hS
    · have hf := it_t c_20 hf
      refine lv_iconst (v := 0) hx hb d_Mo_expiryLine_39 (by decide) ?_
      cases rs hf
      exact hE _ _ _ _ d_Mo_expiryLine_40 rfl hP hD hS
  · have hf := it_t c_10 hf
    refine lv_iconst (v := 0) hx hb d_Mo_expiryLine_26 (by decide) ?_
    cases rs hf
    exact hE _ _ _ _ d_Mo_expiryLine_27 rfl hP hD hS
end
set_option maxHeartbeats 400000 in
set_option maxRecDepth 100000 in
theorem c_Mo_expiryLine (l : Launch) (dC : Nat → ClassId) (dI : Nat → Nat → Nat) (h0 : Nat) (r : Nat → Nat) (cA : Nat → ClassId) (sz : Nat) (nf : Nat) (si : Nat → Int32) (sj : Nat → Int64) (sa : Nat → Nat → Int32) (sb : Nat → Nat → Int64) {r0 : Int32} {vi : Nat → Int32} {vj : Nat → Int64} {va : Nat → Nat → Int32} {vb : Nat → Nat → Int64} (hf : f_Mo_expiryLine nf si sj sa sb = some (r0, vi, vj, va, vb)) : Met l y_Mo_expiryLine (wd y_Mo_expiryLine b_Mo_expiryLine 2 (some .boolean)) ({ frames := 2, cells := 0, slots := 0, locals := 43 }) (MU dC dI (moW h0 r cA si sj sa sb) (moT cA) sz [.ref h0]) (MV (some (.int r0)) (fun t => va_P (dC, dI) classes (moW h0 r cA vi vj va vb) t.heap) (va_A (moW h0 r cA si sj sa sb) sz)) 0 0 (va_A (moW h0 r cA si sj sa sb) sz) :=
  met_M (plainFor_of_name (by decide)) (Nat.le_of_ble_eq_true rfl) (fun p e R s m args below meth c ls hRc hRs hsz hin C0 hST hK hP hD hl => by
    obtain ⟨hx, hb, hr, hml, hown, hts, hlocks, hRf, hRl⟩ := id C0
    subst hsz
    have hA : ∀ q : Nat, s.heap.size ≤ q → va_A (moW h0 r cA si sj sa sb) s.heap.size q := fun q h => Or.inr h
    have hS : va_S (va_A (moW h0 r cA si sj sa sb) s.heap.size) s.heap s.heap [] := va_S.rf
    unfold f_Mo_expiryLine at hf
    exact k_Mo_expiryLine_0 C0 hST hA hK (fun pc ls H locs hd hn hP hD hS => W.zret hx hb hr hn (fun t ht hW => ⟨⟨rfl, mo_end ht hP⟩, hS.F ht⟩) hS.2.2 hd) hf hP hD hS (lv_sub hl [0] rfl))
-- ZoneFilesModel.rowLine()Z
def f_Mo_rowLine_130 (nf : Nat) (x1 : Int32) (si : Nat → Int32) (sj : Nat → Int64) (sa : Nat → Nat → Int32) (sb : Nat → Nat → Int64) : Option (Int32 × (Nat → Int32) × (Nat → Int64) × (Nat → Nat → Int32) × (Nat → Nat → Int64)) :=
  (f_Mo_faulty nf 2 x1 si sj sa sb).bind fun (z_37, i_33, j_34, a_35, b_36) =>
  if z_37 = 0 ∨ z_37 = 1 then some (z_37, i_33, j_34, a_35, b_36) else none
def f_Mo_rowLine_192 (nf : Nat) (x5 : Int64) (x2 : Int64) (x1 : Int32) (si : Nat → Int32) (sj : Nat → Int64) (sa : Nat → Nat → Int32) (sb : Nat → Nat → Int64) : Option (Int32 × (Nat → Int32) × (Nat → Int64) × (Nat → Nat → Int32) × (Nat → Nat → Int64)) :=
  if (si 66) = (60 : Int32) then
  (f_Mo_faulty nf 4 x1 si sj sa sb).bind fun (z_48, i_44, j_45, a_46, b_47) =>
    if z_48 = 0 ∨ z_48 = 1 then some (z_48, i_44, j_45, a_46, b_47) else none
  else
  if (si 66) < 0 ∨ 60 ≤ (si 66).toNatClampNeg then none else
    if (si 66) < 0 ∨ 60 ≤ (si 66).toNatClampNeg then none else
    some (1, va_up si 66 ((si 66) + 1), sj, sa, va_up (va_up sb 67 (vp_updL (sb 67) (si 66).toNatClampNeg x2)) 68 (vp_updL (sb 68) (si 66).toNatClampNeg x5))
def f_Mo_rowLine_137 (nf : Nat) (x5 : Int64) (x4 : Int32) (x2 : Int64) (x1 : Int32) (si : Nat → Int32) (sj : Nat → Int64) (sa : Nat → Nat → Int32) (sb : Nat → Nat → Int64) : Option (Int32 × (Nat → Int32) × (Nat → Int64) × (Nat → Nat → Int32) × (Nat → Nat → Int64)) :=
  if (si 66) ≤ 0 then
  f_Mo_rowLine_192 nf x5 x2 x1 si sj sa sb
  else
  if ((si 66) - 1) < 0 ∨ 60 ≤ ((si 66) - 1).toNatClampNeg then none else
    if (x5 - (sb 68 ((si 66) - 1).toNatClampNeg)) = (1 : Int64) then
    f_Mo_rowLine_192 nf x5 x2 x1 si sj sa sb
    else
    if ((si 66) - 1) < 0 ∨ 60 ≤ ((si 66) - 1).toNatClampNeg then none else
      if (x5 - (sb 68 ((si 66) - 1).toNatClampNeg)) = (-1 : Int64) then
      f_Mo_rowLine_192 nf x5 x2 x1 si sj sa sb
      else
      (f_Mo_faulty nf 3 x4 si sj sa sb).bind fun (z_58, i_54, j_55, a_56, b_57) =>
        if z_58 = 0 ∨ z_58 = 1 then some (z_58, i_54, j_55, a_56, b_57) else none
def f_Mo_rowLine_88 (nf : Nat) (x5 : Int64) (x4 : Int32) (x2 : Int64) (x1 : Int32) (s0 : Int32) (si : Nat → Int32) (sj : Nat → Int64) (sa : Nat → Nat → Int32) (sb : Nat → Nat → Int64) : Option (Int32 × (Nat → Int32) × (Nat → Int64) × (Nat → Nat → Int32) × (Nat → Nat → Int64)) :=
  if s0 = 0 then
  some (0, si, sj, sa, sb)
  else
  if (x2 - x2 / 86400 * 86400) = (0 : Int64) then
    if (si 66) ≤ 0 then
      f_Mo_rowLine_137 nf x5 x4 x2 x1 si sj sa sb
      else
      if ((si 66) - 1) < 0 ∨ 60 ≤ ((si 66) - 1).toNatClampNeg then none else
        if (sb 67 ((si 66) - 1).toNatClampNeg) < x2 then
        f_Mo_rowLine_137 nf x5 x4 x2 x1 si sj sa sb
        else
        f_Mo_rowLine_130 nf x1 si sj sa sb
    else
    f_Mo_rowLine_130 nf x1 si sj sa sb
def f_Mo_rowLine_0 (nf : Nat) (si : Nat → Int32) (sj : Nat → Int64) (sa : Nat → Nat → Int32) (sb : Nat → Nat → Int64) : Option (Int32 × (Nat → Int32) × (Nat → Int64) × (Nat → Nat → Int32) × (Nat → Nat → Int64)) :=
  (f_Mo_digits nf si sj sa sb).bind fun (z_5, i_1, j_2, a_3, b_4) =>
  if z_5 = 0 then
  some (0, i_1, j_2, a_3, b_4)
  else
  (f_Mo_look nf i_1 j_2 a_3 b_4).bind fun r_7 =>
    (f_Mo_isBlank nf r_7).bind fun r_8 =>
    if r_8 = 0 then
    (f_Mo_faulty nf 1 (i_1 32) i_1 j_2 a_3 b_4).bind fun (z_71, i_67, j_68, a_69, b_70) =>
      if z_71 = 0 ∨ z_71 = 1 then some (z_71, i_67, j_68, a_69, b_70) else none
    else
    (f_Mo_blanks nf i_1 j_2 a_3 b_4).bind fun (i_10, j_11, a_12, b_13) =>
      (f_Mo_digits nf i_10 j_11 a_12 b_13).bind fun (z_18, i_14, j_15, a_16, b_17) =>
      if z_18 = 0 then
      some (0, i_14, j_15, a_16, b_17)
      else
      (f_Mo_blanks nf i_14 j_15 a_16 b_17).bind fun (i_20, j_21, a_22, b_23) =>
        (f_Mo_look nf i_20 j_21 a_22 b_23).bind fun r_24 =>
        if r_24 = (35 : Int32) then
        (f_Mo_remark nf i_20 j_21 a_22 b_23).bind fun (z_66, i_62, j_63, a_64, b_65) =>
          f_Mo_rowLine_88 nf (j_15 71) (i_10 32) (j_2 71) (si 32) z_66 i_62 j_63 a_64 b_65
        else
        (f_Mo_lineEnd nf i_20 j_21 a_22 b_23).bind fun (z_30, i_26, j_27, a_28, b_29) =>
          f_Mo_rowLine_88 nf (j_15 71) (i_10 32) (j_2 71) (si 32) z_30 i_26 j_27 a_28 b_29
def f_Mo_rowLine (nf : Nat) (si : Nat → Int32) (sj : Nat → Int64) (sa : Nat → Nat → Int32) (sb : Nat → Nat → Int64) : Option (Int32 × (Nat → Int32) × (Nat → Int64) × (Nat → Nat → Int32) × (Nat → Nat → Int64)) :=
  f_Mo_rowLine_0 nf si sj sa sb
section
variable {p : Program} {l : Launch} {e : Env} {R : Room} {s : State} {m : MethodId} {args : Array Value} {below : List Frame} {meth : Method} {c : Code} {Q : State → Prop} {dC : Nat → ClassId} {dI : Nat → Nat → Nat} {nf : Nat} {A : Nat → Prop} {h0 : Nat} {r : Nat → Nat} {cA : Nat → ClassId}
variable {r0 : Int32} {vi : Nat → Int32} {vj : Nat → Int64} {va : Nat → Nat → Int32} {vb : Nat → Nat → Int64}
set_option maxHeartbeats 400000 in
set_option maxRecDepth 100000 in
theorem k_Mo_rowLine_130 (C0 : Cx p s m meth c args R b_Mo_rowLine "ZoneFilesModel" 8 (some .boolean) 3 62) (hST : ST A s s.heap) (hA : ∀ q, s.heap.size ≤ q → A q) (hK : va_K (dC, dI) classes (moT cA) s) (hE : ∀ (pc : Nat) (ls : Array Slot) (H : Heap) (locs : List Loc), decode b_Mo_rowLine pc = .ok (.ireturn, 1) → narrow .boolean (.int r0) = .int r0 → va_P (dC, dI) classes (moW h0 r cA vi vj va vb) H → va_D A (moW h0 r cA vi vj va vb) → va_S A s.heap H locs → W p l e R s m args below meth c H locs 0 0 Q (F0 m pc ls [.int r0])) {x1 : Int32} {si : Nat → Int32} {sj : Nat → Int64} {sa : Nat → Nat → Int32} {sb : Nat → Nat → Int64} (hf : f_Mo_rowLine_130 nf x1 si sj sa sb = some (r0, vi, vj, va, vb)) {H : Heap} {locs : List Loc} {ls : Array Slot} (hP : va_P (dC, dI) classes (moW h0 r cA si sj sa sb) H) (hD : va_D A (moW h0 r cA si sj sa sb)) (hS : va_S A s.heap H locs) (hl : lv_has ls 8 [(1, .int x1), (0, .ref h0)]) : W p l e R s m args below meth c H locs 0 0 Q (F0 m 130 ls []) := by
  obtain ⟨hx, hb, hr, hml, hown, hts, hlocks, hRf, hRl⟩ := id C0
  unfold f_Mo_rowLine_130 at hf
  refine lv_aload_n hx hb d_Mo_rowLine_130 rfl (lv_at hl 1 rfl) ?_
  refine lv_iconst (v := 2) hx hb d_Mo_rowLine_131 (by decide) ?_
  refine lv_iload_n hx hb d_Mo_rowLine_132 rfl (lv_at hl 0 rfl) ?_
  obtain ⟨⟨z_37, i_33, j_34, a_35, b_36⟩, hc, hf⟩ := ob hf
  have hFc := mo_free hD hS hA
  refine cl_M (v := (some (.int z_37))) (st1 := [.int z_37]) (va_runV (As := [.int 2, .int x1]) (rest := []) ⟨hx, hb, hml, hown, hts⟩ (c_Mo_faulty l dC dI h0 r cA H.size nf 2 x1 si sj sa sb hc) (cwV 2 hts (gdV m_7_133 m_7_135 msel_60 m_1_10 m_7_136) rfl rfl rfl (by decide +kernel) ⟨Nat.le_trans (Nat.le_of_ble_eq_true rfl) hRf, Nat.le_trans (Nat.le_of_ble_eq_true rfl) hRl⟩) ((MU.pre hP hK hD (hST.mu hS hFc)).vir (va_recv hK hP (ci := 10) (q0 := 0) rfl rfl)) rfl rfl hl.1 rfl (lv_room (Nat.le_of_ble_eq_true rfl)) d_Mo_rowLine_133 ⟨Nat.zero_le _, Nat.zero_le _⟩) rfl hS (fun q _ h => hFc q h) hFc (fun t H1 locs ht hvm hB hz1 hk1 hS => ?_)
  obtain ⟨hP, hD⟩ := mo_back ht hD hB
  generalize H1 = H at hP hS ⊢
  obtain ⟨c_38, hf⟩ := it_g hf
  cases rs hf
  exact hE _ _ _ _ d_Mo_rowLine_136 (nb_of c_38) hP hD hS
set_option maxHeartbeats 400000 in
set_option maxRecDepth 100000 in
theorem k_Mo_rowLine_192 (C0 : Cx p s m meth c args R b_Mo_rowLine "ZoneFilesModel" 8 (some .boolean) 3 62) (hST : ST A s s.heap) (hA : ∀ q, s.heap.size ≤ q → A q) (hK : va_K (dC, dI) classes (moT cA) s) (hE : ∀ (pc : Nat) (ls : Array Slot) (H : Heap) (locs : List Loc), decode b_Mo_rowLine pc = .ok (.ireturn, 1) → narrow .boolean (.int r0) = .int r0 → va_P (dC, dI) classes (moW h0 r cA vi vj va vb) H → va_D A (moW h0 r cA vi vj va vb) → va_S A s.heap H locs → W p l e R s m args below meth c H locs 0 0 Q (F0 m pc ls [.int r0])) {x5 : Int64} {x2 : Int64} {x1 : Int32} {si : Nat → Int32} {sj : Nat → Int64} {sa : Nat → Nat → Int32} {sb : Nat → Nat → Int64} (hf : f_Mo_rowLine_192 nf x5 x2 x1 si sj sa sb = some (r0, vi, vj, va, vb)) {H : Heap} {locs : List Loc} {ls : Array Slot} (hP : va_P (dC, dI) classes (moW h0 r cA si sj sa sb) H) (hD : va_D A (moW h0 r cA si sj sa sb)) (hS : va_S A s.heap H locs) (hl : lv_has ls 8 [(5, .long x5), (2, .long x2), (1, .int x1), (0, .ref h0)]) : W p l e R s m args below meth c H locs 0 0 Q (F0 m 192 ls []) := by
  obtain ⟨hx, hb, hr, hml, hown, hts, hlocks, hRf, hRl⟩ := id C0
  unfold f_Mo_rowLine_192 at hf
  refine lv_aload_n hx hb d_Mo_rowLine_192 rfl (lv_at hl 3 rfl) ?_
  refine mg_66 (v := si 66) hx hb hts hown hK hP rfl d_Mo_rowLine_193 ?_
  refine lv_bipush (v := 60) hx hb d_Mo_rowLine_196 (by decide) ?_
  refine lv_icmp_ne (tgt := 208) hx hb d_Mo_rowLine_198 (by decide) (fun c_41 => ?_) (fun c_41 => ?_)
  · have hf := it_f c_41 hf
    refine lv_aload_n hx hb d_Mo_rowLine_208 rfl (lv_at hl 3 rfl) ?_
    refine mg_67 hx hb hts hown hK hP d_Mo_rowLine_209 ?_
    refine lv_aload_n hx hb d_Mo_rowLine_212 rfl (lv_at hl 3 rfl) ?_
    refine mg_66 (v := si 66) hx hb hts hown hK hP rfl d_Mo_rowLine_213 ?_
    refine lv_lload_n hx hb d_Mo_rowLine_216 rfl (lv_at hl 1 rfl) ?_
    obtain ⟨c_42, hf⟩ := it_n hf
    refine mz_67 hx hb hK hP hD hS c_42 d_Mo_rowLine_217 (fun H locs hP hD hS => ?_)
    refine lv_aload_n hx hb d_Mo_rowLine_218 rfl (lv_at hl 3 rfl) ?_
    refine mg_68 hx hb hts hown hK hP d_Mo_rowLine_219 ?_
    refine lv_aload_n hx hb d_Mo_rowLine_222 rfl (lv_at hl 3 rfl) ?_
    refine mg_66 (v := si 66) hx hb hts hown hK hP rfl d_Mo_rowLine_223 ?_
    refine lv_lload hx hb d_Mo_rowLine_226 (lv_at hl 0 rfl) ?_
    obtain ⟨c_43, hf⟩ := it_n hf
    refine mz_68 hx hb hK hP hD hS c_43 d_Mo_rowLine_228 (fun H locs hP hD hS => ?_)
    refine lv_aload_n hx hb d_Mo_rowLine_229 rfl (lv_at hl 3 rfl) ?_
    refine lv_dup hx hb d_Mo_rowLine_230 rfl ?_
    refine mg_66 (v := si 66) hx hb hts hown hK hP rfl d_Mo_rowLine_231 ?_
    refine lv_iconst (v := 1) hx hb d_Mo_rowLine_234 (by decide) ?_
    refine lv_iadd hx hb d_Mo_rowLine_235 ?_
    refine mp_66 hx hb hts hown hK hP hD hS d_Mo_rowLine_236 (fun H locs hP hD hS => ?_)
    refine lv_iconst (v := 1) hx hb d_Mo_rowLine_239 (by decide) ?_
    cases rs hf
    exact hE _ _ _ _ d_Mo_rowLine_240 rfl hP hD hS
  · have hf := it_t c_41 hf
    refine lv_aload_n hx hb d_Mo_rowLine_201 rfl (lv_at hl 3 rfl) ?_
    refine lv_iconst (v := 4) hx hb d_Mo_rowLine_202 (by decide) ?_
    refine lv_iload_n hx hb d_Mo_rowLine_203 rfl (lv_at hl 2 rfl) ?_
    obtain ⟨⟨z_48, i_44, j_45, a_46, b_47⟩, hc, hf⟩ := ob hf
    have hFc := mo_free hD hS hA
    refine cl_M (v := (some (.int z_48))) (st1 := [.int z_48]) (va_runV (As := [.int 4, .int x1]) (rest := []) ⟨hx, hb, hml, hown, hts⟩ (c_Mo_faulty l dC dI h0 r cA H.size nf 4 x1 si sj sa sb hc) (cwV 2 hts (gdV m_7_133 m_7_135 msel_60 m_1_10 m_7_136) rfl rfl rfl (by decide +kernel) ⟨Nat.le_trans (Nat.le_of_ble_eq_true rfl) hRf, Nat.le_trans (Nat.le_of_ble_eq_true rfl) hRl⟩) ((MU.pre hP hK hD (hST.mu hS hFc)).vir (va_recv hK hP (ci := 10) (q0 := 0) rfl rfl)) rfl rfl hl.1 rfl (lv_room (Nat.le_of_ble_eq_true rfl)) d_Mo_rowLine_204 ⟨Nat.zero_le _, Nat.zero_le _⟩) rfl hS (fun q _ h => hFc q h) hFc (fun t H1 locs ht hvm hB hz1 hk1 hS => ?_)
    obtain ⟨hP, hD⟩ := mo_back ht hD hB
    generalize H1 = H at hP hS ⊢
    obtain ⟨c_49, hf⟩ := it_g hf
    cases rs hf
    exact hE _ _ _ _ d_Mo_rowLine_207 (nb_of c_49) hP hD hS
set_option maxHeartbeats 400000 in
set_option maxRecDepth 100000 in
theorem k_Mo_rowLine_137 (C0 : Cx p s m meth c args R b_Mo_rowLine "ZoneFilesModel" 8 (some .boolean) 3 62) (hST : ST A s s.heap) (hA : ∀ q, s.heap.size ≤ q → A q) (hK : va_K (dC, dI) classes (moT cA) s) (hE : ∀ (pc : Nat) (ls : Array Slot) (H : Heap) (locs : List Loc), decode b_Mo_rowLine pc = .ok (.ireturn, 1) → narrow .boolean (.int r0) = .int r0 → va_P (dC, dI) classes (moW h0 r cA vi vj va vb) H → va_D A (moW h0 r cA vi vj va vb) → va_S A s.heap H locs → W p l e R s m args below meth c H locs 0 0 Q (F0 m pc ls [.int r0])) {x5 : Int64} {x4 : Int32} {x2 : Int64} {x1 : Int32} {si : Nat → Int32} {sj : Nat → Int64} {sa : Nat → Nat → Int32} {sb : Nat → Nat → Int64} (hf : f_Mo_rowLine_137 nf x5 x4 x2 x1 si sj sa sb = some (r0, vi, vj, va, vb)) {H : Heap} {locs : List Loc} {ls : Array Slot} (hP : va_P (dC, dI) classes (moW h0 r cA si sj sa sb) H) (hD : va_D A (moW h0 r cA si sj sa sb)) (hS : va_S A s.heap H locs) (hl : lv_has ls 8 [(5, .long x5), (4, .int x4), (2, .long x2), (1, .int x1), (0, .ref h0)]) : W p l e R s m args below meth c H locs 0 0 Q (F0 m 137 ls []) := by
  obtain ⟨hx, hb, hr, hml, hown, hts, hlocks, hRf, hRl⟩ := id C0
  unfold f_Mo_rowLine_137 at hf
  refine lv_aload_n hx hb d_Mo_rowLine_137 rfl (lv_at hl 4 rfl) ?_
  refine mg_66 (v := si 66) hx hb hts hown hK hP rfl d_Mo_rowLine_138 ?_
  refine lv_if_le (tgt := 192) hx hb d_Mo_rowLine_141 (by decide) (fun c_40 => ?_) (fun c_40 => ?_)
  · have hf := it_t c_40 hf
    exact k_Mo_rowLine_192 C0 hST hA hK hE hf hP hD hS (lv_sub hl [0, 2, 3, 4] rfl)
  · have hf := it_f c_40 hf
    refine lv_lload hx hb d_Mo_rowLine_144 (lv_at hl 0 rfl) ?_
    refine lv_aload_n hx hb d_Mo_rowLine_146 rfl (lv_at hl 4 rfl) ?_
    refine mg_68 hx hb hts hown hK hP d_Mo_rowLine_147 ?_
    refine lv_aload_n hx hb d_Mo_rowLine_150 rfl (lv_at hl 4 rfl) ?_
    refine mg_66 (v := si 66) hx hb hts hown hK hP rfl d_Mo_rowLine_151 ?_
    refine lv_iconst (v := 1) hx hb d_Mo_rowLine_154 (by decide) ?_
    refine lv_isub hx hb d_Mo_rowLine_155 ?_
    obtain ⟨c_50, hf⟩ := it_n hf
    refine ma_68 (v := sb 68 ((si 66) - 1).toNatClampNeg) hx hb hK hP c_50 rfl d_Mo_rowLine_156 ?_
    refine lv_lsub hx hb d_Mo_rowLine_157 ?_
    refine lv_lconst (v := 1) hx hb d_Mo_rowLine_158 (by decide) ?_
    refine lc_eq (tgt := 192) hx hb d_Mo_rowLine_159 d_Mo_rowLine_160 (by decide) (fun c_51 => ?_) (fun c_51 => ?_)
    · have hf := it_t c_51 hf
      exact k_Mo_rowLine_192 C0 hST hA hK hE hf hP hD hS (lv_sub hl [0, 2, 3, 4] rfl)
    · have hf := it_f c_51 hf
      refine lv_lload hx hb d_Mo_rowLine_163 (lv_at hl 0 rfl) ?_
      refine lv_aload_n hx hb d_Mo_rowLine_165 rfl (lv_at hl 4 rfl) ?_
      refine mg_68 hx hb hts hown hK hP d_Mo_rowLine_166 ?_
      refine lv_aload_n hx hb d_Mo_rowLine_169 rfl (lv_at hl 4 rfl) ?_
      refine mg_66 (v := si 66) hx hb hts hown hK hP rfl d_Mo_rowLine_170 ?_
      refine lv_iconst (v := 1) hx hb d_Mo_rowLine_173 (by decide) ?_
      refine lv_isub hx hb d_Mo_rowLine_174 ?_
      obtain ⟨c_52, hf⟩ := it_n hf
      refine ma_68 (v := sb 68 ((si 66) - 1).toNatClampNeg) hx hb hK hP c_52 rfl d_Mo_rowLine_175 ?_
      refine lv_lsub hx hb d_Mo_rowLine_176 ?_
      refine lv_ldc2 (v := (-1)) hx hb hown (hts (.constantLong "ZoneFilesModel" 267 (-1)) m_7_185) d_Mo_rowLine_177 ?_
      refine lc_eq (tgt := 192) hx hb d_Mo_rowLine_180 d_Mo_rowLine_181 (by decide) (fun c_53 => ?_) (fun c_53 => ?_)
      · have hf := it_t c_53 hf
        exact k_Mo_rowLine_192 C0 hST hA hK hE hf hP hD hS (lv_sub hl [0, 2, 3, 4] rfl)
      · have hf := it_f c_53 hf
        refine lv_aload_n hx hb d_Mo_rowLine_184 rfl (lv_at hl 4 rfl) ?_
        refine lv_iconst (v := 3) hx hb d_Mo_rowLine_185 (by decide) ?_
        refine lv_iload hx hb d_Mo_rowLine_186 (lv_at hl 1 rfl) ?_
        obtain ⟨⟨z_58, i_54, j_55, a_56, b_57⟩, hc, hf⟩ := ob hf
        have hFc := mo_free hD hS hA
        refine cl_M (v := (some (.int z_58))) (st1 := [.int z_58]) (va_runV (As := [.int 3, .int x4]) (rest := []) ⟨hx, hb, hml, hown, hts⟩ (c_Mo_faulty l dC dI h0 r cA H.size nf 3 x4 si sj sa sb hc) (cwV 2 hts (gdV m_7_133 m_7_135 msel_60 m_1_10 m_7_136) rfl rfl rfl (by decide +kernel) ⟨Nat.le_trans (Nat.le_of_ble_eq_true rfl) hRf, Nat.le_trans (Nat.le_of_ble_eq_true rfl) hRl⟩) ((MU.pre hP hK hD (hST.mu hS hFc)).vir (va_recv hK hP (ci := 10) (q0 := 0) rfl rfl)) rfl rfl hl.1 rfl (lv_room (Nat.le_of_ble_eq_true rfl)) d_Mo_rowLine_188 ⟨Nat.zero_le _, Nat.zero_le _⟩) rfl hS (fun q _ h => hFc q h) hFc (fun t H1 locs ht hvm hB hz1 hk1 hS => ?_)
        obtain ⟨hP, hD⟩ := mo_back ht hD hB
        generalize H1 = H at hP hS ⊢
        obtain ⟨c_59, hf⟩ := it_g hf
        cases rs hf
        exact hE _ _ _ _ d_Mo_rowLine_191 (nb_of c_59) hP hD hS
set_option maxHeartbeats 400000 in
set_option maxRecDepth 100000 in
theorem k_Mo_rowLine_88 (C0 : Cx p s m meth c args R b_Mo_rowLine "ZoneFilesModel" 8 (some .boolean) 3 62) (hST : ST A s s.heap) (hA : ∀ q, s.heap.size ≤ q → A q) (hK : va_K (dC, dI) classes (moT cA) s) (hE : ∀ (pc : Nat) (ls : Array Slot) (H : Heap) (locs : List Loc), decode b_Mo_rowLine pc = .ok (.ireturn, 1) → narrow .boolean (.int r0) = .int r0 → va_P (dC, dI) classes (moW h0 r cA vi vj va vb) H → va_D A (moW h0 r cA vi vj va vb) → va_S A s.heap H locs → W p l e R s m args below meth c H locs 0 0 Q (F0 m pc ls [.int r0])) {x5 : Int64} {x4 : Int32} {x2 : Int64} {x1 : Int32} {s0 : Int32} {si : Nat → Int32} {sj : Nat → Int64} {sa : Nat → Nat → Int32} {sb : Nat → Nat → Int64} (hf : f_Mo_rowLine_88 nf x5 x4 x2 x1 s0 si sj sa sb = some (r0, vi, vj, va, vb)) {H : Heap} {locs : List Loc} {ls : Array Slot} (hP : va_P (dC, dI) classes (moW h0 r cA si sj sa sb) H) (hD : va_D A (moW h0 r cA si sj sa sb)) (hS : va_S A s.heap H locs) (hl : lv_has ls 8 [(5, .long x5), (4, .int x4), (2, .long x2), (1, .int x1), (0, .ref h0)]) : W p l e R s m args below meth c H locs 0 0 Q (F0 m 88 ls [.int s0]) := by
  obtain ⟨hx, hb, hr, hml, hown, hts, hlocks, hRf, hRl⟩ := id C0
  unfold f_Mo_rowLine_88 at hf
  refine lv_istore (lv' := [(7, .int s0), (5, .long x5), (4, .int x4), (2, .long x2), (1, .int x1), (0, .ref h0)]) hx hb d_Mo_rowLine_88 hl (by decide) rfl (fun ls hl => ?_)
  refine lv_iload hx hb d_Mo_rowLine_90 (lv_at hl 0 rfl) ?_
  refine lv_if_ne (tgt := 97) hx hb d_Mo_rowLine_92 (by decide) (fun c_31 => ?_) (fun c_31 => ?_)
  · have hf := it_f c_31 hf
    refine lv_lload_n hx hb d_Mo_rowLine_97 rfl (lv_at hl 3 rfl) ?_
    refine lv_ldc2 (v := 86400) hx hb hown (hts (.constantLong "ZoneFilesModel" 335 86400) m_7_224) d_Mo_rowLine_98 ?_
    refine lv_lrem hx hb d_Mo_rowLine_101 (by decide) ?_
    refine lv_lconst (v := 0) hx hb d_Mo_rowLine_102 (by decide) ?_
    refine lc_ne (tgt := 130) hx hb d_Mo_rowLine_103 d_Mo_rowLine_104 (by decide) (fun c_32 => ?_) (fun c_32 => ?_)
    · have hf := it_f c_32 hf
      exact k_Mo_rowLine_130 C0 hST hA hK hE hf hP hD hS (lv_sub hl [4, 5] rfl)
    · have hf := it_t c_32 hf
      refine lv_aload_n hx hb d_Mo_rowLine_107 rfl (lv_at hl 5 rfl) ?_
      refine mg_66 (v := si 66) hx hb hts hown hK hP rfl d_Mo_rowLine_108 ?_
      refine lv_if_le (tgt := 137) hx hb d_Mo_rowLine_111 (by decide) (fun c_39 => ?_) (fun c_39 => ?_)
      · have hf := it_t c_39 hf
        exact k_Mo_rowLine_137 C0 hST hA hK hE hf hP hD hS (lv_sub hl [1, 2, 3, 4, 5] rfl)
      · have hf := it_f c_39 hf
        refine lv_lload_n hx hb d_Mo_rowLine_114 rfl (lv_at hl 3 rfl) ?_
        refine lv_aload_n hx hb d_Mo_rowLine_115 rfl (lv_at hl 5 rfl) ?_
        refine mg_67 hx hb hts hown hK hP d_Mo_rowLine_116 ?_
        refine lv_aload_n hx hb d_Mo_rowLine_119 rfl (lv_at hl 5 rfl) ?_
        refine mg_66 (v := si 66) hx hb hts hown hK hP rfl d_Mo_rowLine_120 ?_
        refine lv_iconst (v := 1) hx hb d_Mo_rowLine_123 (by decide) ?_
        refine lv_isub hx hb d_Mo_rowLine_124 ?_
        obtain ⟨c_60, hf⟩ := it_n hf
        refine ma_67 (v := sb 67 ((si 66) - 1).toNatClampNeg) hx hb hK hP c_60 rfl d_Mo_rowLine_125 ?_
        refine lc_gt (tgt := 137) hx hb d_Mo_rowLine_126 d_Mo_rowLine_127 (by decide) (fun c_61 => ?_) (fun c_61 => ?_)
        · have hf := it_t c_61 hf
          exact k_Mo_rowLine_137 C0 hST hA hK hE hf hP hD hS (lv_sub hl [1, 2, 3, 4, 5] rfl)
        · have hf := it_f c_61 hf
          exact k_Mo_rowLine_130 C0 hST hA hK hE hf hP hD hS (lv_sub hl [4, 5] rfl)
  · have hf := it_t c_31 hf
    refine lv_iconst (v := 0) hx hb d_Mo_rowLine_95 (by decide) ?_
    cases rs hf
    exact hE _ _ _ _ d_Mo_rowLine_96 rfl hP hD hS
set_option maxHeartbeats 400000 in
set_option maxRecDepth 100000 in
theorem k_Mo_rowLine_0 (C0 : Cx p s m meth c args R b_Mo_rowLine "ZoneFilesModel" 8 (some .boolean) 3 62) (hST : ST A s s.heap) (hA : ∀ q, s.heap.size ≤ q → A q) (hK : va_K (dC, dI) classes (moT cA) s) (hE : ∀ (pc : Nat) (ls : Array Slot) (H : Heap) (locs : List Loc), decode b_Mo_rowLine pc = .ok (.ireturn, 1) → narrow .boolean (.int r0) = .int r0 → va_P (dC, dI) classes (moW h0 r cA vi vj va vb) H → va_D A (moW h0 r cA vi vj va vb) → va_S A s.heap H locs → W p l e R s m args below meth c H locs 0 0 Q (F0 m pc ls [.int r0])) {si : Nat → Int32} {sj : Nat → Int64} {sa : Nat → Nat → Int32} {sb : Nat → Nat → Int64} (hf : f_Mo_rowLine_0 nf si sj sa sb = some (r0, vi, vj, va, vb)) {H : Heap} {locs : List Loc} {ls : Array Slot} (hP : va_P (dC, dI) classes (moW h0 r cA si sj sa sb) H) (hD : va_D A (moW h0 r cA si sj sa sb)) (hS : va_S A s.heap H locs) (hl : lv_has ls 8 [(0, .ref h0)]) : W p l e R s m args below meth c H locs 0 0 Q (F0 m 0 ls []) := by
  obtain ⟨hx, hb, hr, hml, hown, hts, hlocks, hRf, hRl⟩ := id C0
  unfold f_Mo_rowLine_0 at hf
  refine lv_aload_n hx hb d_Mo_rowLine_0 rfl (lv_at hl 0 rfl) ?_
  refine mg_32 (v := si 32) hx hb hts hown hK hP rfl d_Mo_rowLine_1 ?_
  refine lv_istore_n (lv' := [(1, .int (si 32)), (0, .ref h0)]) hx hb d_Mo_rowLine_4 rfl hl (by decide) rfl (fun ls hl => ?_)
  refine lv_aload_n hx hb d_Mo_rowLine_5 rfl (lv_at hl 1 rfl) ?_
  obtain ⟨⟨z_5, i_1, j_2, a_3, b_4⟩, hc, hf⟩ := ob hf
  have hFc := mo_free hD hS hA
  refine cl_M (v := (some (.int z_5))) (st1 := [.int z_5]) (va_runV (As := []) (rest := []) ⟨hx, hb, hml, hown, hts⟩ (c_Mo_digits l dC dI h0 r cA H.size nf si sj sa sb hc) (cwV 0 hts (gdV m_8_192 m_8_194 msel_101 m_1_10 m_8_195) rfl rfl rfl (by decide +kernel) ⟨Nat.le_trans (Nat.le_of_ble_eq_true rfl) hRf, Nat.le_trans (Nat.le_of_ble_eq_true rfl) hRl⟩) ((MU.pre hP hK hD (hST.mu hS hFc)).vir (va_recv hK hP (ci := 10) (q0 := 0) rfl rfl)) rfl rfl hl.1 rfl (lv_room (Nat.le_of_ble_eq_true rfl)) d_Mo_rowLine_6 ⟨Nat.zero_le _, Nat.zero_le _⟩) rfl hS (fun q _ h => hFc q h) hFc (fun t H1 locs ht hvm hB hz1 hk1 hS => ?_)
  obtain ⟨hP, hD⟩ := mo_back ht hD hB
  generalize H1 = H at hP hS ⊢
  refine lv_if_ne (tgt := 14) hx hb d_Mo_rowLine_9 (by decide) (fun c_6 => ?_) (fun c_6 => ?_)
  · have hf := it_f c_6 hf
    refine lv_aload_n hx hb d_Mo_rowLine_14 rfl (lv_at hl 1 rfl) ?_
    refine mg_71 (v := j_2 71) hx hb hts hown hK hP rfl d_Mo_rowLine_15 ?_
    refine lv_lstore_n (lv' := [(2, .long (j_2 71)), (1, .int (si 32)), (0, .ref h0)]) hx hb d_Mo_rowLine_18 rfl hl (by decide) rfl (fun ls hl => ?_)
    refine lv_aload_n hx hb d_Mo_rowLine_19 rfl (lv_at hl 2 rfl) ?_
    obtain ⟨r_7, hc, hf⟩ := ob hf
    refine cl_S (v := (some (.int r_7))) (st1 := [.int r_7]) (va_runV (As := []) (rest := []) ⟨hx, hb, hml, hown, hts⟩ (c_Mo_look l dC dI h0 r cA nf i_1 j_2 a_3 b_4 hc) (cwV 0 hts (gdV m_6_83 m_6_85 msel_49 m_1_10 m_6_86) rfl rfl rfl (by decide +kernel) ⟨Nat.le_trans (Nat.le_of_ble_eq_true rfl) hRf, Nat.le_trans (Nat.le_of_ble_eq_true rfl) hRl⟩) ((RO.pre hP hK (hST.ro hS)).vir (va_recv hK hP (ci := 10) (q0 := 0) rfl rfl)) rfl rfl hl.1 rfl (lv_room (Nat.le_of_ble_eq_true rfl)) d_Mo_rowLine_20 ⟨Nat.zero_le _, Nat.zero_le _⟩) rfl ?_
    obtain ⟨r_8, hc, hf⟩ := ob hf
    refine cl_S (v := (some (.int r_8))) (st1 := [.int r_8]) (va_runS (As := [.int r_7]) (rest := []) ⟨hx, hb, hml, hown, hts⟩ (c_Mo_isBlank l dC dI nf r_7 hc) (va_cwS 1 hts (gdS m_8_189 m_8_190 m_1_10 m_8_191) rfl rfl rfl (by decide +kernel) ⟨Nat.le_trans (Nat.le_of_ble_eq_true rfl) hRf, Nat.le_trans (Nat.le_of_ble_eq_true rfl) hRl⟩) (RO.pre0 hK (hST.ro hS)).sta rfl rfl hl.1 rfl (lv_room (Nat.le_of_ble_eq_true rfl)) d_Mo_rowLine_23 ⟨Nat.zero_le _, Nat.zero_le _⟩) rfl ?_
    refine lv_if_ne (tgt := 39) hx hb d_Mo_rowLine_26 (by decide) (fun c_9 => ?_) (fun c_9 => ?_)
    · have hf := it_f c_9 hf
      refine lv_aload_n hx hb d_Mo_rowLine_39 rfl (lv_at hl 2 rfl) ?_
      obtain ⟨⟨i_10, j_11, a_12, b_13⟩, hc, hf⟩ := ob hf
      have hFc := mo_free hD hS hA
      refine cl_M (v := none) (st1 := []) (va_runV (As := []) (rest := []) ⟨hx, hb, hml, hown, hts⟩ (c_Mo_blanks l dC dI h0 r cA H.size nf i_1 j_2 a_3 b_4 hc) (cwV 0 hts (gdV m_8_185 m_8_187 msel_100 m_1_10 m_8_188) rfl rfl rfl (by decide +kernel) ⟨Nat.le_trans (Nat.le_of_ble_eq_true rfl) hRf, Nat.le_trans (Nat.le_of_ble_eq_true rfl) hRl⟩) ((MU.pre hP hK hD (hST.mu hS hFc)).vir (va_recv hK hP (ci := 10) (q0 := 0) rfl rfl)) rfl rfl hl.1 rfl (lv_room (Nat.le_of_ble_eq_true rfl)) d_Mo_rowLine_40 ⟨Nat.zero_le _, Nat.zero_le _⟩) rfl hS (fun q _ h => hFc q h) hFc (fun t H1 locs ht hvm hB hz1 hk1 hS => ?_)
      obtain ⟨hP, hD⟩ := mo_back ht hD hB
      generalize H1 = H at hP hS ⊢
      refine lv_aload_n hx hb d_Mo_rowLine_43 rfl (lv_at hl 2 rfl) ?_
      refine mg_32 (v := i_10 32) hx hb hts hown hK hP rfl d_Mo_rowLine_44 ?_
      refine lv_istore (lv' := [(4, .int (i_10 32)), (2, .long (j_2 71)), (1, .int (si 32)), (0, .ref h0)]) hx hb d_Mo_rowLine_47 hl (by decide) rfl (fun ls hl => ?_)
      refine lv_aload_n hx hb d_Mo_rowLine_49 rfl (lv_at hl 3 rfl) ?_
      obtain ⟨⟨z_18, i_14, j_15, a_16, b_17⟩, hc, hf⟩ := ob hf
      have hFc := mo_free hD hS hA
      refine cl_M (v := (some (.int z_18))) (st1 := [.int z_18]) (va_runV (As := []) (rest := []) ⟨hx, hb, hml, hown, hts⟩ (c_Mo_digits l dC dI h0 r cA H.size nf i_10 j_11 a_12 b_13 hc) (cwV 0 hts (gdV m_8_192 m_8_194 msel_101 m_1_10 m_8_195) rfl rfl rfl (by decide +kernel) ⟨Nat.le_trans (Nat.le_of_ble_eq_true rfl) hRf, Nat.le_trans (Nat.le_of_ble_eq_true rfl) hRl⟩) ((MU.pre hP hK hD (hST.mu hS hFc)).vir (va_recv hK hP (ci := 10) (q0 := 0) rfl rfl)) rfl rfl hl.1 rfl (lv_room (Nat.le_of_ble_eq_true rfl)) d_Mo_rowLine_50 ⟨Nat.zero_le _, Nat.zero_le _⟩) rfl hS (fun q _ h => hFc q h) hFc (fun t H1 locs ht hvm hB hz1 hk1 hS => ?_)
      obtain ⟨hP, hD⟩ := mo_back ht hD hB
      generalize H1 = H at hP hS ⊢
      refine lv_if_ne (tgt := 58) hx hb d_Mo_rowLine_53 (by decide) (fun c_19 => ?_) (fun c_19 => ?_)
      · have hf := it_f c_19 hf
        refine lv_aload_n hx hb d_Mo_rowLine_58 rfl (lv_at hl 3 rfl) ?_
        refine mg_71 (v := j_15 71) hx hb hts hown hK hP rfl d_Mo_rowLine_59 ?_
        refine lv_lstore (lv' := [(5, .long (j_15 71)), (4, .int (i_10 32)), (2, .long (j_2 71)), (1, .int (si 32)), (0, .ref h0)]) hx hb d_Mo_rowLine_62 hl (by decide) rfl (fun ls hl => ?_)
        refine lv_aload_n hx hb d_Mo_rowLine_64 rfl (lv_at hl 4 rfl) ?_
        obtain ⟨⟨i_20, j_21, a_22, b_23⟩, hc, hf⟩ := ob hf
        have hFc := mo_free hD hS hA
        refine cl_M (v := none) (st1 := []) (va_runV (As := []) (rest := []) ⟨hx, hb, hml, hown, hts⟩ (c_Mo_blanks l dC dI h0 r cA H.size nf i_14 j_15 a_16 b_17 hc) (cwV 0 hts (gdV m_8_185 m_8_187 msel_100 m_1_10 m_8_188) rfl rfl rfl (by decide +kernel) ⟨Nat.le_trans (Nat.le_of_ble_eq_true rfl) hRf, Nat.le_trans (Nat.le_of_ble_eq_true rfl) hRl⟩) ((MU.pre hP hK hD (hST.mu hS hFc)).vir (va_recv hK hP (ci := 10) (q0 := 0) rfl rfl)) rfl rfl hl.1 rfl (lv_room (Nat.le_of_ble_eq_true rfl)) d_Mo_rowLine_65 ⟨Nat.zero_le _, Nat.zero_le _⟩) rfl hS (fun q _ h => hFc q h) hFc (fun t H1 locs ht hvm hB hz1 hk1 hS => ?_)
        obtain ⟨hP, hD⟩ := mo_back ht hD hB
        generalize H1 = H at hP hS ⊢
        refine lv_aload_n hx hb d_Mo_rowLine_68 rfl (lv_at hl 4 rfl) ?_
        obtain ⟨r_24, hc, hf⟩ := ob hf
        refine cl_S (v := (some (.int r_24))) (st1 := [.int r_24]) (va_runV (As := []) (rest := []) ⟨hx, hb, hml, hown, hts⟩ (c_Mo_look l dC dI h0 r cA nf i_20 j_21 a_22 b_23 hc) (cwV 0 hts (gdV m_6_83 m_6_85 msel_49 m_1_10 m_6_86) rfl rfl rfl (by decide +kernel) ⟨Nat.le_trans (Nat.le_of_ble_eq_true rfl) hRf, Nat.le_trans (Nat.le_of_ble_eq_true rfl) hRl⟩) ((RO.pre hP hK (hST.ro hS)).vir (va_recv hK hP (ci := 10) (q0 := 0) rfl rfl)) rfl rfl hl.1 rfl (lv_room (Nat.le_of_ble_eq_true rfl)) d_Mo_rowLine_69 ⟨Nat.zero_le _, Nat.zero_le _⟩) rfl ?_
        refine lv_bipush (v := 35) hx hb d_Mo_rowLine_72 (by decide) ?_
        refine lv_icmp_ne (tgt := 84) hx hb d_Mo_rowLine_74 (by decide) (fun c_25 => ?_) (fun c_25 => ?_)
        · have hf := it_f c_25 hf
          refine lv_aload_n hx hb d_Mo_rowLine_84 rfl (lv_at hl 4 rfl) ?_
          obtain ⟨⟨z_30, i_26, j_27, a_28, b_29⟩, hc, hf⟩ := ob hf
          have hFc := mo_free hD hS hA
          refine cl_M (v := (some (.int z_30))) (st1 := [.int z_30]) (va_runV (As := []) (rest := []) ⟨hx, hb, hml, hown, hts⟩ (c_Mo_lineEnd l dC dI h0 r cA H.size nf i_20 j_21 a_22 b_23 hc) (cwV 0 hts (gdV m_8_197 m_8_199 msel_102 m_1_10 m_8_200) rfl rfl rfl (by decide +kernel) ⟨Nat.le_trans (Nat.le_of_ble_eq_true rfl) hRf, Nat.le_trans (Nat.le_of_ble_eq_true rfl) hRl⟩) ((MU.pre hP hK hD (hST.mu hS hFc)).vir (va_recv hK hP (ci := 10) (q0 := 0) rfl rfl)) rfl rfl hl.1 rfl (lv_room (Nat.le_of_ble_eq_true rfl)) d_Mo_rowLine_85 ⟨Nat.zero_le _, Nat.zero_le _⟩) rfl hS (fun q _ h => hFc q h) hFc (fun t H1 locs ht hvm hB hz1 hk1 hS => ?_)
          obtain ⟨hP, hD⟩ := mo_back ht hD hB
          generalize H1 = H at hP hS ⊢
          exact k_Mo_rowLine_88 C0 hST hA hK hE hf hP hD hS (lv_sub hl [0, 1, 2, 3, 4] rfl)
        · have hf := it_t c_25 hf
          refine lv_aload_n hx hb d_Mo_rowLine_77 rfl (lv_at hl 4 rfl) ?_
          obtain ⟨⟨z_66, i_62, j_63, a_64, b_65⟩, hc, hf⟩ := ob hf
          have hFc := mo_free hD hS hA
          refine cl_M (v := (some (.int z_66))) (st1 := [.int z_66]) (va_runV (As := []) (rest := []) ⟨hx, hb, hml, hown, hts⟩ (c_Mo_remark l dC dI h0 r cA H.size nf i_20 j_21 a_22 b_23 hc) (cwV 0 hts (gdV m_8_201 m_8_203 msel_103 m_1_10 m_8_204) rfl rfl rfl (by decide +kernel) ⟨Nat.le_trans (Nat.le_of_ble_eq_true rfl) hRf, Nat.le_trans (Nat.le_of_ble_eq_true rfl) hRl⟩) ((MU.pre hP hK hD (hST.mu hS hFc)).vir (va_recv hK hP (ci := 10) (q0 := 0) rfl rfl)) rfl rfl hl.1 rfl (lv_room (Nat.le_of_ble_eq_true rfl)) d_Mo_rowLine_78 ⟨Nat.zero_le _, Nat.zero_le _⟩) rfl hS (fun q _ h => hFc q h) hFc (fun t H1 locs ht hvm hB hz1 hk1 hS => ?_)
          obtain ⟨hP, hD⟩ := mo_back ht hD hB
          generalize H1 = H at hP hS ⊢
          refine lv_goto (tgt := 88) hx hb d_Mo_rowLine_81 (by decide) ?_
          exact k_Mo_rowLine_88 C0 hST hA hK hE hf hP hD hS (lv_sub hl [0, 1, 2, 3, 4] rfl)
      · have hf := it_t c_19 hf
        refine lv_iconst (v := 0) hx hb d_Mo_rowLine_56 (by decide) ?_
        cases rs hf
        exact hE _ _ _ _ d_Mo_rowLine_57 rfl hP hD hS
    · have hf := it_t c_9 hf
      refine lv_aload_n hx hb d_Mo_rowLine_29 rfl (lv_at hl 2 rfl) ?_
      refine lv_iconst (v := 1) hx hb d_Mo_rowLine_30 (by decide) ?_
      refine lv_aload_n hx hb d_Mo_rowLine_31 rfl (lv_at hl 2 rfl) ?_
      refine mg_32 (v := i_1 32) hx hb hts hown hK hP rfl d_Mo_rowLine_32 ?_
      obtain ⟨⟨z_71, i_67, j_68, a_69, b_70⟩, hc, hf⟩ := ob hf
      have hFc := mo_free hD hS hA
      refine cl_M (v := (some (.int z_71))) (st1 := [.int z_71]) (va_runV (As := [.int 1, .int (i_1 32)]) (rest := []) ⟨hx, hb, hml, hown, hts⟩ (c_Mo_faulty l dC dI h0 r cA H.size nf 1 (i_1 32) i_1 j_2 a_3 b_4 hc) (cwV 2 hts (gdV m_7_133 m_7_135 msel_60 m_1_10 m_7_136) rfl rfl rfl (by decide +kernel) ⟨Nat.le_trans (Nat.le_of_ble_eq_true rfl) hRf, Nat.le_trans (Nat.le_of_ble_eq_true rfl) hRl⟩) ((MU.pre hP hK hD (hST.mu hS hFc)).vir (va_recv hK hP (ci := 10) (q0 := 0) rfl rfl)) rfl rfl hl.1 rfl (lv_room (Nat.le_of_ble_eq_true rfl)) d_Mo_rowLine_35 ⟨Nat.zero_le _, Nat.zero_le _⟩) rfl hS (fun q _ h => hFc q h) hFc (fun t H1 locs ht hvm hB hz1 hk1 hS => ?_)
      obtain ⟨hP, hD⟩ := mo_back ht hD hB
      generalize H1 = H at hP hS ⊢
      obtain ⟨c_72, hf⟩ := it_g hf
      cases rs hf
      exact hE _ _ _ _ d_Mo_rowLine_38 (nb_of c_72) hP hD hS
  · have hf := it_t c_6 hf
    refine lv_iconst (v := 0) hx hb d_Mo_rowLine_12 (by decide) ?_
    cases rs hf
    exact hE _ _ _ _ d_Mo_rowLine_13 rfl hP hD hS
end
set_option maxHeartbeats 400000 in
set_option maxRecDepth 100000 in
theorem c_Mo_rowLine (l : Launch) (dC : Nat → ClassId) (dI : Nat → Nat → Nat) (h0 : Nat) (r : Nat → Nat) (cA : Nat → ClassId) (sz : Nat) (nf : Nat) (si : Nat → Int32) (sj : Nat → Int64) (sa : Nat → Nat → Int32) (sb : Nat → Nat → Int64) {r0 : Int32} {vi : Nat → Int32} {vj : Nat → Int64} {va : Nat → Nat → Int32} {vb : Nat → Nat → Int64} (hf : f_Mo_rowLine nf si sj sa sb = some (r0, vi, vj, va, vb)) : Met l y_Mo_rowLine (wd y_Mo_rowLine b_Mo_rowLine 8 (some .boolean)) ({ frames := 3, cells := 0, slots := 0, locals := 62 }) (MU dC dI (moW h0 r cA si sj sa sb) (moT cA) sz [.ref h0]) (MV (some (.int r0)) (fun t => va_P (dC, dI) classes (moW h0 r cA vi vj va vb) t.heap) (va_A (moW h0 r cA si sj sa sb) sz)) 0 0 (va_A (moW h0 r cA si sj sa sb) sz) :=
  met_M (plainFor_of_name (by decide)) (Nat.le_of_ble_eq_true rfl) (fun p e R s m args below meth c ls hRc hRs hsz hin C0 hST hK hP hD hl => by
    obtain ⟨hx, hb, hr, hml, hown, hts, hlocks, hRf, hRl⟩ := id C0
    subst hsz
    have hA : ∀ q : Nat, s.heap.size ≤ q → va_A (moW h0 r cA si sj sa sb) s.heap.size q := fun q h => Or.inr h
    have hS : va_S (va_A (moW h0 r cA si sj sa sb) s.heap.size) s.heap s.heap [] := va_S.rf
    unfold f_Mo_rowLine at hf
    exact k_Mo_rowLine_0 C0 hST hA hK (fun pc ls H locs hd hn hP hD hS => W.zret hx hb hr hn (fun t ht hW => ⟨⟨rfl, mo_end ht hP⟩, hS.F ht⟩) hS.2.2 hd) hf hP hD hS (lv_sub hl [0] rfl))
-- ZoneFilesModel.line()Z
def f_Mo_line_51 (nf : Nat) (s0 : Int32) (si : Nat → Int32) (sj : Nat → Int64) (sa : Nat → Nat → Int32) (sb : Nat → Nat → Int64) : Option (Int32 × (Nat → Int32) × (Nat → Int64) × (Nat → Nat → Int32) × (Nat → Nat → Int64)) :=
  if s0 = 0 ∨ s0 = 1 then some (s0, si, sj, sa, sb) else none
def f_Mo_line_47 (nf : Nat) (si : Nat → Int32) (sj : Nat → Int64) (sa : Nat → Nat → Int32) (sb : Nat → Nat → Int64) : Option (Int32 × (Nat → Int32) × (Nat → Int64) × (Nat → Nat → Int32) × (Nat → Nat → Int64)) :=
  (f_Mo_remark nf si sj sa sb).bind fun (z_26, i_22, j_23, a_24, b_25) =>
  f_Mo_line_51 nf z_26 i_22 j_23 a_24 b_25
def f_Mo_line_0 (nf : Nat) (si : Nat → Int32) (sj : Nat → Int64) (sa : Nat → Nat → Int32) (sb : Nat → Nat → Int64) : Option (Int32 × (Nat → Int32) × (Nat → Int64) × (Nat → Nat → Int32) × (Nat → Nat → Int64)) :=
  (f_Mo_look nf si sj sa sb).bind fun r_1 =>
  if r_1 = (35 : Int32) then
  if (si 33) ≤ ((si 32) + 1) then
    f_Mo_line_47 nf si sj sa sb
    else
    if ((si 32) + 1) < 0 ∨ 6000 ≤ ((si 32) + 1).toNatClampNeg then none else
      if (sa 0 ((si 32) + 1).toNatClampNeg) = (64 : Int32) then
      (f_Mo_expiryLine nf si sj sa sb).bind fun (z_34, i_30, j_31, a_32, b_33) =>
        f_Mo_line_51 nf z_34 i_30 j_31 a_32 b_33
      else
      f_Mo_line_47 nf si sj sa sb
  else
  (f_Mo_isDigit nf r_1).bind fun r_3 =>
    if r_3 = 0 then
    (f_Mo_blanks nf si sj sa sb).bind fun (i_5, j_6, a_7, b_8) =>
      (f_Mo_lineEnd nf i_5 j_6 a_7 b_8).bind fun (z_13, i_9, j_10, a_11, b_12) =>
      if z_13 = 0 ∨ z_13 = 1 then some (z_13, i_9, j_10, a_11, b_12) else none
    else
    (f_Mo_rowLine nf si sj sa sb).bind fun (z_19, i_15, j_16, a_17, b_18) =>
      if z_19 = 0 ∨ z_19 = 1 then some (z_19, i_15, j_16, a_17, b_18) else none
def f_Mo_line (nf : Nat) (si : Nat → Int32) (sj : Nat → Int64) (sa : Nat → Nat → Int32) (sb : Nat → Nat → Int64) : Option (Int32 × (Nat → Int32) × (Nat → Int64) × (Nat → Nat → Int32) × (Nat → Nat → Int64)) :=
  f_Mo_line_0 nf si sj sa sb
section
variable {p : Program} {l : Launch} {e : Env} {R : Room} {s : State} {m : MethodId} {args : Array Value} {below : List Frame} {meth : Method} {c : Code} {Q : State → Prop} {dC : Nat → ClassId} {dI : Nat → Nat → Nat} {nf : Nat} {A : Nat → Prop} {h0 : Nat} {r : Nat → Nat} {cA : Nat → ClassId}
variable {r0 : Int32} {vi : Nat → Int32} {vj : Nat → Int64} {va : Nat → Nat → Int32} {vb : Nat → Nat → Int64}
set_option maxHeartbeats 400000 in
set_option maxRecDepth 100000 in
theorem k_Mo_line_51 (C0 : Cx p s m meth c args R b_Mo_line "ZoneFilesModel" 2 (some .boolean) 4 89) (hST : ST A s s.heap) (hA : ∀ q, s.heap.size ≤ q → A q) (hK : va_K (dC, dI) classes (moT cA) s) (hE : ∀ (pc : Nat) (ls : Array Slot) (H : Heap) (locs : List Loc), decode b_Mo_line pc = .ok (.ireturn, 1) → narrow .boolean (.int r0) = .int r0 → va_P (dC, dI) classes (moW h0 r cA vi vj va vb) H → va_D A (moW h0 r cA vi vj va vb) → va_S A s.heap H locs → W p l e R s m args below meth c H locs 0 0 Q (F0 m pc ls [.int r0])) {s0 : Int32} {si : Nat → Int32} {sj : Nat → Int64} {sa : Nat → Nat → Int32} {sb : Nat → Nat → Int64} (hf : f_Mo_line_51 nf s0 si sj sa sb = some (r0, vi, vj, va, vb)) {H : Heap} {locs : List Loc} {ls : Array Slot} (hP : va_P (dC, dI) classes (moW h0 r cA si sj sa sb) H) (hD : va_D A (moW h0 r cA si sj sa sb)) (hS : va_S A s.heap H locs) (hl : lv_has ls 2 []) : W p l e R s m args below meth c H locs 0 0 Q (F0 m 51 ls [.int s0]) := by
  obtain ⟨hx, hb, hr, hml, hown, hts, hlocks, hRf, hRl⟩ := id C0
  unfold f_Mo_line_51 at hf
  obtain ⟨c_27, hf⟩ := it_g hf
  cases rs hf
  exact hE _ _ _ _ d_Mo_line_51 (nb_of c_27) hP hD hS
set_option maxHeartbeats 400000 in
set_option maxRecDepth 100000 in
theorem k_Mo_line_47 (C0 : Cx p s m meth c args R b_Mo_line "ZoneFilesModel" 2 (some .boolean) 4 89) (hST : ST A s s.heap) (hA : ∀ q, s.heap.size ≤ q → A q) (hK : va_K (dC, dI) classes (moT cA) s) (hE : ∀ (pc : Nat) (ls : Array Slot) (H : Heap) (locs : List Loc), decode b_Mo_line pc = .ok (.ireturn, 1) → narrow .boolean (.int r0) = .int r0 → va_P (dC, dI) classes (moW h0 r cA vi vj va vb) H → va_D A (moW h0 r cA vi vj va vb) → va_S A s.heap H locs → W p l e R s m args below meth c H locs 0 0 Q (F0 m pc ls [.int r0])) {si : Nat → Int32} {sj : Nat → Int64} {sa : Nat → Nat → Int32} {sb : Nat → Nat → Int64} (hf : f_Mo_line_47 nf si sj sa sb = some (r0, vi, vj, va, vb)) {H : Heap} {locs : List Loc} {ls : Array Slot} (hP : va_P (dC, dI) classes (moW h0 r cA si sj sa sb) H) (hD : va_D A (moW h0 r cA si sj sa sb)) (hS : va_S A s.heap H locs) (hl : lv_has ls 2 [(0, .ref h0)]) : W p l e R s m args below meth c H locs 0 0 Q (F0 m 47 ls []) := by
  obtain ⟨hx, hb, hr, hml, hown, hts, hlocks, hRf, hRl⟩ := id C0
  unfold f_Mo_line_47 at hf
  refine lv_aload_n hx hb d_Mo_line_47 rfl (lv_at hl 0 rfl) ?_
  obtain ⟨⟨z_26, i_22, j_23, a_24, b_25⟩, hc, hf⟩ := ob hf
  have hFc := mo_free hD hS hA
  refine cl_M (v := (some (.int z_26))) (st1 := [.int z_26]) (va_runV (As := []) (rest := []) ⟨hx, hb, hml, hown, hts⟩ (c_Mo_remark l dC dI h0 r cA H.size nf si sj sa sb hc) (cwV 0 hts (gdV m_8_201 m_8_203 msel_103 m_1_10 m_8_204) rfl rfl rfl (by decide +kernel) ⟨Nat.le_trans (Nat.le_of_ble_eq_true rfl) hRf, Nat.le_trans (Nat.le_of_ble_eq_true rfl) hRl⟩) ((MU.pre hP hK hD (hST.mu hS hFc)).vir (va_recv hK hP (ci := 10) (q0 := 0) rfl rfl)) rfl rfl hl.1 rfl (lv_room (Nat.le_of_ble_eq_true rfl)) d_Mo_line_48 ⟨Nat.zero_le _, Nat.zero_le _⟩) rfl hS (fun q _ h => hFc q h) hFc (fun t H1 locs ht hvm hB hz1 hk1 hS => ?_)
  obtain ⟨hP, hD⟩ := mo_back ht hD hB
  generalize H1 = H at hP hS ⊢
  exact k_Mo_line_51 C0 hST hA hK hE hf hP hD hS (lv_sub hl [] rfl)
set_option maxHeartbeats 400000 in
set_option maxRecDepth 100000 in
theorem k_Mo_line_0 (C0 : Cx p s m meth c args R b_Mo_line "ZoneFilesModel" 2 (some .boolean) 4 89) (hST : ST A s s.heap) (hA : ∀ q, s.heap.size ≤ q → A q) (hK : va_K (dC, dI) classes (moT cA) s) (hE : ∀ (pc : Nat) (ls : Array Slot) (H : Heap) (locs : List Loc), decode b_Mo_line pc = .ok (.ireturn, 1) → narrow .boolean (.int r0) = .int r0 → va_P (dC, dI) classes (moW h0 r cA vi vj va vb) H → va_D A (moW h0 r cA vi vj va vb) → va_S A s.heap H locs → W p l e R s m args below meth c H locs 0 0 Q (F0 m pc ls [.int r0])) {si : Nat → Int32} {sj : Nat → Int64} {sa : Nat → Nat → Int32} {sb : Nat → Nat → Int64} (hf : f_Mo_line_0 nf si sj sa sb = some (r0, vi, vj, va, vb)) {H : Heap} {locs : List Loc} {ls : Array Slot} (hP : va_P (dC, dI) classes (moW h0 r cA si sj sa sb) H) (hD : va_D A (moW h0 r cA si sj sa sb)) (hS : va_S A s.heap H locs) (hl : lv_has ls 2 [(0, .ref h0)]) : W p l e R s m args below meth c H locs 0 0 Q (F0 m 0 ls []) := by
  obtain ⟨hx, hb, hr, hml, hown, hts, hlocks, hRf, hRl⟩ := id C0
  unfold f_Mo_line_0 at hf
  refine lv_aload_n hx hb d_Mo_line_0 rfl (lv_at hl 0 rfl) ?_
  obtain ⟨r_1, hc, hf⟩ := ob hf
  refine cl_S (v := (some (.int r_1))) (st1 := [.int r_1]) (va_runV (As := []) (rest := []) ⟨hx, hb, hml, hown, hts⟩ (c_Mo_look l dC dI h0 r cA nf si sj sa sb hc) (cwV 0 hts (gdV m_6_83 m_6_85 msel_49 m_1_10 m_6_86) rfl rfl rfl (by decide +kernel) ⟨Nat.le_trans (Nat.le_of_ble_eq_true rfl) hRf, Nat.le_trans (Nat.le_of_ble_eq_true rfl) hRl⟩) ((RO.pre hP hK (hST.ro hS)).vir (va_recv hK hP (ci := 10) (q0 := 0) rfl rfl)) rfl rfl hl.1 rfl (lv_room (Nat.le_of_ble_eq_true rfl)) d_Mo_line_1 ⟨Nat.zero_le _, Nat.zero_le _⟩) rfl ?_
  refine lv_istore_n (lv' := [(1, .int r_1), (0, .ref h0)]) hx hb d_Mo_line_4 rfl hl (by decide) rfl (fun ls hl => ?_)
  refine lv_iload_n hx hb d_Mo_line_5 rfl (lv_at hl 0 rfl) ?_
  refine lv_bipush (v := 35) hx hb d_Mo_line_6 (by decide) ?_
  refine lv_icmp_ne (tgt := 52) hx hb d_Mo_line_8 (by decide) (fun c_2 => ?_) (fun c_2 => ?_)
  · have hf := it_f c_2 hf
    refine lv_iload_n hx hb d_Mo_line_52 rfl (lv_at hl 0 rfl) ?_
    obtain ⟨r_3, hc, hf⟩ := ob hf
    refine cl_S (v := (some (.int r_3))) (st1 := [.int r_3]) (va_runS (As := [.int r_1]) (rest := []) ⟨hx, hb, hml, hown, hts⟩ (c_Mo_isDigit l dC dI nf r_1 hc) (va_cwS 1 hts (gdS m_6_90 m_6_91 m_1_10 m_6_92) rfl rfl rfl (by decide +kernel) ⟨Nat.le_trans (Nat.le_of_ble_eq_true rfl) hRf, Nat.le_trans (Nat.le_of_ble_eq_true rfl) hRl⟩) (RO.pre0 hK (hST.ro hS)).sta rfl rfl hl.1 rfl (lv_room (Nat.le_of_ble_eq_true rfl)) d_Mo_line_53 ⟨Nat.zero_le _, Nat.zero_le _⟩) rfl ?_
    refine lv_if_eq (tgt := 64) hx hb d_Mo_line_56 (by decide) (fun c_4 => ?_) (fun c_4 => ?_)
    · have hf := it_t c_4 hf
      refine lv_aload_n hx hb d_Mo_line_64 rfl (lv_at hl 1 rfl) ?_
      obtain ⟨⟨i_5, j_6, a_7, b_8⟩, hc, hf⟩ := ob hf
      have hFc := mo_free hD hS hA
      refine cl_M (v := none) (st1 := []) (va_runV (As := []) (rest := []) ⟨hx, hb, hml, hown, hts⟩ (c_Mo_blanks l dC dI h0 r cA H.size nf si sj sa sb hc) (cwV 0 hts (gdV m_8_185 m_8_187 msel_100 m_1_10 m_8_188) rfl rfl rfl (by decide +kernel) ⟨Nat.le_trans (Nat.le_of_ble_eq_true rfl) hRf, Nat.le_trans (Nat.le_of_ble_eq_true rfl) hRl⟩) ((MU.pre hP hK hD (hST.mu hS hFc)).vir (va_recv hK hP (ci := 10) (q0 := 0) rfl rfl)) rfl rfl hl.1 rfl (lv_room (Nat.le_of_ble_eq_true rfl)) d_Mo_line_65 ⟨Nat.zero_le _, Nat.zero_le _⟩) rfl hS (fun q _ h => hFc q h) hFc (fun t H1 locs ht hvm hB hz1 hk1 hS => ?_)
      obtain ⟨hP, hD⟩ := mo_back ht hD hB
      generalize H1 = H at hP hS ⊢
      refine lv_aload_n hx hb d_Mo_line_68 rfl (lv_at hl 1 rfl) ?_
      obtain ⟨⟨z_13, i_9, j_10, a_11, b_12⟩, hc, hf⟩ := ob hf
      have hFc := mo_free hD hS hA
      refine cl_M (v := (some (.int z_13))) (st1 := [.int z_13]) (va_runV (As := []) (rest := []) ⟨hx, hb, hml, hown, hts⟩ (c_Mo_lineEnd l dC dI h0 r cA H.size nf i_5 j_6 a_7 b_8 hc) (cwV 0 hts (gdV m_8_197 m_8_199 msel_102 m_1_10 m_8_200) rfl rfl rfl (by decide +kernel) ⟨Nat.le_trans (Nat.le_of_ble_eq_true rfl) hRf, Nat.le_trans (Nat.le_of_ble_eq_true rfl) hRl⟩) ((MU.pre hP hK hD (hST.mu hS hFc)).vir (va_recv hK hP (ci := 10) (q0 := 0) rfl rfl)) rfl rfl hl.1 rfl (lv_room (Nat.le_of_ble_eq_true rfl)) d_Mo_line_69 ⟨Nat.zero_le _, Nat.zero_le _⟩) rfl hS (fun q _ h => hFc q h) hFc (fun t H1 locs ht hvm hB hz1 hk1 hS => ?_)
      obtain ⟨hP, hD⟩ := mo_back ht hD hB
      generalize H1 = H at hP hS ⊢
      obtain ⟨c_14, hf⟩ := it_g hf
      cases rs hf
      exact hE _ _ _ _ d_Mo_line_72 (nb_of c_14) hP hD hS
    · have hf := it_f c_4 hf
      refine lv_aload_n hx hb d_Mo_line_59 rfl (lv_at hl 1 rfl) ?_
      obtain ⟨⟨z_19, i_15, j_16, a_17, b_18⟩, hc, hf⟩ := ob hf
      have hFc := mo_free hD hS hA
      refine cl_M (v := (some (.int z_19))) (st1 := [.int z_19]) (va_runV (As := []) (rest := []) ⟨hx, hb, hml, hown, hts⟩ (c_Mo_rowLine l dC dI h0 r cA H.size nf si sj sa sb hc) (cwV 0 hts (gdV m_8_205 m_8_207 msel_104 m_1_10 m_8_208) rfl rfl rfl (by decide +kernel) ⟨Nat.le_trans (Nat.le_of_ble_eq_true rfl) hRf, Nat.le_trans (Nat.le_of_ble_eq_true rfl) hRl⟩) ((MU.pre hP hK hD (hST.mu hS hFc)).vir (va_recv hK hP (ci := 10) (q0 := 0) rfl rfl)) rfl rfl hl.1 rfl (lv_room (Nat.le_of_ble_eq_true rfl)) d_Mo_line_60 ⟨Nat.zero_le _, Nat.zero_le _⟩) rfl hS (fun q _ h => hFc q h) hFc (fun t H1 locs ht hvm hB hz1 hk1 hS => ?_)
      obtain ⟨hP, hD⟩ := mo_back ht hD hB
      generalize H1 = H at hP hS ⊢
      obtain ⟨c_20, hf⟩ := it_g hf
      cases rs hf
      exact hE _ _ _ _ d_Mo_line_63 (nb_of c_20) hP hD hS
  · have hf := it_t c_2 hf
    refine lv_aload_n hx hb d_Mo_line_11 rfl (lv_at hl 1 rfl) ?_
    refine mg_32 (v := si 32) hx hb hts hown hK hP rfl d_Mo_line_12 ?_
    refine lv_iconst (v := 1) hx hb d_Mo_line_15 (by decide) ?_
    refine lv_iadd hx hb d_Mo_line_16 ?_
    refine lv_aload_n hx hb d_Mo_line_17 rfl (lv_at hl 1 rfl) ?_
    refine mg_33 (v := si 33) hx hb hts hown hK hP rfl d_Mo_line_18 ?_
    refine lv_icmp_ge (tgt := 47) hx hb d_Mo_line_21 (by decide) (fun c_21 => ?_) (fun c_21 => ?_)
    · have hf := it_t c_21 hf
      exact k_Mo_line_47 C0 hST hA hK hE hf hP hD hS (lv_sub hl [1] rfl)
    · have hf := it_f c_21 hf
      refine lv_aload_n hx hb d_Mo_line_24 rfl (lv_at hl 1 rfl) ?_
      refine mg_0 hx hb hts hown hK hP d_Mo_line_25 ?_
      refine lv_aload_n hx hb d_Mo_line_28 rfl (lv_at hl 1 rfl) ?_
      refine mg_32 (v := si 32) hx hb hts hown hK hP rfl d_Mo_line_29 ?_
      refine lv_iconst (v := 1) hx hb d_Mo_line_32 (by decide) ?_
      refine lv_iadd hx hb d_Mo_line_33 ?_
      obtain ⟨c_28, hf⟩ := it_n hf
      refine ma_0 (v := sa 0 ((si 32) + 1).toNatClampNeg) hx hb hK hP c_28 rfl d_Mo_line_34 ?_
      refine lv_bipush (v := 64) hx hb d_Mo_line_35 (by decide) ?_
      refine lv_icmp_ne (tgt := 47) hx hb d_Mo_line_37 (by decide) (fun c_29 => ?_) (fun c_29 => ?_)
      · have hf := it_f c_29 hf
        exact k_Mo_line_47 C0 hST hA hK hE hf hP hD hS (lv_sub hl [1] rfl)
      · have hf := it_t c_29 hf
        refine lv_aload_n hx hb d_Mo_line_40 rfl (lv_at hl 1 rfl) ?_
        obtain ⟨⟨z_34, i_30, j_31, a_32, b_33⟩, hc, hf⟩ := ob hf
        have hFc := mo_free hD hS hA
        refine cl_M (v := (some (.int z_34))) (st1 := [.int z_34]) (va_runV (As := []) (rest := []) ⟨hx, hb, hml, hown, hts⟩ (c_Mo_expiryLine l dC dI h0 r cA H.size nf si sj sa sb hc) (cwV 0 hts (gdV m_8_181 m_8_183 msel_99 m_1_10 m_8_184) rfl rfl rfl (by decide +kernel) ⟨Nat.le_trans (Nat.le_of_ble_eq_true rfl) hRf, Nat.le_trans (Nat.le_of_ble_eq_true rfl) hRl⟩) ((MU.pre hP hK hD (hST.mu hS hFc)).vir (va_recv hK hP (ci := 10) (q0 := 0) rfl rfl)) rfl rfl hl.1 rfl (lv_room (Nat.le_of_ble_eq_true rfl)) d_Mo_line_41 ⟨Nat.zero_le _, Nat.zero_le _⟩) rfl hS (fun q _ h => hFc q h) hFc (fun t H1 locs ht hvm hB hz1 hk1 hS => ?_)
        obtain ⟨hP, hD⟩ := mo_back ht hD hB
        generalize H1 = H at hP hS ⊢
        refine lv_goto (tgt := 51) hx hb d_Mo_line_44 (by decide) ?_
        exact k_Mo_line_51 C0 hST hA hK hE hf hP hD hS (lv_sub hl [] rfl)
end
set_option maxHeartbeats 400000 in
set_option maxRecDepth 100000 in
theorem c_Mo_line (l : Launch) (dC : Nat → ClassId) (dI : Nat → Nat → Nat) (h0 : Nat) (r : Nat → Nat) (cA : Nat → ClassId) (sz : Nat) (nf : Nat) (si : Nat → Int32) (sj : Nat → Int64) (sa : Nat → Nat → Int32) (sb : Nat → Nat → Int64) {r0 : Int32} {vi : Nat → Int32} {vj : Nat → Int64} {va : Nat → Nat → Int32} {vb : Nat → Nat → Int64} (hf : f_Mo_line nf si sj sa sb = some (r0, vi, vj, va, vb)) : Met l y_Mo_line (wd y_Mo_line b_Mo_line 2 (some .boolean)) ({ frames := 4, cells := 0, slots := 0, locals := 89 }) (MU dC dI (moW h0 r cA si sj sa sb) (moT cA) sz [.ref h0]) (MV (some (.int r0)) (fun t => va_P (dC, dI) classes (moW h0 r cA vi vj va vb) t.heap) (va_A (moW h0 r cA si sj sa sb) sz)) 0 0 (va_A (moW h0 r cA si sj sa sb) sz) :=
  met_M (plainFor_of_name (by decide)) (Nat.le_of_ble_eq_true rfl) (fun p e R s m args below meth c ls hRc hRs hsz hin C0 hST hK hP hD hl => by
    obtain ⟨hx, hb, hr, hml, hown, hts, hlocks, hRf, hRl⟩ := id C0
    subst hsz
    have hA : ∀ q : Nat, s.heap.size ≤ q → va_A (moW h0 r cA si sj sa sb) s.heap.size q := fun q h => Or.inr h
    have hS : va_S (va_A (moW h0 r cA si sj sa sb) s.heap.size) s.heap s.heap [] := va_S.rf
    unfold f_Mo_line at hf
    exact k_Mo_line_0 C0 hST hA hK (fun pc ls H locs hd hn hP hD hS => W.zret hx hb hr hn (fun t ht hW => ⟨⟨rfl, mo_end ht hP⟩, hS.F ht⟩) hS.2.2 hd) hf hP hD hS (lv_sub hl [0] rfl))
-- ZoneFilesModel.tableText(I)Z
def f_Mo_tableText_104 (nf : Nat) (s0 : Int32) (si : Nat → Int32) (sj : Nat → Int64) (sa : Nat → Nat → Int32) (sb : Nat → Nat → Int64) : Option (Int32 × (Nat → Int32) × (Nat → Int64) × (Nat → Nat → Int32) × (Nat → Nat → Int64)) :=
  if s0 = 0 ∨ s0 = 1 then some (s0, si, sj, sa, sb) else none
def f_Mo_tableText_99 (nf : Nat) (si : Nat → Int32) (sj : Nat → Int64) (sa : Nat → Nat → Int32) (sb : Nat → Nat → Int64) : Option (Int32 × (Nat → Int32) × (Nat → Int64) × (Nat → Nat → Int32) × (Nat → Nat → Int64)) :=
  f_Mo_tableText_104 nf 1 si sj sa sb
def f_Mo_tableText_20 (nf : Nat) : Nat → Int32 → (Nat → Int32) → (Nat → Int64) → (Nat → Nat → Int32) → (Nat → Nat → Int64) → Option (Int32 × (Nat → Int32) × (Nat → Int64) × (Nat → Nat → Int32) × (Nat → Nat → Int64))
  | 0, _, _, _, _, _ => none
  | n + 1, x1, si, sj, sa, sb =>
    if (si 33) ≤ (si 32) then
    if (si 66) = 0 then
      (f_Mo_faulty nf 6 x1 si sj sa sb).bind fun (z_23, i_19, j_20, a_21, b_22) =>
        if z_23 = 0 ∨ z_23 = 1 then some (z_23, i_19, j_20, a_21, b_22) else none
      else
      if (si 70) = 0 then
        (f_Mo_faulty nf 7 x1 si sj sa sb).bind fun (z_17, i_13, j_14, a_15, b_16) =>
          if z_17 = 0 ∨ z_17 = 1 then some (z_17, i_13, j_14, a_15, b_16) else none
        else
        if ((si 66) - 1) < 0 ∨ 60 ≤ ((si 66) - 1).toNatClampNeg then none else
          if (sb 67 ((si 66) - 1).toNatClampNeg) < (sj 69) then
          f_Mo_tableText_99 nf si sj sa sb
          else
          (f_Mo_faulty nf 8 x1 si sj sa sb).bind fun (z_11, i_7, j_8, a_9, b_10) =>
            if z_11 = 0 then
            f_Mo_tableText_104 nf 0 i_7 j_8 a_9 b_10
            else
            f_Mo_tableText_99 nf i_7 j_8 a_9 b_10
    else
    (f_Mo_line nf si sj sa sb).bind fun (z_29, i_25, j_26, a_27, b_28) =>
      if z_29 = 0 then
      some (0, i_25, j_26, a_27, b_28)
      else
      f_Mo_tableText_20 nf n x1 i_25 j_26 a_27 b_28
def f_Mo_tableText_0 (nf : Nat) (x1 : Int32) (si : Nat → Int32) (sj : Nat → Int64) (sa : Nat → Nat → Int32) (sb : Nat → Nat → Int64) : Option (Int32 × (Nat → Int32) × (Nat → Int64) × (Nat → Nat → Int32) × (Nat → Nat → Int64)) :=
  f_Mo_tableText_20 nf nf x1 (va_up (va_up (va_up (va_up si 32 0) 33 x1) 66 0) 70 0) sj sa sb
def f_Mo_tableText (nf : Nat) (p0 : Int32) (si : Nat → Int32) (sj : Nat → Int64) (sa : Nat → Nat → Int32) (sb : Nat → Nat → Int64) : Option (Int32 × (Nat → Int32) × (Nat → Int64) × (Nat → Nat → Int32) × (Nat → Nat → Int64)) :=
  f_Mo_tableText_0 nf p0 si sj sa sb
section
variable {p : Program} {l : Launch} {e : Env} {R : Room} {s : State} {m : MethodId} {args : Array Value} {below : List Frame} {meth : Method} {c : Code} {Q : State → Prop} {dC : Nat → ClassId} {dI : Nat → Nat → Nat} {nf : Nat} {A : Nat → Prop} {h0 : Nat} {r : Nat → Nat} {cA : Nat → ClassId}
variable {r0 : Int32} {vi : Nat → Int32} {vj : Nat → Int64} {va : Nat → Nat → Int32} {vb : Nat → Nat → Int64}
set_option maxHeartbeats 400000 in
set_option maxRecDepth 100000 in
theorem k_Mo_tableText_104 (C0 : Cx p s m meth c args R b_Mo_tableText "ZoneFilesModel" 2 (some .boolean) 5 110) (hST : ST A s s.heap) (hA : ∀ q, s.heap.size ≤ q → A q) (hK : va_K (dC, dI) classes (moT cA) s) (hE : ∀ (pc : Nat) (ls : Array Slot) (H : Heap) (locs : List Loc), decode b_Mo_tableText pc = .ok (.ireturn, 1) → narrow .boolean (.int r0) = .int r0 → va_P (dC, dI) classes (moW h0 r cA vi vj va vb) H → va_D A (moW h0 r cA vi vj va vb) → va_S A s.heap H locs → W p l e R s m args below meth c H locs 0 0 Q (F0 m pc ls [.int r0])) {s0 : Int32} {si : Nat → Int32} {sj : Nat → Int64} {sa : Nat → Nat → Int32} {sb : Nat → Nat → Int64} (hf : f_Mo_tableText_104 nf s0 si sj sa sb = some (r0, vi, vj, va, vb)) {H : Heap} {locs : List Loc} {ls : Array Slot} (hP : va_P (dC, dI) classes (moW h0 r cA si sj sa sb) H) (hD : va_D A (moW h0 r cA si sj sa sb)) (hS : va_S A s.heap H locs) (hl : lv_has ls 2 []) : W p l e R s m args below meth c H locs 0 0 Q (F0 m 104 ls [.int s0]) := by
  obtain ⟨hx, hb, hr, hml, hown, hts, hlocks, hRf, hRl⟩ := id C0
  unfold f_Mo_tableText_104 at hf
  obtain ⟨c_6, hf⟩ := it_g hf
  cases rs hf
  exact hE _ _ _ _ d_Mo_tableText_104 (nb_of c_6) hP hD hS
set_option maxHeartbeats 400000 in
set_option maxRecDepth 100000 in
theorem k_Mo_tableText_99 (C0 : Cx p s m meth c args R b_Mo_tableText "ZoneFilesModel" 2 (some .boolean) 5 110) (hST : ST A s s.heap) (hA : ∀ q, s.heap.size ≤ q → A q) (hK : va_K (dC, dI) classes (moT cA) s) (hE : ∀ (pc : Nat) (ls : Array Slot) (H : Heap) (locs : List Loc), decode b_Mo_tableText pc = .ok (.ireturn, 1) → narrow .boolean (.int r0) = .int r0 → va_P (dC, dI) classes (moW h0 r cA vi vj va vb) H → va_D A (moW h0 r cA vi vj va vb) → va_S A s.heap H locs → W p l e R s m args below meth c H locs 0 0 Q (F0 m pc ls [.int r0])) {si : Nat → Int32} {sj : Nat → Int64} {sa : Nat → Nat → Int32} {sb : Nat → Nat → Int64} (hf : f_Mo_tableText_99 nf si sj sa sb = some (r0, vi, vj, va, vb)) {H : Heap} {locs : List Loc} {ls : Array Slot} (hP : va_P (dC, dI) classes (moW h0 r cA si sj sa sb) H) (hD : va_D A (moW h0 r cA si sj sa sb)) (hS : va_S A s.heap H locs) (hl : lv_has ls 2 []) : W p l e R s m args below meth c H locs 0 0 Q (F0 m 99 ls []) := by
  obtain ⟨hx, hb, hr, hml, hown, hts, hlocks, hRf, hRl⟩ := id C0
  unfold f_Mo_tableText_99 at hf
  refine lv_iconst (v := 1) hx hb d_Mo_tableText_99 (by decide) ?_
  refine lv_goto (tgt := 104) hx hb d_Mo_tableText_100 (by decide) ?_
  exact k_Mo_tableText_104 C0 hST hA hK hE hf hP hD hS (lv_sub hl [] rfl)
set_option maxHeartbeats 400000 in
set_option maxRecDepth 100000 in
theorem k_Mo_tableText_20 (C0 : Cx p s m meth c args R b_Mo_tableText "ZoneFilesModel" 2 (some .boolean) 5 110) (hST : ST A s s.heap) (hA : ∀ q, s.heap.size ≤ q → A q) (hK : va_K (dC, dI) classes (moT cA) s) (hE : ∀ (pc : Nat) (ls : Array Slot) (H : Heap) (locs : List Loc), decode b_Mo_tableText pc = .ok (.ireturn, 1) → narrow .boolean (.int r0) = .int r0 → va_P (dC, dI) classes (moW h0 r cA vi vj va vb) H → va_D A (moW h0 r cA vi vj va vb) → va_S A s.heap H locs → W p l e R s m args below meth c H locs 0 0 Q (F0 m pc ls [.int r0])) : ∀ (n : Nat) {x1 : Int32} {si : Nat → Int32} {sj : Nat → Int64} {sa : Nat → Nat → Int32} {sb : Nat → Nat → Int64}, f_Mo_tableText_20 nf n x1 si sj sa sb = some (r0, vi, vj, va, vb) → ∀ {H : Heap} {locs : List Loc} {ls : Array Slot}, va_P (dC, dI) classes (moW h0 r cA si sj sa sb) H → va_D A (moW h0 r cA si sj sa sb) → va_S A s.heap H locs → lv_has ls 2 [(0, .ref h0), (1, .int x1)] → W p l e R s m args below meth c H locs 0 0 Q (F0 m 20 ls []) := by
  obtain ⟨hx, hb, hr, hml, hown, hts, hlocks, hRf, hRl⟩ := id C0
  intro n
  induction n with
  | zero =>
    intro x1 si sj sa sb hf
    exact absurd hf (by simp [f_Mo_tableText_20])
  | succ n ih =>
    intro x1 si sj sa sb hf H locs ls hP hD hS hl
    unfold f_Mo_tableText_20 at hf
    refine lv_aload_n hx hb d_Mo_tableText_20 rfl (lv_at hl 0 rfl) ?_
    refine mg_32 (v := si 32) hx hb hts hown hK hP rfl d_Mo_tableText_21 ?_
    refine lv_aload_n hx hb d_Mo_tableText_24 rfl (lv_at hl 0 rfl) ?_
    refine mg_33 (v := si 33) hx hb hts hown hK hP rfl d_Mo_tableText_25 ?_
    refine lv_icmp_ge (tgt := 40) hx hb d_Mo_tableText_28 (by decide) (fun c_1 => ?_) (fun c_1 => ?_)
    · have hf := it_t c_1 hf
      refine lv_aload_n hx hb d_Mo_tableText_40 rfl (lv_at hl 0 rfl) ?_
      refine mg_66 (v := si 66) hx hb hts hown hK hP rfl d_Mo_tableText_41 ?_
      refine lv_if_ne (tgt := 55) hx hb d_Mo_tableText_44 (by decide) (fun c_2 => ?_) (fun c_2 => ?_)
      · have hf := it_f c_2 hf
        refine lv_aload_n hx hb d_Mo_tableText_55 rfl (lv_at hl 0 rfl) ?_
        refine mg_70 (v := si 70) hx hb hts hown hK hP rfl d_Mo_tableText_56 ?_
        refine lv_if_ne (tgt := 70) hx hb d_Mo_tableText_59 (by decide) (fun c_3 => ?_) (fun c_3 => ?_)
        · have hf := it_f c_3 hf
          refine lv_aload_n hx hb d_Mo_tableText_70 rfl (lv_at hl 0 rfl) ?_
          refine mg_69 (v := sj 69) hx hb hts hown hK hP rfl d_Mo_tableText_71 ?_
          refine lv_aload_n hx hb d_Mo_tableText_74 rfl (lv_at hl 0 rfl) ?_
          refine mg_67 hx hb hts hown hK hP d_Mo_tableText_75 ?_
          refine lv_aload_n hx hb d_Mo_tableText_78 rfl (lv_at hl 0 rfl) ?_
          refine mg_66 (v := si 66) hx hb hts hown hK hP rfl d_Mo_tableText_79 ?_
          refine lv_iconst (v := 1) hx hb d_Mo_tableText_82 (by decide) ?_
          refine lv_isub hx hb d_Mo_tableText_83 ?_
          obtain ⟨c_4, hf⟩ := it_n hf
          refine ma_67 (v := sb 67 ((si 66) - 1).toNatClampNeg) hx hb hK hP c_4 rfl d_Mo_tableText_84 ?_
          refine lc_gt (tgt := 99) hx hb d_Mo_tableText_85 d_Mo_tableText_86 (by decide) (fun c_5 => ?_) (fun c_5 => ?_)
          · have hf := it_t c_5 hf
            exact k_Mo_tableText_99 C0 hST hA hK hE hf hP hD hS (lv_sub hl [] rfl)
          · have hf := it_f c_5 hf
            refine lv_aload_n hx hb d_Mo_tableText_89 rfl (lv_at hl 0 rfl) ?_
            refine lv_bipush (v := 8) hx hb d_Mo_tableText_90 (by decide) ?_
            refine lv_iload_n hx hb d_Mo_tableText_92 rfl (lv_at hl 1 rfl) ?_
            obtain ⟨⟨z_11, i_7, j_8, a_9, b_10⟩, hc, hf⟩ := ob hf
            have hFc := mo_free hD hS hA
            refine cl_M (v := (some (.int z_11))) (st1 := [.int z_11]) (va_runV (As := [.int 8, .int x1]) (rest := []) ⟨hx, hb, hml, hown, hts⟩ (c_Mo_faulty l dC dI h0 r cA H.size nf 8 x1 si sj sa sb hc) (cwV 2 hts (gdV m_7_133 m_7_135 msel_60 m_1_10 m_7_136) rfl rfl rfl (by decide +kernel) ⟨Nat.le_trans (Nat.le_of_ble_eq_true rfl) hRf, Nat.le_trans (Nat.le_of_ble_eq_true rfl) hRl⟩) ((MU.pre hP hK hD (hST.mu hS hFc)).vir (va_recv hK hP (ci := 10) (q0 := 0) rfl rfl)) rfl rfl hl.1 rfl (lv_room (Nat.le_of_ble_eq_true rfl)) d_Mo_tableText_93 ⟨Nat.zero_le _, Nat.zero_le _⟩) rfl hS (fun q _ h => hFc q h) hFc (fun t H1 locs ht hvm hB hz1 hk1 hS => ?_)
            obtain ⟨hP, hD⟩ := mo_back ht hD hB
            generalize H1 = H at hP hS ⊢
            refine lv_if_eq (tgt := 103) hx hb d_Mo_tableText_96 (by decide) (fun c_12 => ?_) (fun c_12 => ?_)
            · have hf := it_t c_12 hf
              refine lv_iconst (v := 0) hx hb d_Mo_tableText_103 (by decide) ?_
              exact k_Mo_tableText_104 C0 hST hA hK hE hf hP hD hS (lv_sub hl [] rfl)
            · have hf := it_f c_12 hf
              exact k_Mo_tableText_99 C0 hST hA hK hE hf hP hD hS (lv_sub hl [] rfl)
        · have hf := it_t c_3 hf
          refine lv_aload_n hx hb d_Mo_tableText_62 rfl (lv_at hl 0 rfl) ?_
          refine lv_bipush (v := 7) hx hb d_Mo_tableText_63 (by decide) ?_
          refine lv_iload_n hx hb d_Mo_tableText_65 rfl (lv_at hl 1 rfl) ?_
          obtain ⟨⟨z_17, i_13, j_14, a_15, b_16⟩, hc, hf⟩ := ob hf
          have hFc := mo_free hD hS hA
          refine cl_M (v := (some (.int z_17))) (st1 := [.int z_17]) (va_runV (As := [.int 7, .int x1]) (rest := []) ⟨hx, hb, hml, hown, hts⟩ (c_Mo_faulty l dC dI h0 r cA H.size nf 7 x1 si sj sa sb hc) (cwV 2 hts (gdV m_7_133 m_7_135 msel_60 m_1_10 m_7_136) rfl rfl rfl (by decide +kernel) ⟨Nat.le_trans (Nat.le_of_ble_eq_true rfl) hRf, Nat.le_trans (Nat.le_of_ble_eq_true rfl) hRl⟩) ((MU.pre hP hK hD (hST.mu hS hFc)).vir (va_recv hK hP (ci := 10) (q0 := 0) rfl rfl)) rfl rfl hl.1 rfl (lv_room (Nat.le_of_ble_eq_true rfl)) d_Mo_tableText_66 ⟨Nat.zero_le _, Nat.zero_le _⟩) rfl hS (fun q _ h => hFc q h) hFc (fun t H1 locs ht hvm hB hz1 hk1 hS => ?_)
          obtain ⟨hP, hD⟩ := mo_back ht hD hB
          generalize H1 = H at hP hS ⊢
          obtain ⟨c_18, hf⟩ := it_g hf
          cases rs hf
          exact hE _ _ _ _ d_Mo_tableText_69 (nb_of c_18) hP hD hS
      · have hf := it_t c_2 hf
        refine lv_aload_n hx hb d_Mo_tableText_47 rfl (lv_at hl 0 rfl) ?_
        refine lv_bipush (v := 6) hx hb d_Mo_tableText_48 (by decide) ?_
        refine lv_iload_n hx hb d_Mo_tableText_50 rfl (lv_at hl 1 rfl) ?_
        obtain ⟨⟨z_23, i_19, j_20, a_21, b_22⟩, hc, hf⟩ := ob hf
        have hFc := mo_free hD hS hA
        refine cl_M (v := (some (.int z_23))) (st1 := [.int z_23]) (va_runV (As := [.int 6, .int x1]) (rest := []) ⟨hx, hb, hml, hown, hts⟩ (c_Mo_faulty l dC dI h0 r cA H.size nf 6 x1 si sj sa sb hc) (cwV 2 hts (gdV m_7_133 m_7_135 msel_60 m_1_10 m_7_136) rfl rfl rfl (by decide +kernel) ⟨Nat.le_trans (Nat.le_of_ble_eq_true rfl) hRf, Nat.le_trans (Nat.le_of_ble_eq_true rfl) hRl⟩) ((MU.pre hP hK hD (hST.mu hS hFc)).vir (va_recv hK hP (ci := 10) (q0 := 0) rfl rfl)) rfl rfl hl.1 rfl (lv_room (Nat.le_of_ble_eq_true rfl)) d_Mo_tableText_51 ⟨Nat.zero_le _, Nat.zero_le _⟩) rfl hS (fun q _ h => hFc q h) hFc (fun t H1 locs ht hvm hB hz1 hk1 hS => ?_)
        obtain ⟨hP, hD⟩ := mo_back ht hD hB
        generalize H1 = H at hP hS ⊢
        obtain ⟨c_24, hf⟩ := it_g hf
        cases rs hf
        exact hE _ _ _ _ d_Mo_tableText_54 (nb_of c_24) hP hD hS
    · have hf := it_f c_1 hf
      refine lv_aload_n hx hb d_Mo_tableText_31 rfl (lv_at hl 0 rfl) ?_
      obtain ⟨⟨z_29, i_25, j_26, a_27, b_28⟩, hc, hf⟩ := ob hf
      have hFc := mo_free hD hS hA
      refine cl_M (v := (some (.int z_29))) (st1 := [.int z_29]) (va_runV (As := []) (rest := []) ⟨hx, hb, hml, hown, hts⟩ (c_Mo_line l dC dI h0 r cA H.size nf si sj sa sb hc) (cwV 0 hts (gdV m_8_177 m_8_179 msel_98 m_1_10 m_8_180) rfl rfl rfl (by decide +kernel) ⟨Nat.le_trans (Nat.le_of_ble_eq_true rfl) hRf, Nat.le_trans (Nat.le_of_ble_eq_true rfl) hRl⟩) ((MU.pre hP hK hD (hST.mu hS hFc)).vir (va_recv hK hP (ci := 10) (q0 := 0) rfl rfl)) rfl rfl hl.1 rfl (lv_room (Nat.le_of_ble_eq_true rfl)) d_Mo_tableText_32 ⟨Nat.zero_le _, Nat.zero_le _⟩) rfl hS (fun q _ h => hFc q h) hFc (fun t H1 locs ht hvm hB hz1 hk1 hS => ?_)
      obtain ⟨hP, hD⟩ := mo_back ht hD hB
      generalize H1 = H at hP hS ⊢
      refine lv_if_ne (tgt := 20) hx hb d_Mo_tableText_35 (by decide) (fun c_30 => ?_) (fun c_30 => ?_)
      · have hf := it_f c_30 hf
        exact ih hf hP hD hS (lv_sub hl [0, 1] rfl)
      · have hf := it_t c_30 hf
        refine lv_iconst (v := 0) hx hb d_Mo_tableText_38 (by decide) ?_
        cases rs hf
        exact hE _ _ _ _ d_Mo_tableText_39 rfl hP hD hS
set_option maxHeartbeats 400000 in
set_option maxRecDepth 100000 in
theorem k_Mo_tableText_0 (C0 : Cx p s m meth c args R b_Mo_tableText "ZoneFilesModel" 2 (some .boolean) 5 110) (hST : ST A s s.heap) (hA : ∀ q, s.heap.size ≤ q → A q) (hK : va_K (dC, dI) classes (moT cA) s) (hE : ∀ (pc : Nat) (ls : Array Slot) (H : Heap) (locs : List Loc), decode b_Mo_tableText pc = .ok (.ireturn, 1) → narrow .boolean (.int r0) = .int r0 → va_P (dC, dI) classes (moW h0 r cA vi vj va vb) H → va_D A (moW h0 r cA vi vj va vb) → va_S A s.heap H locs → W p l e R s m args below meth c H locs 0 0 Q (F0 m pc ls [.int r0])) {x1 : Int32} {si : Nat → Int32} {sj : Nat → Int64} {sa : Nat → Nat → Int32} {sb : Nat → Nat → Int64} (hf : f_Mo_tableText_0 nf x1 si sj sa sb = some (r0, vi, vj, va, vb)) {H : Heap} {locs : List Loc} {ls : Array Slot} (hP : va_P (dC, dI) classes (moW h0 r cA si sj sa sb) H) (hD : va_D A (moW h0 r cA si sj sa sb)) (hS : va_S A s.heap H locs) (hl : lv_has ls 2 [(0, .ref h0), (1, .int x1)]) : W p l e R s m args below meth c H locs 0 0 Q (F0 m 0 ls []) := by
  obtain ⟨hx, hb, hr, hml, hown, hts, hlocks, hRf, hRl⟩ := id C0
  unfold f_Mo_tableText_0 at hf
  refine lv_aload_n hx hb d_Mo_tableText_0 rfl (lv_at hl 0 rfl) ?_
  refine lv_iconst (v := 0) hx hb d_Mo_tableText_1 (by decide) ?_
  refine mp_32 hx hb hts hown hK hP hD hS d_Mo_tableText_2 (fun H locs hP hD hS => ?_)
  refine lv_aload_n hx hb d_Mo_tableText_5 rfl (lv_at hl 0 rfl) ?_
  refine lv_iload_n hx hb d_Mo_tableText_6 rfl (lv_at hl 1 rfl) ?_
  refine mp_33 hx hb hts hown hK hP hD hS d_Mo_tableText_7 (fun H locs hP hD hS => ?_)
  refine lv_aload_n hx hb d_Mo_tableText_10 rfl (lv_at hl 0 rfl) ?_
  refine lv_iconst (v := 0) hx hb d_Mo_tableText_11 (by decide) ?_
  refine mp_66 hx hb hts hown hK hP hD hS d_Mo_tableText_12 (fun H locs hP hD hS => ?_)
  refine lv_aload_n hx hb d_Mo_tableText_15 rfl (lv_at hl 0 rfl) ?_
  refine lv_iconst (v := 0) hx hb d_Mo_tableText_16 (by decide) ?_
  refine mp_70 hx hb hts hown hK hP hD hS (by decide) d_Mo_tableText_17 (fun H locs hP hD hS => ?_)
  exact k_Mo_tableText_20 C0 hST hA hK hE nf hf hP hD hS (lv_sub hl [0, 1] rfl)
end
set_option maxHeartbeats 400000 in
set_option maxRecDepth 100000 in
theorem c_Mo_tableText (l : Launch) (dC : Nat → ClassId) (dI : Nat → Nat → Nat) (h0 : Nat) (r : Nat → Nat) (cA : Nat → ClassId) (sz : Nat) (nf : Nat) (p0 : Int32) (si : Nat → Int32) (sj : Nat → Int64) (sa : Nat → Nat → Int32) (sb : Nat → Nat → Int64) {r0 : Int32} {vi : Nat → Int32} {vj : Nat → Int64} {va : Nat → Nat → Int32} {vb : Nat → Nat → Int64} (hf : f_Mo_tableText nf p0 si sj sa sb = some (r0, vi, vj, va, vb)) : Met l y_Mo_tableText (wd y_Mo_tableText b_Mo_tableText 2 (some .boolean)) ({ frames := 5, cells := 0, slots := 0, locals := 110 }) (MU dC dI (moW h0 r cA si sj sa sb) (moT cA) sz [.ref h0, .int p0]) (MV (some (.int r0)) (fun t => va_P (dC, dI) classes (moW h0 r cA vi vj va vb) t.heap) (va_A (moW h0 r cA si sj sa sb) sz)) 0 0 (va_A (moW h0 r cA si sj sa sb) sz) :=
  met_M (plainFor_of_name (by decide)) (Nat.le_of_ble_eq_true rfl) (fun p e R s m args below meth c ls hRc hRs hsz hin C0 hST hK hP hD hl => by
    obtain ⟨hx, hb, hr, hml, hown, hts, hlocks, hRf, hRl⟩ := id C0
    subst hsz
    have hA : ∀ q : Nat, s.heap.size ≤ q → va_A (moW h0 r cA si sj sa sb) s.heap.size q := fun q h => Or.inr h
    have hS : va_S (va_A (moW h0 r cA si sj sa sb) s.heap.size) s.heap s.heap [] := va_S.rf
    unfold f_Mo_tableText at hf
    exact k_Mo_tableText_0 C0 hST hA hK (fun pc ls H locs hd hn hP hD hS => W.zret hx hb hr hn (fun t ht hW => ⟨⟨rfl, mo_end ht hP⟩, hS.F ht⟩) hS.2.2 hd) hf hP hD hS (lv_sub hl [0, 1] rfl))
-- ZoneFilesModel.table()I
def f_Mo_table_97 (nf : Nat) (si : Nat → Int32) (sj : Nat → Int64) (sa : Nat → Nat → Int32) (sb : Nat → Nat → Int64) : Option (Int32 × (Nat → Int32) × (Nat → Int64) × (Nat → Nat → Int32) × (Nat → Nat → Int64)) :=
  some (si 36, si, sj, sa, sb)
def f_Mo_table_55 (nf : Nat) : Nat → Int32 → (Nat → Int32) → (Nat → Int64) → (Nat → Nat → Int32) → (Nat → Nat → Int64) → Option (Int32 × (Nat → Int32) × (Nat → Int64) × (Nat → Nat → Int32) × (Nat → Nat → Int64))
  | 0, _, _, _, _, _ => none
  | n + 1, x2, si, sj, sa, sb =>
    if (si 62) ≤ x2 then
    f_Mo_table_97 nf si sj sa sb
    else
    if x2 < 0 ∨ 60 ≤ x2.toNatClampNeg then none else
      if x2 < 0 ∨ 60 ≤ x2.toNatClampNeg then none else
      if x2 < 0 ∨ 60 ≤ x2.toNatClampNeg then none else
      if x2 < 0 ∨ 60 ≤ x2.toNatClampNeg then none else
      f_Mo_table_55 nf n (x2 + 1) si sj sa (va_up (va_up sb 63 (vp_updL (sb 63) x2.toNatClampNeg ((sb 67 x2.toNatClampNeg) - 2208988800))) 64 (vp_updL (sb 64) x2.toNatClampNeg (sb 68 x2.toNatClampNeg)))
def f_Mo_table_0 (nf : Nat) (si : Nat → Int32) (sj : Nat → Int64) (sa : Nat → Nat → Int32) (sb : Nat → Nat → Int64) : Option (Int32 × (Nat → Int32) × (Nat → Int64) × (Nat → Nat → Int32) × (Nat → Nat → Int64)) :=
  (f_Mo_tableText nf (si 1) (va_up (va_up si 3 0) 36 0) sj sa sb).bind fun (z_5, i_1, j_2, a_3, b_4) =>
  if z_5 = 0 then
  f_Mo_table_97 nf (va_up i_1 1 0) j_2 a_3 b_4
  else
  f_Mo_table_55 nf nf 0 (va_up (va_up (va_up i_1 1 0) 61 1) 62 (i_1 66)) (va_up j_2 65 ((j_2 69) - 2208988800)) a_3 b_4
def f_Mo_table (nf : Nat) (si : Nat → Int32) (sj : Nat → Int64) (sa : Nat → Nat → Int32) (sb : Nat → Nat → Int64) : Option (Int32 × (Nat → Int32) × (Nat → Int64) × (Nat → Nat → Int32) × (Nat → Nat → Int64)) :=
  f_Mo_table_0 nf si sj sa sb
section
variable {p : Program} {l : Launch} {e : Env} {R : Room} {s : State} {m : MethodId} {args : Array Value} {below : List Frame} {meth : Method} {c : Code} {Q : State → Prop} {dC : Nat → ClassId} {dI : Nat → Nat → Nat} {nf : Nat} {A : Nat → Prop} {h0 : Nat} {r : Nat → Nat} {cA : Nat → ClassId}
variable {r0 : Int32} {vi : Nat → Int32} {vj : Nat → Int64} {va : Nat → Nat → Int32} {vb : Nat → Nat → Int64}
set_option maxHeartbeats 400000 in
set_option maxRecDepth 100000 in
theorem k_Mo_table_97 (C0 : Cx p s m meth c args R b_Mo_table "ZoneFilesModel" 3 (some .int) 6 131) (hST : ST A s s.heap) (hA : ∀ q, s.heap.size ≤ q → A q) (hK : va_K (dC, dI) classes (moT cA) s) (hE : ∀ (pc : Nat) (ls : Array Slot) (H : Heap) (locs : List Loc), decode b_Mo_table pc = .ok (.ireturn, 1) → narrow .int (.int r0) = .int r0 → va_P (dC, dI) classes (moW h0 r cA vi vj va vb) H → va_D A (moW h0 r cA vi vj va vb) → va_S A s.heap H locs → W p l e R s m args below meth c H locs 0 0 Q (F0 m pc ls [.int r0])) {si : Nat → Int32} {sj : Nat → Int64} {sa : Nat → Nat → Int32} {sb : Nat → Nat → Int64} (hf : f_Mo_table_97 nf si sj sa sb = some (r0, vi, vj, va, vb)) {H : Heap} {locs : List Loc} {ls : Array Slot} (hP : va_P (dC, dI) classes (moW h0 r cA si sj sa sb) H) (hD : va_D A (moW h0 r cA si sj sa sb)) (hS : va_S A s.heap H locs) (hl : lv_has ls 3 [(0, .ref h0)]) : W p l e R s m args below meth c H locs 0 0 Q (F0 m 97 ls []) := by
  obtain ⟨hx, hb, hr, hml, hown, hts, hlocks, hRf, hRl⟩ := id C0
  unfold f_Mo_table_97 at hf
  refine lv_aload_n hx hb d_Mo_table_97 rfl (lv_at hl 0 rfl) ?_
  refine mg_36 (v := si 36) hx hb hts hown hK hP rfl d_Mo_table_98 ?_
  cases rs hf
  exact hE _ _ _ _ d_Mo_table_101 rfl hP hD hS
set_option maxHeartbeats 400000 in
set_option maxRecDepth 100000 in
theorem k_Mo_table_55 (C0 : Cx p s m meth c args R b_Mo_table "ZoneFilesModel" 3 (some .int) 6 131) (hST : ST A s s.heap) (hA : ∀ q, s.heap.size ≤ q → A q) (hK : va_K (dC, dI) classes (moT cA) s) (hE : ∀ (pc : Nat) (ls : Array Slot) (H : Heap) (locs : List Loc), decode b_Mo_table pc = .ok (.ireturn, 1) → narrow .int (.int r0) = .int r0 → va_P (dC, dI) classes (moW h0 r cA vi vj va vb) H → va_D A (moW h0 r cA vi vj va vb) → va_S A s.heap H locs → W p l e R s m args below meth c H locs 0 0 Q (F0 m pc ls [.int r0])) : ∀ (n : Nat) {x2 : Int32} {si : Nat → Int32} {sj : Nat → Int64} {sa : Nat → Nat → Int32} {sb : Nat → Nat → Int64}, f_Mo_table_55 nf n x2 si sj sa sb = some (r0, vi, vj, va, vb) → ∀ {H : Heap} {locs : List Loc} {ls : Array Slot}, va_P (dC, dI) classes (moW h0 r cA si sj sa sb) H → va_D A (moW h0 r cA si sj sa sb) → va_S A s.heap H locs → lv_has ls 3 [(2, .int x2), (0, .ref h0)] → W p l e R s m args below meth c H locs 0 0 Q (F0 m 55 ls []) := by
  obtain ⟨hx, hb, hr, hml, hown, hts, hlocks, hRf, hRl⟩ := id C0
  intro n
  induction n with
  | zero =>
    intro x2 si sj sa sb hf
    exact absurd hf (by simp [f_Mo_table_55])
  | succ n ih =>
    intro x2 si sj sa sb hf H locs ls hP hD hS hl
    unfold f_Mo_table_55 at hf
    refine lv_iload_n hx hb d_Mo_table_55 rfl (lv_at hl 0 rfl) ?_
    refine lv_aload_n hx hb d_Mo_table_56 rfl (lv_at hl 1 rfl) ?_
    refine mg_62 (v := si 62) hx hb hts hown hK hP rfl d_Mo_table_57 ?_
    refine lv_icmp_ge (tgt := 97) hx hb d_Mo_table_60 (by decide) (fun c_7 => ?_) (fun c_7 => ?_)
    · have hf := it_t c_7 hf
      exact k_Mo_table_97 C0 hST hA hK hE hf hP hD hS (lv_sub hl [1] rfl)
    · have hf := it_f c_7 hf
      refine lv_aload_n hx hb d_Mo_table_63 rfl (lv_at hl 1 rfl) ?_
      refine mg_63 hx hb hts hown hK hP d_Mo_table_64 ?_
      refine lv_iload_n hx hb d_Mo_table_67 rfl (lv_at hl 0 rfl) ?_
      refine lv_aload_n hx hb d_Mo_table_68 rfl (lv_at hl 1 rfl) ?_
      refine mg_67 hx hb hts hown hK hP d_Mo_table_69 ?_
      refine lv_iload_n hx hb d_Mo_table_72 rfl (lv_at hl 0 rfl) ?_
      obtain ⟨c_8, hf⟩ := it_n hf
      refine ma_67 (v := sb 67 x2.toNatClampNeg) hx hb hK hP c_8 rfl d_Mo_table_73 ?_
      refine lv_ldc2 (v := 2208988800) hx hb hown (hts (.constantLong "ZoneFilesModel" 532 2208988800) m_8_209) d_Mo_table_74 ?_
      refine lv_lsub hx hb d_Mo_table_77 ?_
      obtain ⟨c_9, hf⟩ := it_n hf
      refine mz_63 hx hb hK hP hD hS c_9 d_Mo_table_78 (fun H locs hP hD hS => ?_)
      refine lv_aload_n hx hb d_Mo_table_79 rfl (lv_at hl 1 rfl) ?_
      refine mg_64 hx hb hts hown hK hP d_Mo_table_80 ?_
      refine lv_iload_n hx hb d_Mo_table_83 rfl (lv_at hl 0 rfl) ?_
      refine lv_aload_n hx hb d_Mo_table_84 rfl (lv_at hl 1 rfl) ?_
      refine mg_68 hx hb hts hown hK hP d_Mo_table_85 ?_
      refine lv_iload_n hx hb d_Mo_table_88 rfl (lv_at hl 0 rfl) ?_
      obtain ⟨c_10, hf⟩ := it_n hf
      refine ma_68 (v := sb 68 x2.toNatClampNeg) hx hb hK hP c_10 rfl d_Mo_table_89 ?_
      obtain ⟨c_11, hf⟩ := it_n hf
      refine mz_64 hx hb hK hP hD hS c_11 d_Mo_table_90 (fun H locs hP hD hS => ?_)
      refine lv_iinc (v := x2 + 1) (lv' := [(2, .int (x2 + 1)), (0, .ref h0)]) hx hb d_Mo_table_91 hl (k := 0) rfl rfl (by decide) rfl (fun ls hl => ?_)
      refine lv_goto (tgt := 55) hx hb d_Mo_table_94 (by decide) ?_
      exact ih hf hP hD hS (lv_sub hl [0, 1] rfl)
set_option maxHeartbeats 400000 in
set_option maxRecDepth 100000 in
theorem k_Mo_table_0 (C0 : Cx p s m meth c args R b_Mo_table "ZoneFilesModel" 3 (some .int) 6 131) (hST : ST A s s.heap) (hA : ∀ q, s.heap.size ≤ q → A q) (hK : va_K (dC, dI) classes (moT cA) s) (hE : ∀ (pc : Nat) (ls : Array Slot) (H : Heap) (locs : List Loc), decode b_Mo_table pc = .ok (.ireturn, 1) → narrow .int (.int r0) = .int r0 → va_P (dC, dI) classes (moW h0 r cA vi vj va vb) H → va_D A (moW h0 r cA vi vj va vb) → va_S A s.heap H locs → W p l e R s m args below meth c H locs 0 0 Q (F0 m pc ls [.int r0])) {si : Nat → Int32} {sj : Nat → Int64} {sa : Nat → Nat → Int32} {sb : Nat → Nat → Int64} (hf : f_Mo_table_0 nf si sj sa sb = some (r0, vi, vj, va, vb)) {H : Heap} {locs : List Loc} {ls : Array Slot} (hP : va_P (dC, dI) classes (moW h0 r cA si sj sa sb) H) (hD : va_D A (moW h0 r cA si sj sa sb)) (hS : va_S A s.heap H locs) (hl : lv_has ls 3 [(0, .ref h0)]) : W p l e R s m args below meth c H locs 0 0 Q (F0 m 0 ls []) := by
  obtain ⟨hx, hb, hr, hml, hown, hts, hlocks, hRf, hRl⟩ := id C0
  unfold f_Mo_table_0 at hf
  refine lv_aload_n hx hb d_Mo_table_0 rfl (lv_at hl 0 rfl) ?_
  refine lv_iconst (v := 0) hx hb d_Mo_table_1 (by decide) ?_
  refine mp_3 hx hb hts hown hK hP hD hS d_Mo_table_2 (fun H locs hP hD hS => ?_)
  refine lv_aload_n hx hb d_Mo_table_5 rfl (lv_at hl 0 rfl) ?_
  refine lv_iconst (v := 0) hx hb d_Mo_table_6 (by decide) ?_
  refine mp_36 hx hb hts hown hK hP hD hS d_Mo_table_7 (fun H locs hP hD hS => ?_)
  refine lv_aload_n hx hb d_Mo_table_10 rfl (lv_at hl 0 rfl) ?_
  refine lv_aload_n hx hb d_Mo_table_11 rfl (lv_at hl 0 rfl) ?_
  refine mg_1 (v := si 1) hx hb hts hown hK hP rfl d_Mo_table_12 ?_
  obtain ⟨⟨z_5, i_1, j_2, a_3, b_4⟩, hc, hf⟩ := ob hf
  have hFc := mo_free hD hS hA
  refine cl_M (v := (some (.int z_5))) (st1 := [.int z_5]) (va_runV (As := [.int (si 1)]) (rest := []) ⟨hx, hb, hml, hown, hts⟩ (c_Mo_tableText l dC dI h0 r cA H.size nf (si 1) (va_up (va_up si 3 0) 36 0) sj sa sb hc) (cwV 1 hts (gdV m_8_173 m_8_175 msel_97 m_1_10 m_8_176) rfl rfl rfl (by decide +kernel) ⟨Nat.le_trans (Nat.le_of_ble_eq_true rfl) hRf, Nat.le_trans (Nat.le_of_ble_eq_true rfl) hRl⟩) ((MU.pre hP hK hD (hST.mu hS hFc)).vir (va_recv hK hP (ci := 10) (q0 := 0) rfl rfl)) rfl rfl hl.1 rfl (lv_room (Nat.le_of_ble_eq_true rfl)) d_Mo_table_15 ⟨Nat.zero_le _, Nat.zero_le _⟩) rfl hS (fun q _ h => hFc q h) hFc (fun t H1 locs ht hvm hB hz1 hk1 hS => ?_)
  obtain ⟨hP, hD⟩ := mo_back ht hD hB
  generalize H1 = H at hP hS ⊢
  refine lv_istore_n (lv' := [(1, .int z_5), (0, .ref h0)]) hx hb d_Mo_table_18 rfl hl (by decide) rfl (fun ls hl => ?_)
  refine lv_aload_n hx hb d_Mo_table_19 rfl (lv_at hl 1 rfl) ?_
  refine lv_iconst (v := 0) hx hb d_Mo_table_20 (by decide) ?_
  refine mp_1 hx hb hts hown hK hP hD hS d_Mo_table_21 (fun H locs hP hD hS => ?_)
  refine lv_iload_n hx hb d_Mo_table_24 rfl (lv_at hl 0 rfl) ?_
  refine lv_if_eq (tgt := 97) hx hb d_Mo_table_25 (by decide) (fun c_6 => ?_) (fun c_6 => ?_)
  · have hf := it_t c_6 hf
    exact k_Mo_table_97 C0 hST hA hK hE hf hP hD hS (lv_sub hl [1] rfl)
  · have hf := it_f c_6 hf
    refine lv_aload_n hx hb d_Mo_table_28 rfl (lv_at hl 1 rfl) ?_
    refine lv_iconst (v := 1) hx hb d_Mo_table_29 (by decide) ?_
    refine mp_61 hx hb hts hown hK hP hD hS (by decide) d_Mo_table_30 (fun H locs hP hD hS => ?_)
    refine lv_aload_n hx hb d_Mo_table_33 rfl (lv_at hl 1 rfl) ?_
    refine lv_aload_n hx hb d_Mo_table_34 rfl (lv_at hl 1 rfl) ?_
    refine mg_66 (v := i_1 66) hx hb hts hown hK hP rfl d_Mo_table_35 ?_
    refine mp_62 hx hb hts hown hK hP hD hS d_Mo_table_38 (fun H locs hP hD hS => ?_)
    refine lv_aload_n hx hb d_Mo_table_41 rfl (lv_at hl 1 rfl) ?_
    refine lv_aload_n hx hb d_Mo_table_42 rfl (lv_at hl 1 rfl) ?_
    refine mg_69 (v := j_2 69) hx hb hts hown hK hP rfl d_Mo_table_43 ?_
    refine lv_ldc2 (v := 2208988800) hx hb hown (hts (.constantLong "ZoneFilesModel" 532 2208988800) m_8_209) d_Mo_table_46 ?_
    refine lv_lsub hx hb d_Mo_table_49 ?_
    refine mp_65 hx hb hts hown hK hP hD hS d_Mo_table_50 (fun H locs hP hD hS => ?_)
    refine lv_iconst (v := 0) hx hb d_Mo_table_53 (by decide) ?_
    refine lv_istore_n (lv' := [(2, .int 0), (1, .int z_5), (0, .ref h0)]) hx hb d_Mo_table_54 rfl hl (by decide) rfl (fun ls hl => ?_)
    exact k_Mo_table_55 C0 hST hA hK hE nf hf hP hD hS (lv_sub hl [0, 2] rfl)
end
set_option maxHeartbeats 400000 in
set_option maxRecDepth 100000 in
theorem c_Mo_table (l : Launch) (dC : Nat → ClassId) (dI : Nat → Nat → Nat) (h0 : Nat) (r : Nat → Nat) (cA : Nat → ClassId) (sz : Nat) (nf : Nat) (si : Nat → Int32) (sj : Nat → Int64) (sa : Nat → Nat → Int32) (sb : Nat → Nat → Int64) {r0 : Int32} {vi : Nat → Int32} {vj : Nat → Int64} {va : Nat → Nat → Int32} {vb : Nat → Nat → Int64} (hf : f_Mo_table nf si sj sa sb = some (r0, vi, vj, va, vb)) : Met l y_Mo_table (wd y_Mo_table b_Mo_table 3 (some .int)) ({ frames := 6, cells := 0, slots := 0, locals := 131 }) (MU dC dI (moW h0 r cA si sj sa sb) (moT cA) sz [.ref h0]) (MV (some (.int r0)) (fun t => va_P (dC, dI) classes (moW h0 r cA vi vj va vb) t.heap) (va_A (moW h0 r cA si sj sa sb) sz)) 0 0 (va_A (moW h0 r cA si sj sa sb) sz) :=
  met_M (plainFor_of_name (by decide)) (Nat.le_of_ble_eq_true rfl) (fun p e R s m args below meth c ls hRc hRs hsz hin C0 hST hK hP hD hl => by
    obtain ⟨hx, hb, hr, hml, hown, hts, hlocks, hRf, hRl⟩ := id C0
    subst hsz
    have hA : ∀ q : Nat, s.heap.size ≤ q → va_A (moW h0 r cA si sj sa sb) s.heap.size q := fun q h => Or.inr h
    have hS : va_S (va_A (moW h0 r cA si sj sa sb) s.heap.size) s.heap s.heap [] := va_S.rf
    unfold f_Mo_table at hf
    exact k_Mo_table_0 C0 hST hA hK (fun pc ls H locs hd hn hP hD hS => W.zret hx hb hr hn (fun t ht hW => ⟨⟨rfl, mo_end ht hP⟩, hS.F ht⟩) hS.2.2 hd) hf hP hD hS (lv_sub hl [0] rfl))
-- ZoneFilesModel.told(I)J
def f_Mo_told_56 (nf : Nat) (s0 : Int64) (si : Nat → Int32) (sj : Nat → Int64) (sa : Nat → Nat → Int32) (sb : Nat → Nat → Int64) : Option (Int64 × (Nat → Int32) × (Nat → Int64) × (Nat → Nat → Int32) × (Nat → Nat → Int64)) :=
  some (s0, si, sj, sa, sb)
def f_Mo_told_26 (nf : Nat) (x1 : Int32) (s0 : Int32) (si : Nat → Int32) (sj : Nat → Int64) (sa : Nat → Nat → Int32) (sb : Nat → Nat → Int64) : Option (Int64 × (Nat → Int32) × (Nat → Int64) × (Nat → Nat → Int32) × (Nat → Nat → Int64)) :=
  if s0 ≤ 0 then
  if x1 = 0 then
    f_Mo_told_56 nf ((si 62).toInt64) (va_up si 3 s0) sj sa sb
    else
    f_Mo_told_56 nf (sj 65) (va_up si 3 s0) sj sa sb
  else
  f_Mo_told_56 nf 0 (va_up si 3 s0) sj sa sb
def f_Mo_told_10 (nf : Nat) (x1 : Int32) (si : Nat → Int32) (sj : Nat → Int64) (sa : Nat → Nat → Int32) (sb : Nat → Nat → Int64) : Option (Int64 × (Nat → Int32) × (Nat → Int64) × (Nat → Nat → Int32) × (Nat → Nat → Int64)) :=
  f_Mo_told_26 nf x1 1 si sj sa sb
def f_Mo_told_0 (nf : Nat) (x1 : Int32) (si : Nat → Int32) (sj : Nat → Int64) (sa : Nat → Nat → Int32) (sb : Nat → Nat → Int64) : Option (Int64 × (Nat → Int32) × (Nat → Int64) × (Nat → Nat → Int32) × (Nat → Nat → Int64)) :=
  if x1 < 0 then
  f_Mo_told_10 nf x1 si sj sa sb
  else
  if x1 ≤ (1 : Int32) then
    if (si 61) = 0 then
      f_Mo_told_26 nf x1 2 si sj sa sb
      else
      f_Mo_told_26 nf x1 0 si sj sa sb
    else
    f_Mo_told_10 nf x1 si sj sa sb
def f_Mo_told (nf : Nat) (p0 : Int32) (si : Nat → Int32) (sj : Nat → Int64) (sa : Nat → Nat → Int32) (sb : Nat → Nat → Int64) : Option (Int64 × (Nat → Int32) × (Nat → Int64) × (Nat → Nat → Int32) × (Nat → Nat → Int64)) :=
  f_Mo_told_0 nf p0 si sj sa sb
section
variable {p : Program} {l : Launch} {e : Env} {R : Room} {s : State} {m : MethodId} {args : Array Value} {below : List Frame} {meth : Method} {c : Code} {Q : State → Prop} {dC : Nat → ClassId} {dI : Nat → Nat → Nat} {nf : Nat} {A : Nat → Prop} {h0 : Nat} {r : Nat → Nat} {cA : Nat → ClassId}
variable {r0 : Int64} {vi : Nat → Int32} {vj : Nat → Int64} {va : Nat → Nat → Int32} {vb : Nat → Nat → Int64}
set_option maxHeartbeats 400000 in
set_option maxRecDepth 100000 in
theorem k_Mo_told_56 (C0 : Cx p s m meth c args R b_Mo_told "ZoneFilesModel" 2 (some .long) 0 0) (hST : ST A s s.heap) (hA : ∀ q, s.heap.size ≤ q → A q) (hK : va_K (dC, dI) classes (moT cA) s) (hE : ∀ (pc : Nat) (ls : Array Slot) (H : Heap) (locs : List Loc), decode b_Mo_told pc = .ok (.lreturn, 1) → va_P (dC, dI) classes (moW h0 r cA vi vj va vb) H → va_D A (moW h0 r cA vi vj va vb) → va_S A s.heap H locs → W p l e R s m args below meth c H locs 0 0 Q (F0 m pc ls [.long r0])) {s0 : Int64} {si : Nat → Int32} {sj : Nat → Int64} {sa : Nat → Nat → Int32} {sb : Nat → Nat → Int64} (hf : f_Mo_told_56 nf s0 si sj sa sb = some (r0, vi, vj, va, vb)) {H : Heap} {locs : List Loc} {ls : Array Slot} (hP : va_P (dC, dI) classes (moW h0 r cA si sj sa sb) H) (hD : va_D A (moW h0 r cA si sj sa sb)) (hS : va_S A s.heap H locs) (hl : lv_has ls 2 []) : W p l e R s m args below meth c H locs 0 0 Q (F0 m 56 ls [.long s0]) := by
  obtain ⟨hx, hb, hr, hml, hown, hts, hlocks, hRf, hRl⟩ := id C0
  unfold f_Mo_told_56 at hf
  cases rs hf
  exact hE _ _ _ _ d_Mo_told_56 hP hD hS
set_option maxHeartbeats 400000 in
set_option maxRecDepth 100000 in
theorem k_Mo_told_26 (C0 : Cx p s m meth c args R b_Mo_told "ZoneFilesModel" 2 (some .long) 0 0) (hST : ST A s s.heap) (hA : ∀ q, s.heap.size ≤ q → A q) (hK : va_K (dC, dI) classes (moT cA) s) (hE : ∀ (pc : Nat) (ls : Array Slot) (H : Heap) (locs : List Loc), decode b_Mo_told pc = .ok (.lreturn, 1) → va_P (dC, dI) classes (moW h0 r cA vi vj va vb) H → va_D A (moW h0 r cA vi vj va vb) → va_S A s.heap H locs → W p l e R s m args below meth c H locs 0 0 Q (F0 m pc ls [.long r0])) {x1 : Int32} {s0 : Int32} {si : Nat → Int32} {sj : Nat → Int64} {sa : Nat → Nat → Int32} {sb : Nat → Nat → Int64} (hf : f_Mo_told_26 nf x1 s0 si sj sa sb = some (r0, vi, vj, va, vb)) {H : Heap} {locs : List Loc} {ls : Array Slot} (hP : va_P (dC, dI) classes (moW h0 r cA si sj sa sb) H) (hD : va_D A (moW h0 r cA si sj sa sb)) (hS : va_S A s.heap H locs) (hl : lv_has ls 2 [(0, .ref h0), (1, .int x1)]) : W p l e R s m args below meth c H locs 0 0 Q (F0 m 26 ls [.int s0, .ref h0]) := by
  obtain ⟨hx, hb, hr, hml, hown, hts, hlocks, hRf, hRl⟩ := id C0
  unfold f_Mo_told_26 at hf
  refine mp_3 hx hb hts hown hK hP hD hS d_Mo_told_26 (fun H locs hP hD hS => ?_)
  refine lv_aload_n hx hb d_Mo_told_29 rfl (lv_at hl 0 rfl) ?_
  refine mg_3 (v := s0) hx hb hts hown hK hP rfl d_Mo_told_30 ?_
  refine lv_if_le (tgt := 40) hx hb d_Mo_told_33 (by decide) (fun c_2 => ?_) (fun c_2 => ?_)
  · have hf := it_t c_2 hf
    refine lv_iload_n hx hb d_Mo_told_40 rfl (lv_at hl 1 rfl) ?_
    refine lv_if_ne (tgt := 52) hx hb d_Mo_told_41 (by decide) (fun c_3 => ?_) (fun c_3 => ?_)
    · have hf := it_f c_3 hf
      refine lv_aload_n hx hb d_Mo_told_52 rfl (lv_at hl 0 rfl) ?_
      refine mg_65 (v := sj 65) hx hb hts hown hK hP rfl d_Mo_told_53 ?_
      exact k_Mo_told_56 C0 hST hA hK hE hf hP hD hS (lv_sub hl [] rfl)
    · have hf := it_t c_3 hf
      refine lv_aload_n hx hb d_Mo_told_44 rfl (lv_at hl 0 rfl) ?_
      refine mg_62 (v := si 62) hx hb hts hown hK hP rfl d_Mo_told_45 ?_
      refine lv_i2l hx hb d_Mo_told_48 rfl ?_
      refine lv_goto (tgt := 56) hx hb d_Mo_told_49 (by decide) ?_
      exact k_Mo_told_56 C0 hST hA hK hE hf hP hD hS (lv_sub hl [] rfl)
  · have hf := it_f c_2 hf
    refine lv_lconst (v := 0) hx hb d_Mo_told_36 (by decide) ?_
    refine lv_goto (tgt := 56) hx hb d_Mo_told_37 (by decide) ?_
    exact k_Mo_told_56 C0 hST hA hK hE hf hP hD hS (lv_sub hl [] rfl)
set_option maxHeartbeats 400000 in
set_option maxRecDepth 100000 in
theorem k_Mo_told_10 (C0 : Cx p s m meth c args R b_Mo_told "ZoneFilesModel" 2 (some .long) 0 0) (hST : ST A s s.heap) (hA : ∀ q, s.heap.size ≤ q → A q) (hK : va_K (dC, dI) classes (moT cA) s) (hE : ∀ (pc : Nat) (ls : Array Slot) (H : Heap) (locs : List Loc), decode b_Mo_told pc = .ok (.lreturn, 1) → va_P (dC, dI) classes (moW h0 r cA vi vj va vb) H → va_D A (moW h0 r cA vi vj va vb) → va_S A s.heap H locs → W p l e R s m args below meth c H locs 0 0 Q (F0 m pc ls [.long r0])) {x1 : Int32} {si : Nat → Int32} {sj : Nat → Int64} {sa : Nat → Nat → Int32} {sb : Nat → Nat → Int64} (hf : f_Mo_told_10 nf x1 si sj sa sb = some (r0, vi, vj, va, vb)) {H : Heap} {locs : List Loc} {ls : Array Slot} (hP : va_P (dC, dI) classes (moW h0 r cA si sj sa sb) H) (hD : va_D A (moW h0 r cA si sj sa sb)) (hS : va_S A s.heap H locs) (hl : lv_has ls 2 [(0, .ref h0), (1, .int x1)]) : W p l e R s m args below meth c H locs 0 0 Q (F0 m 10 ls [.ref h0]) := by
  obtain ⟨hx, hb, hr, hml, hown, hts, hlocks, hRf, hRl⟩ := id C0
  unfold f_Mo_told_10 at hf
  refine lv_iconst (v := 1) hx hb d_Mo_told_10 (by decide) ?_
  refine lv_goto (tgt := 26) hx hb d_Mo_told_11 (by decide) ?_
  exact k_Mo_told_26 C0 hST hA hK hE hf hP hD hS (lv_sub hl [0, 1] rfl)
set_option maxHeartbeats 400000 in
set_option maxRecDepth 100000 in
theorem k_Mo_told_0 (C0 : Cx p s m meth c args R b_Mo_told "ZoneFilesModel" 2 (some .long) 0 0) (hST : ST A s s.heap) (hA : ∀ q, s.heap.size ≤ q → A q) (hK : va_K (dC, dI) classes (moT cA) s) (hE : ∀ (pc : Nat) (ls : Array Slot) (H : Heap) (locs : List Loc), decode b_Mo_told pc = .ok (.lreturn, 1) → va_P (dC, dI) classes (moW h0 r cA vi vj va vb) H → va_D A (moW h0 r cA vi vj va vb) → va_S A s.heap H locs → W p l e R s m args below meth c H locs 0 0 Q (F0 m pc ls [.long r0])) {x1 : Int32} {si : Nat → Int32} {sj : Nat → Int64} {sa : Nat → Nat → Int32} {sb : Nat → Nat → Int64} (hf : f_Mo_told_0 nf x1 si sj sa sb = some (r0, vi, vj, va, vb)) {H : Heap} {locs : List Loc} {ls : Array Slot} (hP : va_P (dC, dI) classes (moW h0 r cA si sj sa sb) H) (hD : va_D A (moW h0 r cA si sj sa sb)) (hS : va_S A s.heap H locs) (hl : lv_has ls 2 [(0, .ref h0), (1, .int x1)]) : W p l e R s m args below meth c H locs 0 0 Q (F0 m 0 ls []) := by
  obtain ⟨hx, hb, hr, hml, hown, hts, hlocks, hRf, hRl⟩ := id C0
  unfold f_Mo_told_0 at hf
  refine lv_aload_n hx hb d_Mo_told_0 rfl (lv_at hl 0 rfl) ?_
  refine lv_iload_n hx hb d_Mo_told_1 rfl (lv_at hl 1 rfl) ?_
  refine lv_if_lt (tgt := 10) hx hb d_Mo_told_2 (by decide) (fun c_1 => ?_) (fun c_1 => ?_)
  · have hf := it_t c_1 hf
    exact k_Mo_told_10 C0 hST hA hK hE hf hP hD hS (lv_sub hl [0, 1] rfl)
  · have hf := it_f c_1 hf
    refine lv_iload_n hx hb d_Mo_told_5 rfl (lv_at hl 1 rfl) ?_
    refine lv_iconst (v := 1) hx hb d_Mo_told_6 (by decide) ?_
    refine lv_icmp_le (tgt := 14) hx hb d_Mo_told_7 (by decide) (fun c_4 => ?_) (fun c_4 => ?_)
    · have hf := it_t c_4 hf
      refine lv_aload_n hx hb d_Mo_told_14 rfl (lv_at hl 0 rfl) ?_
      refine mg_61 (v := si 61) hx hb hts hown hK hP rfl d_Mo_told_15 ?_
      refine lv_if_ne (tgt := 25) hx hb d_Mo_told_18 (by decide) (fun c_5 => ?_) (fun c_5 => ?_)
      · have hf := it_f c_5 hf
        refine lv_iconst (v := 0) hx hb d_Mo_told_25 (by decide) ?_
        exact k_Mo_told_26 C0 hST hA hK hE hf hP hD hS (lv_sub hl [0, 1] rfl)
      · have hf := it_t c_5 hf
        refine lv_iconst (v := 2) hx hb d_Mo_told_21 (by decide) ?_
        refine lv_goto (tgt := 26) hx hb d_Mo_told_22 (by decide) ?_
        exact k_Mo_told_26 C0 hST hA hK hE hf hP hD hS (lv_sub hl [0, 1] rfl)
    · have hf := it_f c_4 hf
      exact k_Mo_told_10 C0 hST hA hK hE hf hP hD hS (lv_sub hl [0, 1] rfl)
end
set_option maxHeartbeats 400000 in
set_option maxRecDepth 100000 in
theorem c_Mo_told (l : Launch) (dC : Nat → ClassId) (dI : Nat → Nat → Nat) (h0 : Nat) (r : Nat → Nat) (cA : Nat → ClassId) (sz : Nat) (nf : Nat) (p0 : Int32) (si : Nat → Int32) (sj : Nat → Int64) (sa : Nat → Nat → Int32) (sb : Nat → Nat → Int64) {r0 : Int64} {vi : Nat → Int32} {vj : Nat → Int64} {va : Nat → Nat → Int32} {vb : Nat → Nat → Int64} (hf : f_Mo_told nf p0 si sj sa sb = some (r0, vi, vj, va, vb)) : Met l y_Mo_told (wd y_Mo_told b_Mo_told 2 (some .long)) ({ frames := 0, cells := 0, slots := 0, locals := 0 }) (MU dC dI (moW h0 r cA si sj sa sb) (moT cA) sz [.ref h0, .int p0]) (MV (some (.long r0)) (fun t => va_P (dC, dI) classes (moW h0 r cA vi vj va vb) t.heap) (va_A (moW h0 r cA si sj sa sb) sz)) 0 0 (va_A (moW h0 r cA si sj sa sb) sz) :=
  met_M (plainFor_of_name (by decide)) (Nat.le_of_ble_eq_true rfl) (fun p e R s m args below meth c ls hRc hRs hsz hin C0 hST hK hP hD hl => by
    obtain ⟨hx, hb, hr, hml, hown, hts, hlocks, hRf, hRl⟩ := id C0
    subst hsz
    have hA : ∀ q : Nat, s.heap.size ≤ q → va_A (moW h0 r cA si sj sa sb) s.heap.size q := fun q h => Or.inr h
    have hS : va_S (va_A (moW h0 r cA si sj sa sb) s.heap.size) s.heap s.heap [] := va_S.rf
    unfold f_Mo_told at hf
    exact k_Mo_told_0 C0 hST hA hK (fun pc ls H locs hd hP hD hS => W.lret hx hb hr (fun t ht hW => ⟨⟨rfl, mo_end ht hP⟩, hS.F ht⟩) hS.2.2 hd) hf hP hD hS (lv_sub hl [0, 1] rfl))
-- ZoneFilesModel.row(II)J
def f_Mo_row_67 (nf : Nat) (s0 : Int64) (si : Nat → Int32) (sj : Nat → Int64) (sa : Nat → Nat → Int32) (sb : Nat → Nat → Int64) : Option (Int64 × (Nat → Int32) × (Nat → Int64) × (Nat → Nat → Int32) × (Nat → Nat → Int64)) :=
  some (s0, si, sj, sa, sb)
def f_Mo_row_34 (nf : Nat) (x1 : Int32) (x2 : Int32) (s0 : Int32) (si : Nat → Int32) (sj : Nat → Int64) (sa : Nat → Nat → Int32) (sb : Nat → Nat → Int64) : Option (Int64 × (Nat → Int32) × (Nat → Int64) × (Nat → Nat → Int32) × (Nat → Nat → Int64)) :=
  if s0 ≤ 0 then
  if x2 = 0 then
    if x1 < 0 ∨ 60 ≤ x1.toNatClampNeg then none else
      f_Mo_row_67 nf (sb 63 x1.toNatClampNeg) (va_up si 3 s0) sj sa sb
    else
    if x1 < 0 ∨ 60 ≤ x1.toNatClampNeg then none else
      f_Mo_row_67 nf (sb 64 x1.toNatClampNeg) (va_up si 3 s0) sj sa sb
  else
  f_Mo_row_67 nf 0 (va_up si 3 s0) sj sa sb
def f_Mo_row_29 (nf : Nat) (x1 : Int32) (x2 : Int32) (si : Nat → Int32) (sj : Nat → Int64) (sa : Nat → Nat → Int32) (sb : Nat → Nat → Int64) : Option (Int64 × (Nat → Int32) × (Nat → Int64) × (Nat → Nat → Int32) × (Nat → Nat → Int64)) :=
  f_Mo_row_34 nf x1 x2 1 si sj sa sb
def f_Mo_row_0 (nf : Nat) (x1 : Int32) (x2 : Int32) (si : Nat → Int32) (sj : Nat → Int64) (sa : Nat → Nat → Int32) (sb : Nat → Nat → Int64) : Option (Int64 × (Nat → Int32) × (Nat → Int64) × (Nat → Nat → Int32) × (Nat → Nat → Int64)) :=
  if (si 61) = 0 then
  f_Mo_row_29 nf x1 x2 si sj sa sb
  else
  if x1 < 0 then
    f_Mo_row_29 nf x1 x2 si sj sa sb
    else
    if (si 62) ≤ x1 then
      f_Mo_row_29 nf x1 x2 si sj sa sb
      else
      if x2 < 0 then
        f_Mo_row_29 nf x1 x2 si sj sa sb
        else
        if x2 ≤ (1 : Int32) then
          f_Mo_row_34 nf x1 x2 0 si sj sa sb
          else
          f_Mo_row_29 nf x1 x2 si sj sa sb
def f_Mo_row (nf : Nat) (p0 : Int32) (p1 : Int32) (si : Nat → Int32) (sj : Nat → Int64) (sa : Nat → Nat → Int32) (sb : Nat → Nat → Int64) : Option (Int64 × (Nat → Int32) × (Nat → Int64) × (Nat → Nat → Int32) × (Nat → Nat → Int64)) :=
  f_Mo_row_0 nf p0 p1 si sj sa sb
section
variable {p : Program} {l : Launch} {e : Env} {R : Room} {s : State} {m : MethodId} {args : Array Value} {below : List Frame} {meth : Method} {c : Code} {Q : State → Prop} {dC : Nat → ClassId} {dI : Nat → Nat → Nat} {nf : Nat} {A : Nat → Prop} {h0 : Nat} {r : Nat → Nat} {cA : Nat → ClassId}
variable {r0 : Int64} {vi : Nat → Int32} {vj : Nat → Int64} {va : Nat → Nat → Int32} {vb : Nat → Nat → Int64}
set_option maxHeartbeats 400000 in
set_option maxRecDepth 100000 in
theorem k_Mo_row_67 (C0 : Cx p s m meth c args R b_Mo_row "ZoneFilesModel" 3 (some .long) 0 0) (hST : ST A s s.heap) (hA : ∀ q, s.heap.size ≤ q → A q) (hK : va_K (dC, dI) classes (moT cA) s) (hE : ∀ (pc : Nat) (ls : Array Slot) (H : Heap) (locs : List Loc), decode b_Mo_row pc = .ok (.lreturn, 1) → va_P (dC, dI) classes (moW h0 r cA vi vj va vb) H → va_D A (moW h0 r cA vi vj va vb) → va_S A s.heap H locs → W p l e R s m args below meth c H locs 0 0 Q (F0 m pc ls [.long r0])) {s0 : Int64} {si : Nat → Int32} {sj : Nat → Int64} {sa : Nat → Nat → Int32} {sb : Nat → Nat → Int64} (hf : f_Mo_row_67 nf s0 si sj sa sb = some (r0, vi, vj, va, vb)) {H : Heap} {locs : List Loc} {ls : Array Slot} (hP : va_P (dC, dI) classes (moW h0 r cA si sj sa sb) H) (hD : va_D A (moW h0 r cA si sj sa sb)) (hS : va_S A s.heap H locs) (hl : lv_has ls 3 []) : W p l e R s m args below meth c H locs 0 0 Q (F0 m 67 ls [.long s0]) := by
  obtain ⟨hx, hb, hr, hml, hown, hts, hlocks, hRf, hRl⟩ := id C0
  unfold f_Mo_row_67 at hf
  cases rs hf
  exact hE _ _ _ _ d_Mo_row_67 hP hD hS
set_option maxHeartbeats 400000 in
set_option maxRecDepth 100000 in
theorem k_Mo_row_34 (C0 : Cx p s m meth c args R b_Mo_row "ZoneFilesModel" 3 (some .long) 0 0) (hST : ST A s s.heap) (hA : ∀ q, s.heap.size ≤ q → A q) (hK : va_K (dC, dI) classes (moT cA) s) (hE : ∀ (pc : Nat) (ls : Array Slot) (H : Heap) (locs : List Loc), decode b_Mo_row pc = .ok (.lreturn, 1) → va_P (dC, dI) classes (moW h0 r cA vi vj va vb) H → va_D A (moW h0 r cA vi vj va vb) → va_S A s.heap H locs → W p l e R s m args below meth c H locs 0 0 Q (F0 m pc ls [.long r0])) {x1 : Int32} {x2 : Int32} {s0 : Int32} {si : Nat → Int32} {sj : Nat → Int64} {sa : Nat → Nat → Int32} {sb : Nat → Nat → Int64} (hf : f_Mo_row_34 nf x1 x2 s0 si sj sa sb = some (r0, vi, vj, va, vb)) {H : Heap} {locs : List Loc} {ls : Array Slot} (hP : va_P (dC, dI) classes (moW h0 r cA si sj sa sb) H) (hD : va_D A (moW h0 r cA si sj sa sb)) (hS : va_S A s.heap H locs) (hl : lv_has ls 3 [(0, .ref h0), (1, .int x1), (2, .int x2)]) : W p l e R s m args below meth c H locs 0 0 Q (F0 m 34 ls [.int s0, .ref h0]) := by
  obtain ⟨hx, hb, hr, hml, hown, hts, hlocks, hRf, hRl⟩ := id C0
  unfold f_Mo_row_34 at hf
  refine mp_3 hx hb hts hown hK hP hD hS d_Mo_row_34 (fun H locs hP hD hS => ?_)
  refine lv_aload_n hx hb d_Mo_row_37 rfl (lv_at hl 0 rfl) ?_
  refine mg_3 (v := s0) hx hb hts hown hK hP rfl d_Mo_row_38 ?_
  refine lv_if_le (tgt := 48) hx hb d_Mo_row_41 (by decide) (fun c_2 => ?_) (fun c_2 => ?_)
  · have hf := it_t c_2 hf
    refine lv_iload_n hx hb d_Mo_row_48 rfl (lv_at hl 2 rfl) ?_
    refine lv_if_ne (tgt := 61) hx hb d_Mo_row_49 (by decide) (fun c_3 => ?_) (fun c_3 => ?_)
    · have hf := it_f c_3 hf
      refine lv_aload_n hx hb d_Mo_row_61 rfl (lv_at hl 0 rfl) ?_
      refine mg_64 hx hb hts hown hK hP d_Mo_row_62 ?_
      refine lv_iload_n hx hb d_Mo_row_65 rfl (lv_at hl 1 rfl) ?_
      obtain ⟨c_4, hf⟩ := it_n hf
      refine ma_64 (v := sb 64 x1.toNatClampNeg) hx hb hK hP c_4 rfl d_Mo_row_66 ?_
      exact k_Mo_row_67 C0 hST hA hK hE hf hP hD hS (lv_sub hl [] rfl)
    · have hf := it_t c_3 hf
      refine lv_aload_n hx hb d_Mo_row_52 rfl (lv_at hl 0 rfl) ?_
      refine mg_63 hx hb hts hown hK hP d_Mo_row_53 ?_
      refine lv_iload_n hx hb d_Mo_row_56 rfl (lv_at hl 1 rfl) ?_
      obtain ⟨c_5, hf⟩ := it_n hf
      refine ma_63 (v := sb 63 x1.toNatClampNeg) hx hb hK hP c_5 rfl d_Mo_row_57 ?_
      refine lv_goto (tgt := 67) hx hb d_Mo_row_58 (by decide) ?_
      exact k_Mo_row_67 C0 hST hA hK hE hf hP hD hS (lv_sub hl [] rfl)
  · have hf := it_f c_2 hf
    refine lv_lconst (v := 0) hx hb d_Mo_row_44 (by decide) ?_
    refine lv_goto (tgt := 67) hx hb d_Mo_row_45 (by decide) ?_
    exact k_Mo_row_67 C0 hST hA hK hE hf hP hD hS (lv_sub hl [] rfl)
set_option maxHeartbeats 400000 in
set_option maxRecDepth 100000 in
theorem k_Mo_row_29 (C0 : Cx p s m meth c args R b_Mo_row "ZoneFilesModel" 3 (some .long) 0 0) (hST : ST A s s.heap) (hA : ∀ q, s.heap.size ≤ q → A q) (hK : va_K (dC, dI) classes (moT cA) s) (hE : ∀ (pc : Nat) (ls : Array Slot) (H : Heap) (locs : List Loc), decode b_Mo_row pc = .ok (.lreturn, 1) → va_P (dC, dI) classes (moW h0 r cA vi vj va vb) H → va_D A (moW h0 r cA vi vj va vb) → va_S A s.heap H locs → W p l e R s m args below meth c H locs 0 0 Q (F0 m pc ls [.long r0])) {x1 : Int32} {x2 : Int32} {si : Nat → Int32} {sj : Nat → Int64} {sa : Nat → Nat → Int32} {sb : Nat → Nat → Int64} (hf : f_Mo_row_29 nf x1 x2 si sj sa sb = some (r0, vi, vj, va, vb)) {H : Heap} {locs : List Loc} {ls : Array Slot} (hP : va_P (dC, dI) classes (moW h0 r cA si sj sa sb) H) (hD : va_D A (moW h0 r cA si sj sa sb)) (hS : va_S A s.heap H locs) (hl : lv_has ls 3 [(0, .ref h0), (1, .int x1), (2, .int x2)]) : W p l e R s m args below meth c H locs 0 0 Q (F0 m 29 ls [.ref h0]) := by
  obtain ⟨hx, hb, hr, hml, hown, hts, hlocks, hRf, hRl⟩ := id C0
  unfold f_Mo_row_29 at hf
  refine lv_iconst (v := 1) hx hb d_Mo_row_29 (by decide) ?_
  refine lv_goto (tgt := 34) hx hb d_Mo_row_30 (by decide) ?_
  exact k_Mo_row_34 C0 hST hA hK hE hf hP hD hS (lv_sub hl [0, 1, 2] rfl)
set_option maxHeartbeats 400000 in
set_option maxRecDepth 100000 in
theorem k_Mo_row_0 (C0 : Cx p s m meth c args R b_Mo_row "ZoneFilesModel" 3 (some .long) 0 0) (hST : ST A s s.heap) (hA : ∀ q, s.heap.size ≤ q → A q) (hK : va_K (dC, dI) classes (moT cA) s) (hE : ∀ (pc : Nat) (ls : Array Slot) (H : Heap) (locs : List Loc), decode b_Mo_row pc = .ok (.lreturn, 1) → va_P (dC, dI) classes (moW h0 r cA vi vj va vb) H → va_D A (moW h0 r cA vi vj va vb) → va_S A s.heap H locs → W p l e R s m args below meth c H locs 0 0 Q (F0 m pc ls [.long r0])) {x1 : Int32} {x2 : Int32} {si : Nat → Int32} {sj : Nat → Int64} {sa : Nat → Nat → Int32} {sb : Nat → Nat → Int64} (hf : f_Mo_row_0 nf x1 x2 si sj sa sb = some (r0, vi, vj, va, vb)) {H : Heap} {locs : List Loc} {ls : Array Slot} (hP : va_P (dC, dI) classes (moW h0 r cA si sj sa sb) H) (hD : va_D A (moW h0 r cA si sj sa sb)) (hS : va_S A s.heap H locs) (hl : lv_has ls 3 [(0, .ref h0), (1, .int x1), (2, .int x2)]) : W p l e R s m args below meth c H locs 0 0 Q (F0 m 0 ls []) := by
  obtain ⟨hx, hb, hr, hml, hown, hts, hlocks, hRf, hRl⟩ := id C0
  unfold f_Mo_row_0 at hf
  refine lv_aload_n hx hb d_Mo_row_0 rfl (lv_at hl 0 rfl) ?_
  refine lv_aload_n hx hb d_Mo_row_1 rfl (lv_at hl 0 rfl) ?_
  refine mg_61 (v := si 61) hx hb hts hown hK hP rfl d_Mo_row_2 ?_
  refine lv_if_eq (tgt := 29) hx hb d_Mo_row_5 (by decide) (fun c_1 => ?_) (fun c_1 => ?_)
  · have hf := it_t c_1 hf
    exact k_Mo_row_29 C0 hST hA hK hE hf hP hD hS (lv_sub hl [0, 1, 2] rfl)
  · have hf := it_f c_1 hf
    refine lv_iload_n hx hb d_Mo_row_8 rfl (lv_at hl 1 rfl) ?_
    refine lv_if_lt (tgt := 29) hx hb d_Mo_row_9 (by decide) (fun c_6 => ?_) (fun c_6 => ?_)
    · have hf := it_t c_6 hf
      exact k_Mo_row_29 C0 hST hA hK hE hf hP hD hS (lv_sub hl [0, 1, 2] rfl)
    · have hf := it_f c_6 hf
      refine lv_iload_n hx hb d_Mo_row_12 rfl (lv_at hl 1 rfl) ?_
      refine lv_aload_n hx hb d_Mo_row_13 rfl (lv_at hl 0 rfl) ?_
      refine mg_62 (v := si 62) hx hb hts hown hK hP rfl d_Mo_row_14 ?_
      refine lv_icmp_ge (tgt := 29) hx hb d_Mo_row_17 (by decide) (fun c_7 => ?_) (fun c_7 => ?_)
      · have hf := it_t c_7 hf
        exact k_Mo_row_29 C0 hST hA hK hE hf hP hD hS (lv_sub hl [0, 1, 2] rfl)
      · have hf := it_f c_7 hf
        refine lv_iload_n hx hb d_Mo_row_20 rfl (lv_at hl 2 rfl) ?_
        refine lv_if_lt (tgt := 29) hx hb d_Mo_row_21 (by decide) (fun c_8 => ?_) (fun c_8 => ?_)
        · have hf := it_t c_8 hf
          exact k_Mo_row_29 C0 hST hA hK hE hf hP hD hS (lv_sub hl [0, 1, 2] rfl)
        · have hf := it_f c_8 hf
          refine lv_iload_n hx hb d_Mo_row_24 rfl (lv_at hl 2 rfl) ?_
          refine lv_iconst (v := 1) hx hb d_Mo_row_25 (by decide) ?_
          refine lv_icmp_le (tgt := 33) hx hb d_Mo_row_26 (by decide) (fun c_9 => ?_) (fun c_9 => ?_)
          · have hf := it_t c_9 hf
            refine lv_iconst (v := 0) hx hb d_Mo_row_33 (by decide) ?_
            exact k_Mo_row_34 C0 hST hA hK hE hf hP hD hS (lv_sub hl [0, 1, 2] rfl)
          · have hf := it_f c_9 hf
            exact k_Mo_row_29 C0 hST hA hK hE hf hP hD hS (lv_sub hl [0, 1, 2] rfl)
end
set_option maxHeartbeats 400000 in
set_option maxRecDepth 100000 in
theorem c_Mo_row (l : Launch) (dC : Nat → ClassId) (dI : Nat → Nat → Nat) (h0 : Nat) (r : Nat → Nat) (cA : Nat → ClassId) (sz : Nat) (nf : Nat) (p0 : Int32) (p1 : Int32) (si : Nat → Int32) (sj : Nat → Int64) (sa : Nat → Nat → Int32) (sb : Nat → Nat → Int64) {r0 : Int64} {vi : Nat → Int32} {vj : Nat → Int64} {va : Nat → Nat → Int32} {vb : Nat → Nat → Int64} (hf : f_Mo_row nf p0 p1 si sj sa sb = some (r0, vi, vj, va, vb)) : Met l y_Mo_row (wd y_Mo_row b_Mo_row 3 (some .long)) ({ frames := 0, cells := 0, slots := 0, locals := 0 }) (MU dC dI (moW h0 r cA si sj sa sb) (moT cA) sz [.ref h0, .int p0, .int p1]) (MV (some (.long r0)) (fun t => va_P (dC, dI) classes (moW h0 r cA vi vj va vb) t.heap) (va_A (moW h0 r cA si sj sa sb) sz)) 0 0 (va_A (moW h0 r cA si sj sa sb) sz) :=
  met_M (plainFor_of_name (by decide)) (Nat.le_of_ble_eq_true rfl) (fun p e R s m args below meth c ls hRc hRs hsz hin C0 hST hK hP hD hl => by
    obtain ⟨hx, hb, hr, hml, hown, hts, hlocks, hRf, hRl⟩ := id C0
    subst hsz
    have hA : ∀ q : Nat, s.heap.size ≤ q → va_A (moW h0 r cA si sj sa sb) s.heap.size q := fun q h => Or.inr h
    have hS : va_S (va_A (moW h0 r cA si sj sa sb) s.heap.size) s.heap s.heap [] := va_S.rf
    unfold f_Mo_row at hf
    exact k_Mo_row_0 C0 hST hA hK (fun pc ls H locs hd hP hD hS => W.lret hx hb hr (fun t ht hW => ⟨⟨rfl, mo_end ht hP⟩, hS.F ht⟩) hS.2.2 hd) hf hP hD hS (lv_sub hl [0, 1, 2] rfl))
-- ZoneFilesModel.atomic(J)J
def f_Mo_atomic_32 (nf : Nat) (si : Nat → Int32) (sj : Nat → Int64) (sa : Nat → Nat → Int32) (sb : Nat → Nat → Int64) : Option (Int64 × (Nat → Int32) × (Nat → Int64) × (Nat → Nat → Int32) × (Nat → Nat → Int64)) :=
  some ((-9223372036854775808), si, sj, sa, sb)
def f_Mo_atomic_129 (nf : Nat) (s0 : Int64) (si : Nat → Int32) (sj : Nat → Int64) (sa : Nat → Nat → Int32) (sb : Nat → Nat → Int64) : Option (Int64 × (Nat → Int32) × (Nat → Int64) × (Nat → Nat → Int32) × (Nat → Nat → Int64)) :=
  some (s0, si, sj, sa, sb)
def f_Mo_atomic_108 (nf : Nat) (x3 : Int32) (x1 : Int64) (s0 : Int32) (si : Nat → Int32) (sj : Nat → Int64) (sa : Nat → Nat → Int32) (sb : Nat → Nat → Int64) : Option (Int64 × (Nat → Int32) × (Nat → Int64) × (Nat → Nat → Int32) × (Nat → Nat → Int64)) :=
  if s0 = 0 then
  if x3 < 0 ∨ 60 ≤ x3.toNatClampNeg then none else
    f_Mo_atomic_129 nf (x1 + (sb 64 x3.toNatClampNeg)) si sj sa sb
  else
  f_Mo_atomic_129 nf (-9223372036854775808) si sj sa sb
def f_Mo_atomic_107 (nf : Nat) (x3 : Int32) (x1 : Int64) (si : Nat → Int32) (sj : Nat → Int64) (sa : Nat → Nat → Int32) (sb : Nat → Nat → Int64) : Option (Int64 × (Nat → Int32) × (Nat → Int64) × (Nat → Nat → Int32) × (Nat → Nat → Int64)) :=
  f_Mo_atomic_108 nf x3 x1 0 si sj sa sb
def f_Mo_atomic_43 (nf : Nat) : Nat → Int32 → Int64 → (Nat → Int32) → (Nat → Int64) → (Nat → Nat → Int32) → (Nat → Nat → Int64) → Option (Int64 × (Nat → Int32) × (Nat → Int64) × (Nat → Nat → Int32) × (Nat → Nat → Int64))
  | 0, _, _, _, _, _, _ => none
  | n + 1, x3, x1, si, sj, sa, sb =>
    if x3 < 0 ∨ 60 ≤ x3.toNatClampNeg then none else
    if (sb 63 x3.toNatClampNeg) ≤ x1 then
    if (si 62) ≤ (x3 + 1) then
      f_Mo_atomic_107 nf x3 x1 si sj sa sb
      else
      if (x3 + 1) < 0 ∨ 60 ≤ (x3 + 1).toNatClampNeg then none else
        if x1 = ((sb 63 (x3 + 1).toNatClampNeg) - 1) then
        if (x3 + 1) < 0 ∨ 60 ≤ (x3 + 1).toNatClampNeg then none else
          if x3 < 0 ∨ 60 ≤ x3.toNatClampNeg then none else
          if (sb 64 x3.toNatClampNeg) ≤ (sb 64 (x3 + 1).toNatClampNeg) then
          f_Mo_atomic_107 nf x3 x1 si sj sa sb
          else
          f_Mo_atomic_108 nf x3 x1 1 si sj sa sb
        else
        f_Mo_atomic_107 nf x3 x1 si sj sa sb
    else
    f_Mo_atomic_43 nf n (x3 + (-1)) x1 si sj sa sb
def f_Mo_atomic_0 (nf : Nat) (x1 : Int64) (si : Nat → Int32) (sj : Nat → Int64) (sa : Nat → Nat → Int32) (sb : Nat → Nat → Int64) : Option (Int64 × (Nat → Int32) × (Nat → Int64) × (Nat → Nat → Int32) × (Nat → Nat → Int64)) :=
  if (si 61) = 0 then
  f_Mo_atomic_32 nf (va_up si 3 0) sj sa sb
  else
  if (0 : Int32) < 0 ∨ 60 ≤ (0 : Int32).toNatClampNeg then none else
    if x1 < (sb 63 (0 : Int32).toNatClampNeg) then
    f_Mo_atomic_32 nf (va_up si 3 0) sj sa sb
    else
    if x1 < (sj 65) then
      f_Mo_atomic_43 nf nf ((si 62) - 1) x1 (va_up si 3 0) sj sa sb
      else
      f_Mo_atomic_32 nf (va_up si 3 0) sj sa sb
def f_Mo_atomic (nf : Nat) (p0 : Int64) (si : Nat → Int32) (sj : Nat → Int64) (sa : Nat → Nat → Int32) (sb : Nat → Nat → Int64) : Option (Int64 × (Nat → Int32) × (Nat → Int64) × (Nat → Nat → Int32) × (Nat → Nat → Int64)) :=
  f_Mo_atomic_0 nf p0 si sj sa sb
section
variable {p : Program} {l : Launch} {e : Env} {R : Room} {s : State} {m : MethodId} {args : Array Value} {below : List Frame} {meth : Method} {c : Code} {Q : State → Prop} {dC : Nat → ClassId} {dI : Nat → Nat → Nat} {nf : Nat} {A : Nat → Prop} {h0 : Nat} {r : Nat → Nat} {cA : Nat → ClassId}
variable {r0 : Int64} {vi : Nat → Int32} {vj : Nat → Int64} {va : Nat → Nat → Int32} {vb : Nat → Nat → Int64}
set_option maxHeartbeats 400000 in
set_option maxRecDepth 100000 in
theorem k_Mo_atomic_32 (C0 : Cx p s m meth c args R b_Mo_atomic "ZoneFilesModel" 5 (some .long) 0 0) (hST : ST A s s.heap) (hA : ∀ q, s.heap.size ≤ q → A q) (hK : va_K (dC, dI) classes (moT cA) s) (hE : ∀ (pc : Nat) (ls : Array Slot) (H : Heap) (locs : List Loc), decode b_Mo_atomic pc = .ok (.lreturn, 1) → va_P (dC, dI) classes (moW h0 r cA vi vj va vb) H → va_D A (moW h0 r cA vi vj va vb) → va_S A s.heap H locs → W p l e R s m args below meth c H locs 0 0 Q (F0 m pc ls [.long r0])) {si : Nat → Int32} {sj : Nat → Int64} {sa : Nat → Nat → Int32} {sb : Nat → Nat → Int64} (hf : f_Mo_atomic_32 nf si sj sa sb = some (r0, vi, vj, va, vb)) {H : Heap} {locs : List Loc} {ls : Array Slot} (hP : va_P (dC, dI) classes (moW h0 r cA si sj sa sb) H) (hD : va_D A (moW h0 r cA si sj sa sb)) (hS : va_S A s.heap H locs) (hl : lv_has ls 5 []) : W p l e R s m args below meth c H locs 0 0 Q (F0 m 32 ls []) := by
  obtain ⟨hx, hb, hr, hml, hown, hts, hlocks, hRf, hRl⟩ := id C0
  unfold f_Mo_atomic_32 at hf
  refine lv_ldc2 (v := (-9223372036854775808)) hx hb hown (hts (.constantLong "ZoneFilesModel" 370 (-9223372036854775808)) m_8_2) d_Mo_atomic_32 ?_
  cases rs hf
  exact hE _ _ _ _ d_Mo_atomic_35 hP hD hS
set_option maxHeartbeats 400000 in
set_option maxRecDepth 100000 in
theorem k_Mo_atomic_129 (C0 : Cx p s m meth c args R b_Mo_atomic "ZoneFilesModel" 5 (some .long) 0 0) (hST : ST A s s.heap) (hA : ∀ q, s.heap.size ≤ q → A q) (hK : va_K (dC, dI) classes (moT cA) s) (hE : ∀ (pc : Nat) (ls : Array Slot) (H : Heap) (locs : List Loc), decode b_Mo_atomic pc = .ok (.lreturn, 1) → va_P (dC, dI) classes (moW h0 r cA vi vj va vb) H → va_D A (moW h0 r cA vi vj va vb) → va_S A s.heap H locs → W p l e R s m args below meth c H locs 0 0 Q (F0 m pc ls [.long r0])) {s0 : Int64} {si : Nat → Int32} {sj : Nat → Int64} {sa : Nat → Nat → Int32} {sb : Nat → Nat → Int64} (hf : f_Mo_atomic_129 nf s0 si sj sa sb = some (r0, vi, vj, va, vb)) {H : Heap} {locs : List Loc} {ls : Array Slot} (hP : va_P (dC, dI) classes (moW h0 r cA si sj sa sb) H) (hD : va_D A (moW h0 r cA si sj sa sb)) (hS : va_S A s.heap H locs) (hl : lv_has ls 5 []) : W p l e R s m args below meth c H locs 0 0 Q (F0 m 129 ls [.long s0]) := by
  obtain ⟨hx, hb, hr, hml, hown, hts, hlocks, hRf, hRl⟩ := id C0
  unfold f_Mo_atomic_129 at hf
  cases rs hf
  exact hE _ _ _ _ d_Mo_atomic_129 hP hD hS
set_option maxHeartbeats 400000 in
set_option maxRecDepth 100000 in
theorem k_Mo_atomic_108 (C0 : Cx p s m meth c args R b_Mo_atomic "ZoneFilesModel" 5 (some .long) 0 0) (hST : ST A s s.heap) (hA : ∀ q, s.heap.size ≤ q → A q) (hK : va_K (dC, dI) classes (moT cA) s) (hE : ∀ (pc : Nat) (ls : Array Slot) (H : Heap) (locs : List Loc), decode b_Mo_atomic pc = .ok (.lreturn, 1) → va_P (dC, dI) classes (moW h0 r cA vi vj va vb) H → va_D A (moW h0 r cA vi vj va vb) → va_S A s.heap H locs → W p l e R s m args below meth c H locs 0 0 Q (F0 m pc ls [.long r0])) {x3 : Int32} {x1 : Int64} {s0 : Int32} {si : Nat → Int32} {sj : Nat → Int64} {sa : Nat → Nat → Int32} {sb : Nat → Nat → Int64} (hf : f_Mo_atomic_108 nf x3 x1 s0 si sj sa sb = some (r0, vi, vj, va, vb)) {H : Heap} {locs : List Loc} {ls : Array Slot} (hP : va_P (dC, dI) classes (moW h0 r cA si sj sa sb) H) (hD : va_D A (moW h0 r cA si sj sa sb)) (hS : va_S A s.heap H locs) (hl : lv_has ls 5 [(3, .int x3), (0, .ref h0), (1, .long x1)]) : W p l e R s m args below meth c H locs 0 0 Q (F0 m 108 ls [.int s0]) := by
  obtain ⟨hx, hb, hr, hml, hown, hts, hlocks, hRf, hRl⟩ := id C0
  unfold f_Mo_atomic_108 at hf
  refine lv_istore (lv' := [(4, .int s0), (3, .int x3), (0, .ref h0), (1, .long x1)]) hx hb d_Mo_atomic_108 hl (by decide) rfl (fun ls hl => ?_)
  refine lv_iload hx hb d_Mo_atomic_110 (lv_at hl 0 rfl) ?_
  refine lv_if_eq (tgt := 121) hx hb d_Mo_atomic_112 (by decide) (fun c_8 => ?_) (fun c_8 => ?_)
  · have hf := it_t c_8 hf
    refine lv_lload_n hx hb d_Mo_atomic_121 rfl (lv_at hl 3 rfl) ?_
    refine lv_aload_n hx hb d_Mo_atomic_122 rfl (lv_at hl 2 rfl) ?_
    refine mg_64 hx hb hts hown hK hP d_Mo_atomic_123 ?_
    refine lv_iload_n hx hb d_Mo_atomic_126 rfl (lv_at hl 1 rfl) ?_
    obtain ⟨c_9, hf⟩ := it_n hf
    refine ma_64 (v := sb 64 x3.toNatClampNeg) hx hb hK hP c_9 rfl d_Mo_atomic_127 ?_
    refine lv_ladd hx hb d_Mo_atomic_128 ?_
    exact k_Mo_atomic_129 C0 hST hA hK hE hf hP hD hS (lv_sub hl [] rfl)
  · have hf := it_f c_8 hf
    refine lv_ldc2 (v := (-9223372036854775808)) hx hb hown (hts (.constantLong "ZoneFilesModel" 370 (-9223372036854775808)) m_8_2) d_Mo_atomic_115 ?_
    refine lv_goto (tgt := 129) hx hb d_Mo_atomic_118 (by decide) ?_
    exact k_Mo_atomic_129 C0 hST hA hK hE hf hP hD hS (lv_sub hl [] rfl)
set_option maxHeartbeats 400000 in
set_option maxRecDepth 100000 in
theorem k_Mo_atomic_107 (C0 : Cx p s m meth c args R b_Mo_atomic "ZoneFilesModel" 5 (some .long) 0 0) (hST : ST A s s.heap) (hA : ∀ q, s.heap.size ≤ q → A q) (hK : va_K (dC, dI) classes (moT cA) s) (hE : ∀ (pc : Nat) (ls : Array Slot) (H : Heap) (locs : List Loc), decode b_Mo_atomic pc = .ok (.lreturn, 1) → va_P (dC, dI) classes (moW h0 r cA vi vj va vb) H → va_D A (moW h0 r cA vi vj va vb) → va_S A s.heap H locs → W p l e R s m args below meth c H locs 0 0 Q (F0 m pc ls [.long r0])) {x3 : Int32} {x1 : Int64} {si : Nat → Int32} {sj : Nat → Int64} {sa : Nat → Nat → Int32} {sb : Nat → Nat → Int64} (hf : f_Mo_atomic_107 nf x3 x1 si sj sa sb = some (r0, vi, vj, va, vb)) {H : Heap} {locs : List Loc} {ls : Array Slot} (hP : va_P (dC, dI) classes (moW h0 r cA si sj sa sb) H) (hD : va_D A (moW h0 r cA si sj sa sb)) (hS : va_S A s.heap H locs) (hl : lv_has ls 5 [(3, .int x3), (0, .ref h0), (1, .long x1)]) : W p l e R s m args below meth c H locs 0 0 Q (F0 m 107 ls []) := by
  obtain ⟨hx, hb, hr, hml, hown, hts, hlocks, hRf, hRl⟩ := id C0
  unfold f_Mo_atomic_107 at hf
  refine lv_iconst (v := 0) hx hb d_Mo_atomic_107 (by decide) ?_
  exact k_Mo_atomic_108 C0 hST hA hK hE hf hP hD hS (lv_sub hl [0, 1, 2] rfl)
set_option maxHeartbeats 400000 in
set_option maxRecDepth 100000 in
theorem k_Mo_atomic_43 (C0 : Cx p s m meth c args R b_Mo_atomic "ZoneFilesModel" 5 (some .long) 0 0) (hST : ST A s s.heap) (hA : ∀ q, s.heap.size ≤ q → A q) (hK : va_K (dC, dI) classes (moT cA) s) (hE : ∀ (pc : Nat) (ls : Array Slot) (H : Heap) (locs : List Loc), decode b_Mo_atomic pc = .ok (.lreturn, 1) → va_P (dC, dI) classes (moW h0 r cA vi vj va vb) H → va_D A (moW h0 r cA vi vj va vb) → va_S A s.heap H locs → W p l e R s m args below meth c H locs 0 0 Q (F0 m pc ls [.long r0])) : ∀ (n : Nat) {x3 : Int32} {x1 : Int64} {si : Nat → Int32} {sj : Nat → Int64} {sa : Nat → Nat → Int32} {sb : Nat → Nat → Int64}, f_Mo_atomic_43 nf n x3 x1 si sj sa sb = some (r0, vi, vj, va, vb) → ∀ {H : Heap} {locs : List Loc} {ls : Array Slot}, va_P (dC, dI) classes (moW h0 r cA si sj sa sb) H → va_D A (moW h0 r cA si sj sa sb) → va_S A s.heap H locs → lv_has ls 5 [(3, .int x3), (0, .ref h0), (1, .long x1)] → W p l e R s m args below meth c H locs 0 0 Q (F0 m 43 ls []) := by
  obtain ⟨hx, hb, hr, hml, hown, hts, hlocks, hRf, hRl⟩ := id C0
  intro n
  induction n with
  | zero =>
    intro x3 x1 si sj sa sb hf
    exact absurd hf (by simp [f_Mo_atomic_43])
  | succ n ih =>
    intro x3 x1 si sj sa sb hf H locs ls hP hD hS hl
    unfold f_Mo_atomic_43 at hf
    refine lv_aload_n hx hb d_Mo_atomic_43 rfl (lv_at hl 1 rfl) ?_
    refine mg_63 hx hb hts hown hK hP d_Mo_atomic_44 ?_
    refine lv_iload_n hx hb d_Mo_atomic_47 rfl (lv_at hl 0 rfl) ?_
    obtain ⟨c_5, hf⟩ := it_n hf
    refine ma_63 (v := sb 63 x3.toNatClampNeg) hx hb hK hP c_5 rfl d_Mo_atomic_48 ?_
    refine lv_lload_n hx hb d_Mo_atomic_49 rfl (lv_at hl 2 rfl) ?_
    refine lc_le (tgt := 60) hx hb d_Mo_atomic_50 d_Mo_atomic_51 (by decide) (fun c_6 => ?_) (fun c_6 => ?_)
    · have hf := it_t c_6 hf
      refine lv_iload_n hx hb d_Mo_atomic_60 rfl (lv_at hl 0 rfl) ?_
      refine lv_iconst (v := 1) hx hb d_Mo_atomic_61 (by decide) ?_
      refine lv_iadd hx hb d_Mo_atomic_62 ?_
      refine lv_aload_n hx hb d_Mo_atomic_63 rfl (lv_at hl 1 rfl) ?_
      refine mg_62 (v := si 62) hx hb hts hown hK hP rfl d_Mo_atomic_64 ?_
      refine lv_icmp_ge (tgt := 107) hx hb d_Mo_atomic_67 (by decide) (fun c_7 => ?_) (fun c_7 => ?_)
      · have hf := it_t c_7 hf
        exact k_Mo_atomic_107 C0 hST hA hK hE hf hP hD hS (lv_sub hl [0, 1, 2] rfl)
      · have hf := it_f c_7 hf
        refine lv_lload_n hx hb d_Mo_atomic_70 rfl (lv_at hl 2 rfl) ?_
        refine lv_aload_n hx hb d_Mo_atomic_71 rfl (lv_at hl 1 rfl) ?_
        refine mg_63 hx hb hts hown hK hP d_Mo_atomic_72 ?_
        refine lv_iload_n hx hb d_Mo_atomic_75 rfl (lv_at hl 0 rfl) ?_
        refine lv_iconst (v := 1) hx hb d_Mo_atomic_76 (by decide) ?_
        refine lv_iadd hx hb d_Mo_atomic_77 ?_
        obtain ⟨c_10, hf⟩ := it_n hf
        refine ma_63 (v := sb 63 (x3 + 1).toNatClampNeg) hx hb hK hP c_10 rfl d_Mo_atomic_78 ?_
        refine lv_lconst (v := 1) hx hb d_Mo_atomic_79 (by decide) ?_
        refine lv_lsub hx hb d_Mo_atomic_80 ?_
        refine lc_ne (tgt := 107) hx hb d_Mo_atomic_81 d_Mo_atomic_82 (by decide) (fun c_11 => ?_) (fun c_11 => ?_)
        · have hf := it_f c_11 hf
          exact k_Mo_atomic_107 C0 hST hA hK hE hf hP hD hS (lv_sub hl [0, 1, 2] rfl)
        · have hf := it_t c_11 hf
          refine lv_aload_n hx hb d_Mo_atomic_85 rfl (lv_at hl 1 rfl) ?_
          refine mg_64 hx hb hts hown hK hP d_Mo_atomic_86 ?_
          refine lv_iload_n hx hb d_Mo_atomic_89 rfl (lv_at hl 0 rfl) ?_
          refine lv_iconst (v := 1) hx hb d_Mo_atomic_90 (by decide) ?_
          refine lv_iadd hx hb d_Mo_atomic_91 ?_
          obtain ⟨c_12, hf⟩ := it_n hf
          refine ma_64 (v := sb 64 (x3 + 1).toNatClampNeg) hx hb hK hP c_12 rfl d_Mo_atomic_92 ?_
          refine lv_aload_n hx hb d_Mo_atomic_93 rfl (lv_at hl 1 rfl) ?_
          refine mg_64 hx hb hts hown hK hP d_Mo_atomic_94 ?_
          refine lv_iload_n hx hb d_Mo_atomic_97 rfl (lv_at hl 0 rfl) ?_
          obtain ⟨c_13, hf⟩ := it_n hf
          refine ma_64 (v := sb 64 x3.toNatClampNeg) hx hb hK hP c_13 rfl d_Mo_atomic_98 ?_
          refine lc_ge (tgt := 107) hx hb d_Mo_atomic_99 d_Mo_atomic_100 (by decide) (fun c_14 => ?_) (fun c_14 => ?_)
          · have hf := it_t c_14 hf
            exact k_Mo_atomic_107 C0 hST hA hK hE hf hP hD hS (lv_sub hl [0, 1, 2] rfl)
          · have hf := it_f c_14 hf
            refine lv_iconst (v := 1) hx hb d_Mo_atomic_103 (by decide) ?_
            refine lv_goto (tgt := 108) hx hb d_Mo_atomic_104 (by decide) ?_
            exact k_Mo_atomic_108 C0 hST hA hK hE hf hP hD hS (lv_sub hl [0, 1, 2] rfl)
    · have hf := it_f c_6 hf
      refine lv_iinc (v := x3 + (-1)) (lv' := [(3, .int (x3 + (-1))), (0, .ref h0), (1, .long x1)]) hx hb d_Mo_atomic_54 hl (k := 0) rfl rfl (by decide) rfl (fun ls hl => ?_)
      refine lv_goto (tgt := 43) hx hb d_Mo_atomic_57 (by decide) ?_
      exact ih hf hP hD hS (lv_sub hl [0, 1, 2] rfl)
set_option maxHeartbeats 400000 in
set_option maxRecDepth 100000 in
theorem k_Mo_atomic_0 (C0 : Cx p s m meth c args R b_Mo_atomic "ZoneFilesModel" 5 (some .long) 0 0) (hST : ST A s s.heap) (hA : ∀ q, s.heap.size ≤ q → A q) (hK : va_K (dC, dI) classes (moT cA) s) (hE : ∀ (pc : Nat) (ls : Array Slot) (H : Heap) (locs : List Loc), decode b_Mo_atomic pc = .ok (.lreturn, 1) → va_P (dC, dI) classes (moW h0 r cA vi vj va vb) H → va_D A (moW h0 r cA vi vj va vb) → va_S A s.heap H locs → W p l e R s m args below meth c H locs 0 0 Q (F0 m pc ls [.long r0])) {x1 : Int64} {si : Nat → Int32} {sj : Nat → Int64} {sa : Nat → Nat → Int32} {sb : Nat → Nat → Int64} (hf : f_Mo_atomic_0 nf x1 si sj sa sb = some (r0, vi, vj, va, vb)) {H : Heap} {locs : List Loc} {ls : Array Slot} (hP : va_P (dC, dI) classes (moW h0 r cA si sj sa sb) H) (hD : va_D A (moW h0 r cA si sj sa sb)) (hS : va_S A s.heap H locs) (hl : lv_has ls 5 [(0, .ref h0), (1, .long x1)]) : W p l e R s m args below meth c H locs 0 0 Q (F0 m 0 ls []) := by
  obtain ⟨hx, hb, hr, hml, hown, hts, hlocks, hRf, hRl⟩ := id C0
  unfold f_Mo_atomic_0 at hf
  refine lv_aload_n hx hb d_Mo_atomic_0 rfl (lv_at hl 0 rfl) ?_
  refine lv_iconst (v := 0) hx hb d_Mo_atomic_1 (by decide) ?_
  refine mp_3 hx hb hts hown hK hP hD hS d_Mo_atomic_2 (fun H locs hP hD hS => ?_)
  refine lv_aload_n hx hb d_Mo_atomic_5 rfl (lv_at hl 0 rfl) ?_
  refine mg_61 (v := si 61) hx hb hts hown hK hP rfl d_Mo_atomic_6 ?_
  refine lv_if_eq (tgt := 32) hx hb d_Mo_atomic_9 (by decide) (fun c_1 => ?_) (fun c_1 => ?_)
  · have hf := it_t c_1 hf
    exact k_Mo_atomic_32 C0 hST hA hK hE hf hP hD hS (lv_sub hl [] rfl)
  · have hf := it_f c_1 hf
    refine lv_lload_n hx hb d_Mo_atomic_12 rfl (lv_at hl 1 rfl) ?_
    refine lv_aload_n hx hb d_Mo_atomic_13 rfl (lv_at hl 0 rfl) ?_
    refine mg_63 hx hb hts hown hK hP d_Mo_atomic_14 ?_
    refine lv_iconst (v := 0) hx hb d_Mo_atomic_17 (by decide) ?_
    obtain ⟨c_2, hf⟩ := it_n hf
    refine ma_63 (v := sb 63 (0 : Int32).toNatClampNeg) hx hb hK hP c_2 rfl d_Mo_atomic_18 ?_
    refine lc_lt (tgt := 32) hx hb d_Mo_atomic_19 d_Mo_atomic_20 (by decide) (fun c_3 => ?_) (fun c_3 => ?_)
    · have hf := it_t c_3 hf
      exact k_Mo_atomic_32 C0 hST hA hK hE hf hP hD hS (lv_sub hl [] rfl)
    · have hf := it_f c_3 hf
      refine lv_lload_n hx hb d_Mo_atomic_23 rfl (lv_at hl 1 rfl) ?_
      refine lv_aload_n hx hb d_Mo_atomic_24 rfl (lv_at hl 0 rfl) ?_
      refine mg_65 (v := sj 65) hx hb hts hown hK hP rfl d_Mo_atomic_25 ?_
      refine lc_lt (tgt := 36) hx hb d_Mo_atomic_28 d_Mo_atomic_29 (by decide) (fun c_4 => ?_) (fun c_4 => ?_)
      · have hf := it_t c_4 hf
        refine lv_aload_n hx hb d_Mo_atomic_36 rfl (lv_at hl 0 rfl) ?_
        refine mg_62 (v := si 62) hx hb hts hown hK hP rfl d_Mo_atomic_37 ?_
        refine lv_iconst (v := 1) hx hb d_Mo_atomic_40 (by decide) ?_
        refine lv_isub hx hb d_Mo_atomic_41 ?_
        refine lv_istore_n (lv' := [(3, .int ((si 62) - 1)), (0, .ref h0), (1, .long x1)]) hx hb d_Mo_atomic_42 rfl hl (by decide) rfl (fun ls hl => ?_)
        exact k_Mo_atomic_43 C0 hST hA hK hE nf hf hP hD hS (lv_sub hl [0, 1, 2] rfl)
      · have hf := it_f c_4 hf
        exact k_Mo_atomic_32 C0 hST hA hK hE hf hP hD hS (lv_sub hl [] rfl)
end
set_option maxHeartbeats 400000 in
set_option maxRecDepth 100000 in
theorem c_Mo_atomic (l : Launch) (dC : Nat → ClassId) (dI : Nat → Nat → Nat) (h0 : Nat) (r : Nat → Nat) (cA : Nat → ClassId) (sz : Nat) (nf : Nat) (p0 : Int64) (si : Nat → Int32) (sj : Nat → Int64) (sa : Nat → Nat → Int32) (sb : Nat → Nat → Int64) {r0 : Int64} {vi : Nat → Int32} {vj : Nat → Int64} {va : Nat → Nat → Int32} {vb : Nat → Nat → Int64} (hf : f_Mo_atomic nf p0 si sj sa sb = some (r0, vi, vj, va, vb)) : Met l y_Mo_atomic (wd y_Mo_atomic b_Mo_atomic 5 (some .long)) ({ frames := 0, cells := 0, slots := 0, locals := 0 }) (MU dC dI (moW h0 r cA si sj sa sb) (moT cA) sz [.ref h0, .long p0]) (MV (some (.long r0)) (fun t => va_P (dC, dI) classes (moW h0 r cA vi vj va vb) t.heap) (va_A (moW h0 r cA si sj sa sb) sz)) 0 0 (va_A (moW h0 r cA si sj sa sb) sz) :=
  met_M (plainFor_of_name (by decide)) (Nat.le_of_ble_eq_true rfl) (fun p e R s m args below meth c ls hRc hRs hsz hin C0 hST hK hP hD hl => by
    obtain ⟨hx, hb, hr, hml, hown, hts, hlocks, hRf, hRl⟩ := id C0
    subst hsz
    have hA : ∀ q : Nat, s.heap.size ≤ q → va_A (moW h0 r cA si sj sa sb) s.heap.size q := fun q h => Or.inr h
    have hS : va_S (va_A (moW h0 r cA si sj sa sb) s.heap.size) s.heap s.heap [] := va_S.rf
    unfold f_Mo_atomic at hf
    exact k_Mo_atomic_0 C0 hST hA hK (fun pc ls H locs hd hP hD hS => W.lret hx hb hr (fun t ht hW => ⟨⟨rfl, mo_end ht hP⟩, hS.F ht⟩) hS.2.2 hd) hf hP hD hS (lv_sub hl [0, 1] rfl))
-- ZoneFilesModel.rowOf(J)I
def f_Mo_rowOf_46 (nf : Nat) : Option (Int32) :=
  some (-1)
def f_Mo_rowOf_55 (nf : Nat) (sb : Nat → Nat → Int64) : Nat → Int32 → Int64 → Option (Int32)
  | 0, _, _ => none
  | n + 1, x3, x1 =>
    if x3 < 0 ∨ 60 ≤ x3.toNatClampNeg then none else
    if x3 < 0 ∨ 60 ≤ x3.toNatClampNeg then none else
    if ((sb 63 x3.toNatClampNeg) + (sb 64 x3.toNatClampNeg)) ≤ x1 then
    some x3
    else
    f_Mo_rowOf_55 nf sb n (x3 + (-1)) x1
def f_Mo_rowOf_0 (nf : Nat) (si : Nat → Int32) (sj : Nat → Int64) (sb : Nat → Nat → Int64) (x1 : Int64) : Option (Int32) :=
  if (si 61) = 0 then
  f_Mo_rowOf_46 nf
  else
  if (0 : Int32) < 0 ∨ 60 ≤ (0 : Int32).toNatClampNeg then none else
    if (0 : Int32) < 0 ∨ 60 ≤ (0 : Int32).toNatClampNeg then none else
    if x1 < ((sb 63 (0 : Int32).toNatClampNeg) + (sb 64 (0 : Int32).toNatClampNeg)) then
    f_Mo_rowOf_46 nf
    else
    if ((si 62) - 1) < 0 ∨ 60 ≤ ((si 62) - 1).toNatClampNeg then none else
      if x1 < ((sj 65) + (sb 64 ((si 62) - 1).toNatClampNeg)) then
      f_Mo_rowOf_55 nf sb nf ((si 62) - 1) x1
      else
      f_Mo_rowOf_46 nf
def f_Mo_rowOf (nf : Nat) (p0 : Int64) (si : Nat → Int32) (sj : Nat → Int64) (sa : Nat → Nat → Int32) (sb : Nat → Nat → Int64) : Option (Int32) :=
  f_Mo_rowOf_0 nf si sj sb p0
section
variable {p : Program} {l : Launch} {e : Env} {R : Room} {s : State} {m : MethodId} {args : Array Value} {below : List Frame} {meth : Method} {c : Code} {Q : State → Prop} {dC : Nat → ClassId} {dI : Nat → Nat → Nat} {nf : Nat} {A : Nat → Prop} {h0 : Nat} {r : Nat → Nat} {cA : Nat → ClassId}
variable {si : Nat → Int32} {sj : Nat → Int64} {sa : Nat → Nat → Int32} {sb : Nat → Nat → Int64} {r0 : Int32}
set_option maxHeartbeats 400000 in
set_option maxRecDepth 100000 in
theorem k_Mo_rowOf_46 (C0 : Cx p s m meth c args R b_Mo_rowOf "ZoneFilesModel" 4 (some .int) 0 0) (hST : ST (fun _ => False) s s.heap) (hK : va_K (dC, dI) classes (moT cA) s) (hP : va_P (dC, dI) classes (moW h0 r cA si sj sa sb) s.heap) (hE : ∀ (pc : Nat) (ls : Array Slot), decode b_Mo_rowOf pc = .ok (.ireturn, 1) → narrow .int (.int r0) = .int r0 → W p l e R s m args below meth c s.heap [] 0 0 Q (F0 m pc ls [.int r0])) (hf : f_Mo_rowOf_46 nf = some r0) {ls : Array Slot} (hl : lv_has ls 4 []) : W p l e R s m args below meth c s.heap [] 0 0 Q (F0 m 46 ls []) := by
  obtain ⟨hx, hb, hr, hml, hown, hts, hlocks, hRf, hRl⟩ := id C0
  obtain ⟨tms, hZms, hTms, tmg, hZmg, hTmg, hNW⟩ := id hST
  unfold f_Mo_rowOf_46 at hf
  refine lv_iconst (v := -1) hx hb d_Mo_rowOf_46 (by decide) ?_
  cases rs hf
  exact hE _ _ d_Mo_rowOf_47 rfl
set_option maxHeartbeats 400000 in
set_option maxRecDepth 100000 in
theorem k_Mo_rowOf_55 (C0 : Cx p s m meth c args R b_Mo_rowOf "ZoneFilesModel" 4 (some .int) 0 0) (hST : ST (fun _ => False) s s.heap) (hK : va_K (dC, dI) classes (moT cA) s) (hP : va_P (dC, dI) classes (moW h0 r cA si sj sa sb) s.heap) (hE : ∀ (pc : Nat) (ls : Array Slot), decode b_Mo_rowOf pc = .ok (.ireturn, 1) → narrow .int (.int r0) = .int r0 → W p l e R s m args below meth c s.heap [] 0 0 Q (F0 m pc ls [.int r0])) : ∀ (n : Nat) {x3 : Int32} {x1 : Int64}, f_Mo_rowOf_55 nf sb n x3 x1 = some r0 → ∀ {ls : Array Slot}, lv_has ls 4 [(3, .int x3), (0, .ref h0), (1, .long x1)] → W p l e R s m args below meth c s.heap [] 0 0 Q (F0 m 55 ls []) := by
  obtain ⟨hx, hb, hr, hml, hown, hts, hlocks, hRf, hRl⟩ := id C0
  obtain ⟨tms, hZms, hTms, tmg, hZmg, hTmg, hNW⟩ := id hST
  intro n
  induction n with
  | zero =>
    intro x3 x1 hf
    exact absurd hf (by simp [f_Mo_rowOf_55])
  | succ n ih =>
    intro x3 x1 hf ls hl
    unfold f_Mo_rowOf_55 at hf
    refine lv_aload_n hx hb d_Mo_rowOf_55 rfl (lv_at hl 1 rfl) ?_
    refine mg_63 hx hb hts hown hK hP d_Mo_rowOf_56 ?_
    refine lv_iload_n hx hb d_Mo_rowOf_59 rfl (lv_at hl 0 rfl) ?_
    obtain ⟨c_7, hf⟩ := it_n hf
    refine ma_63 (v := sb 63 x3.toNatClampNeg) hx hb hK hP c_7 rfl d_Mo_rowOf_60 ?_
    refine lv_aload_n hx hb d_Mo_rowOf_61 rfl (lv_at hl 1 rfl) ?_
    refine mg_64 hx hb hts hown hK hP d_Mo_rowOf_62 ?_
    refine lv_iload_n hx hb d_Mo_rowOf_65 rfl (lv_at hl 0 rfl) ?_
    obtain ⟨c_8, hf⟩ := it_n hf
    refine ma_64 (v := sb 64 x3.toNatClampNeg) hx hb hK hP c_8 rfl d_Mo_rowOf_66 ?_
    refine lv_ladd hx hb d_Mo_rowOf_67 ?_
    refine lv_lload_n hx hb d_Mo_rowOf_68 rfl (lv_at hl 2 rfl) ?_
    refine lc_le (tgt := 79) hx hb d_Mo_rowOf_69 d_Mo_rowOf_70 (by decide) (fun c_9 => ?_) (fun c_9 => ?_)
    · have hf := it_t c_9 hf
      refine lv_iload_n hx hb d_Mo_rowOf_79 rfl (lv_at hl 0 rfl) ?_
      cases rs hf
      exact hE _ _ d_Mo_rowOf_80 rfl
    · have hf := it_f c_9 hf
      refine lv_iinc (v := x3 + (-1)) (lv' := [(3, .int (x3 + (-1))), (0, .ref h0), (1, .long x1)]) hx hb d_Mo_rowOf_73 hl (k := 0) rfl rfl (by decide) rfl (fun ls hl => ?_)
      refine lv_goto (tgt := 55) hx hb d_Mo_rowOf_76 (by decide) ?_
      exact ih hf (lv_sub hl [0, 1, 2] rfl)
set_option maxHeartbeats 400000 in
set_option maxRecDepth 100000 in
theorem k_Mo_rowOf_0 (C0 : Cx p s m meth c args R b_Mo_rowOf "ZoneFilesModel" 4 (some .int) 0 0) (hST : ST (fun _ => False) s s.heap) (hK : va_K (dC, dI) classes (moT cA) s) (hP : va_P (dC, dI) classes (moW h0 r cA si sj sa sb) s.heap) (hE : ∀ (pc : Nat) (ls : Array Slot), decode b_Mo_rowOf pc = .ok (.ireturn, 1) → narrow .int (.int r0) = .int r0 → W p l e R s m args below meth c s.heap [] 0 0 Q (F0 m pc ls [.int r0])) {x1 : Int64} (hf : f_Mo_rowOf_0 nf si sj sb x1 = some r0) {ls : Array Slot} (hl : lv_has ls 4 [(0, .ref h0), (1, .long x1)]) : W p l e R s m args below meth c s.heap [] 0 0 Q (F0 m 0 ls []) := by
  obtain ⟨hx, hb, hr, hml, hown, hts, hlocks, hRf, hRl⟩ := id C0
  obtain ⟨tms, hZms, hTms, tmg, hZmg, hTmg, hNW⟩ := id hST
  unfold f_Mo_rowOf_0 at hf
  refine lv_aload_n hx hb d_Mo_rowOf_0 rfl (lv_at hl 0 rfl) ?_
  refine mg_61 (v := si 61) hx hb hts hown hK hP rfl d_Mo_rowOf_1 ?_
  refine lv_if_eq (tgt := 46) hx hb d_Mo_rowOf_4 (by decide) (fun c_1 => ?_) (fun c_1 => ?_)
  · have hf := it_t c_1 hf
    exact k_Mo_rowOf_46 C0 hST hK hP hE hf (lv_sub hl [] rfl)
  · have hf := it_f c_1 hf
    refine lv_lload_n hx hb d_Mo_rowOf_7 rfl (lv_at hl 1 rfl) ?_
    refine lv_aload_n hx hb d_Mo_rowOf_8 rfl (lv_at hl 0 rfl) ?_
    refine mg_63 hx hb hts hown hK hP d_Mo_rowOf_9 ?_
    refine lv_iconst (v := 0) hx hb d_Mo_rowOf_12 (by decide) ?_
    obtain ⟨c_2, hf⟩ := it_n hf
    refine ma_63 (v := sb 63 (0 : Int32).toNatClampNeg) hx hb hK hP c_2 rfl d_Mo_rowOf_13 ?_
    refine lv_aload_n hx hb d_Mo_rowOf_14 rfl (lv_at hl 0 rfl) ?_
    refine mg_64 hx hb hts hown hK hP d_Mo_rowOf_15 ?_
    refine lv_iconst (v := 0) hx hb d_Mo_rowOf_18 (by decide) ?_
    obtain ⟨c_3, hf⟩ := it_n hf
    refine ma_64 (v := sb 64 (0 : Int32).toNatClampNeg) hx hb hK hP c_3 rfl d_Mo_rowOf_19 ?_
    refine lv_ladd hx hb d_Mo_rowOf_20 ?_
    refine lc_lt (tgt := 46) hx hb d_Mo_rowOf_21 d_Mo_rowOf_22 (by decide) (fun c_4 => ?_) (fun c_4 => ?_)
    · have hf := it_t c_4 hf
      exact k_Mo_rowOf_46 C0 hST hK hP hE hf (lv_sub hl [] rfl)
    · have hf := it_f c_4 hf
      refine lv_lload_n hx hb d_Mo_rowOf_25 rfl (lv_at hl 1 rfl) ?_
      refine lv_aload_n hx hb d_Mo_rowOf_26 rfl (lv_at hl 0 rfl) ?_
      refine mg_65 (v := sj 65) hx hb hts hown hK hP rfl d_Mo_rowOf_27 ?_
      refine lv_aload_n hx hb d_Mo_rowOf_30 rfl (lv_at hl 0 rfl) ?_
      refine mg_64 hx hb hts hown hK hP d_Mo_rowOf_31 ?_
      refine lv_aload_n hx hb d_Mo_rowOf_34 rfl (lv_at hl 0 rfl) ?_
      refine mg_62 (v := si 62) hx hb hts hown hK hP rfl d_Mo_rowOf_35 ?_
      refine lv_iconst (v := 1) hx hb d_Mo_rowOf_38 (by decide) ?_
      refine lv_isub hx hb d_Mo_rowOf_39 ?_
      obtain ⟨c_5, hf⟩ := it_n hf
      refine ma_64 (v := sb 64 ((si 62) - 1).toNatClampNeg) hx hb hK hP c_5 rfl d_Mo_rowOf_40 ?_
      refine lv_ladd hx hb d_Mo_rowOf_41 ?_
      refine lc_lt (tgt := 48) hx hb d_Mo_rowOf_42 d_Mo_rowOf_43 (by decide) (fun c_6 => ?_) (fun c_6 => ?_)
      · have hf := it_t c_6 hf
        refine lv_aload_n hx hb d_Mo_rowOf_48 rfl (lv_at hl 0 rfl) ?_
        refine mg_62 (v := si 62) hx hb hts hown hK hP rfl d_Mo_rowOf_49 ?_
        refine lv_iconst (v := 1) hx hb d_Mo_rowOf_52 (by decide) ?_
        refine lv_isub hx hb d_Mo_rowOf_53 ?_
        refine lv_istore_n (lv' := [(3, .int ((si 62) - 1)), (0, .ref h0), (1, .long x1)]) hx hb d_Mo_rowOf_54 rfl hl (by decide) rfl (fun ls hl => ?_)
        exact k_Mo_rowOf_55 C0 hST hK hP hE nf hf (lv_sub hl [0, 1, 2] rfl)
      · have hf := it_f c_6 hf
        exact k_Mo_rowOf_46 C0 hST hK hP hE hf (lv_sub hl [] rfl)
end
set_option maxHeartbeats 400000 in
set_option maxRecDepth 100000 in
theorem c_Mo_rowOf (l : Launch) (dC : Nat → ClassId) (dI : Nat → Nat → Nat) (h0 : Nat) (r : Nat → Nat) (cA : Nat → ClassId) (nf : Nat) (p0 : Int64) (si : Nat → Int32) (sj : Nat → Int64) (sa : Nat → Nat → Int32) (sb : Nat → Nat → Int64) {r0 : Int32} (hf : f_Mo_rowOf nf p0 si sj sa sb = some r0) : Met l y_Mo_rowOf (wd y_Mo_rowOf b_Mo_rowOf 4 (some .int)) ({ frames := 0, cells := 0, slots := 0, locals := 0 }) (RO dC dI (moW h0 r cA si sj sa sb) (moT cA) [.ref h0, .long p0]) (SV (some (.int r0))) 0 0 (fun _ => False) :=
  met_S (plainFor_of_name (by decide)) (Nat.le_of_ble_eq_true rfl) (fun p e R s m args below meth c ls C0 hST hK hP hl => by
    obtain ⟨hx, hb, hr, hml, hown, hts, hlocks, hRf, hRl⟩ := id C0
    unfold f_Mo_rowOf at hf
    exact k_Mo_rowOf_0 C0 hST hK hP (fun pc ls hd hn => W.zret hx hb hr hn (fun t ht hW => ⟨rfl, ht⟩) (fun q h => by cases h) hd) hf (lv_sub hl [0, 1] rfl))
-- ZoneFilesModel.isLeap(J)Z
def f_Mo_isLeap_50 (nf : Nat) (s0 : Int32) (si : Nat → Int32) (sj : Nat → Int64) (sa : Nat → Nat → Int32) (sb : Nat → Nat → Int64) : Option (Int32 × (Nat → Int32) × (Nat → Int64) × (Nat → Nat → Int32) × (Nat → Nat → Int64)) :=
  if s0 = 0 ∨ s0 = 1 then some (s0, si, sj, sa, sb) else none
def f_Mo_isLeap_49 (nf : Nat) (si : Nat → Int32) (sj : Nat → Int64) (sa : Nat → Nat → Int32) (sb : Nat → Nat → Int64) : Option (Int32 × (Nat → Int32) × (Nat → Int64) × (Nat → Nat → Int32) × (Nat → Nat → Int64)) :=
  f_Mo_isLeap_50 nf 0 si sj sa sb
def f_Mo_isLeap_0 (nf : Nat) (x1 : Int64) (si : Nat → Int32) (sj : Nat → Int64) (sa : Nat → Nat → Int32) (sb : Nat → Nat → Int64) : Option (Int32 × (Nat → Int32) × (Nat → Int64) × (Nat → Nat → Int32) × (Nat → Nat → Int64)) :=
  (f_Mo_rowOf nf x1 (va_up si 3 0) sj sa sb).bind fun r_1 =>
  if r_1 < 0 then
  f_Mo_isLeap_49 nf (va_up si 3 0) sj sa sb
  else
  if (si 62) ≤ (r_1 + 1) then
    f_Mo_isLeap_49 nf (va_up si 3 0) sj sa sb
    else
    if r_1 < 0 ∨ 60 ≤ r_1.toNatClampNeg then none else
      if (r_1 + 1) < 0 ∨ 60 ≤ (r_1 + 1).toNatClampNeg then none else
      if (x1 - (sb 64 r_1.toNatClampNeg)) < (sb 63 (r_1 + 1).toNatClampNeg) then
      f_Mo_isLeap_49 nf (va_up si 3 0) sj sa sb
      else
      f_Mo_isLeap_50 nf 1 (va_up si 3 0) sj sa sb
def f_Mo_isLeap (nf : Nat) (p0 : Int64) (si : Nat → Int32) (sj : Nat → Int64) (sa : Nat → Nat → Int32) (sb : Nat → Nat → Int64) : Option (Int32 × (Nat → Int32) × (Nat → Int64) × (Nat → Nat → Int32) × (Nat → Nat → Int64)) :=
  f_Mo_isLeap_0 nf p0 si sj sa sb
section
variable {p : Program} {l : Launch} {e : Env} {R : Room} {s : State} {m : MethodId} {args : Array Value} {below : List Frame} {meth : Method} {c : Code} {Q : State → Prop} {dC : Nat → ClassId} {dI : Nat → Nat → Nat} {nf : Nat} {A : Nat → Prop} {h0 : Nat} {r : Nat → Nat} {cA : Nat → ClassId}
variable {r0 : Int32} {vi : Nat → Int32} {vj : Nat → Int64} {va : Nat → Nat → Int32} {vb : Nat → Nat → Int64}
set_option maxHeartbeats 400000 in
set_option maxRecDepth 100000 in
theorem k_Mo_isLeap_50 (C0 : Cx p s m meth c args R b_Mo_isLeap "ZoneFilesModel" 4 (some .boolean) 1 23) (hST : ST A s s.heap) (hA : ∀ q, s.heap.size ≤ q → A q) (hK : va_K (dC, dI) classes (moT cA) s) (hE : ∀ (pc : Nat) (ls : Array Slot) (H : Heap) (locs : List Loc), decode b_Mo_isLeap pc = .ok (.ireturn, 1) → narrow .boolean (.int r0) = .int r0 → va_P (dC, dI) classes (moW h0 r cA vi vj va vb) H → va_D A (moW h0 r cA vi vj va vb) → va_S A s.heap H locs → W p l e R s m args below meth c H locs 0 0 Q (F0 m pc ls [.int r0])) {s0 : Int32} {si : Nat → Int32} {sj : Nat → Int64} {sa : Nat → Nat → Int32} {sb : Nat → Nat → Int64} (hf : f_Mo_isLeap_50 nf s0 si sj sa sb = some (r0, vi, vj, va, vb)) {H : Heap} {locs : List Loc} {ls : Array Slot} (hP : va_P (dC, dI) classes (moW h0 r cA si sj sa sb) H) (hD : va_D A (moW h0 r cA si sj sa sb)) (hS : va_S A s.heap H locs) (hl : lv_has ls 4 []) : W p l e R s m args below meth c H locs 0 0 Q (F0 m 50 ls [.int s0]) := by
  obtain ⟨hx, hb, hr, hml, hown, hts, hlocks, hRf, hRl⟩ := id C0
  unfold f_Mo_isLeap_50 at hf
  obtain ⟨c_3, hf⟩ := it_g hf
  cases rs hf
  exact hE _ _ _ _ d_Mo_isLeap_50 (nb_of c_3) hP hD hS
set_option maxHeartbeats 400000 in
set_option maxRecDepth 100000 in
theorem k_Mo_isLeap_49 (C0 : Cx p s m meth c args R b_Mo_isLeap "ZoneFilesModel" 4 (some .boolean) 1 23) (hST : ST A s s.heap) (hA : ∀ q, s.heap.size ≤ q → A q) (hK : va_K (dC, dI) classes (moT cA) s) (hE : ∀ (pc : Nat) (ls : Array Slot) (H : Heap) (locs : List Loc), decode b_Mo_isLeap pc = .ok (.ireturn, 1) → narrow .boolean (.int r0) = .int r0 → va_P (dC, dI) classes (moW h0 r cA vi vj va vb) H → va_D A (moW h0 r cA vi vj va vb) → va_S A s.heap H locs → W p l e R s m args below meth c H locs 0 0 Q (F0 m pc ls [.int r0])) {si : Nat → Int32} {sj : Nat → Int64} {sa : Nat → Nat → Int32} {sb : Nat → Nat → Int64} (hf : f_Mo_isLeap_49 nf si sj sa sb = some (r0, vi, vj, va, vb)) {H : Heap} {locs : List Loc} {ls : Array Slot} (hP : va_P (dC, dI) classes (moW h0 r cA si sj sa sb) H) (hD : va_D A (moW h0 r cA si sj sa sb)) (hS : va_S A s.heap H locs) (hl : lv_has ls 4 []) : W p l e R s m args below meth c H locs 0 0 Q (F0 m 49 ls []) := by
  obtain ⟨hx, hb, hr, hml, hown, hts, hlocks, hRf, hRl⟩ := id C0
  unfold f_Mo_isLeap_49 at hf
  refine lv_iconst (v := 0) hx hb d_Mo_isLeap_49 (by decide) ?_
  exact k_Mo_isLeap_50 C0 hST hA hK hE hf hP hD hS (lv_sub hl [] rfl)
set_option maxHeartbeats 400000 in
set_option maxRecDepth 100000 in
theorem k_Mo_isLeap_0 (C0 : Cx p s m meth c args R b_Mo_isLeap "ZoneFilesModel" 4 (some .boolean) 1 23) (hST : ST A s s.heap) (hA : ∀ q, s.heap.size ≤ q → A q) (hK : va_K (dC, dI) classes (moT cA) s) (hE : ∀ (pc : Nat) (ls : Array Slot) (H : Heap) (locs : List Loc), decode b_Mo_isLeap pc = .ok (.ireturn, 1) → narrow .boolean (.int r0) = .int r0 → va_P (dC, dI) classes (moW h0 r cA vi vj va vb) H → va_D A (moW h0 r cA vi vj va vb) → va_S A s.heap H locs → W p l e R s m args below meth c H locs 0 0 Q (F0 m pc ls [.int r0])) {x1 : Int64} {si : Nat → Int32} {sj : Nat → Int64} {sa : Nat → Nat → Int32} {sb : Nat → Nat → Int64} (hf : f_Mo_isLeap_0 nf x1 si sj sa sb = some (r0, vi, vj, va, vb)) {H : Heap} {locs : List Loc} {ls : Array Slot} (hP : va_P (dC, dI) classes (moW h0 r cA si sj sa sb) H) (hD : va_D A (moW h0 r cA si sj sa sb)) (hS : va_S A s.heap H locs) (hl : lv_has ls 4 [(0, .ref h0), (1, .long x1)]) : W p l e R s m args below meth c H locs 0 0 Q (F0 m 0 ls []) := by
  obtain ⟨hx, hb, hr, hml, hown, hts, hlocks, hRf, hRl⟩ := id C0
  unfold f_Mo_isLeap_0 at hf
  refine lv_aload_n hx hb d_Mo_isLeap_0 rfl (lv_at hl 0 rfl) ?_
  refine lv_iconst (v := 0) hx hb d_Mo_isLeap_1 (by decide) ?_
  refine mp_3 hx hb hts hown hK hP hD hS d_Mo_isLeap_2 (fun H locs hP hD hS => ?_)
  refine lv_aload_n hx hb d_Mo_isLeap_5 rfl (lv_at hl 0 rfl) ?_
  refine lv_lload_n hx hb d_Mo_isLeap_6 rfl (lv_at hl 1 rfl) ?_
  obtain ⟨r_1, hc, hf⟩ := ob hf
  refine cl_S (v := (some (.int r_1))) (st1 := [.int r_1]) (va_runV (As := [.long x1]) (rest := []) ⟨hx, hb, hml, hown, hts⟩ (c_Mo_rowOf l dC dI h0 r cA nf x1 (va_up si 3 0) sj sa sb hc) (cwV 1 hts (gdV m_8_226 m_8_228 msel_105 m_1_10 m_8_229) rfl rfl rfl (by decide +kernel) ⟨Nat.le_trans (Nat.le_of_ble_eq_true rfl) hRf, Nat.le_trans (Nat.le_of_ble_eq_true rfl) hRl⟩) ((RO.pre hP hK (hST.ro hS)).vir (va_recv hK hP (ci := 10) (q0 := 0) rfl rfl)) rfl rfl hl.1 rfl (lv_room (Nat.le_of_ble_eq_true rfl)) d_Mo_isLeap_7 ⟨Nat.zero_le _, Nat.zero_le _⟩) rfl ?_
  refine lv_istore_n (lv' := [(3, .int r_1), (0, .ref h0), (1, .long x1)]) hx hb d_Mo_isLeap_10 rfl hl (by decide) rfl (fun ls hl => ?_)
  refine lv_iload_n hx hb d_Mo_isLeap_11 rfl (lv_at hl 0 rfl) ?_
  refine lv_if_lt (tgt := 49) hx hb d_Mo_isLeap_12 (by decide) (fun c_2 => ?_) (fun c_2 => ?_)
  · have hf := it_t c_2 hf
    exact k_Mo_isLeap_49 C0 hST hA hK hE hf hP hD hS (lv_sub hl [] rfl)
  · have hf := it_f c_2 hf
    refine lv_iload_n hx hb d_Mo_isLeap_15 rfl (lv_at hl 0 rfl) ?_
    refine lv_iconst (v := 1) hx hb d_Mo_isLeap_16 (by decide) ?_
    refine lv_iadd hx hb d_Mo_isLeap_17 ?_
    refine lv_aload_n hx hb d_Mo_isLeap_18 rfl (lv_at hl 1 rfl) ?_
    refine mg_62 (v := si 62) hx hb hts hown hK hP rfl d_Mo_isLeap_19 ?_
    refine lv_icmp_ge (tgt := 49) hx hb d_Mo_isLeap_22 (by decide) (fun c_4 => ?_) (fun c_4 => ?_)
    · have hf := it_t c_4 hf
      exact k_Mo_isLeap_49 C0 hST hA hK hE hf hP hD hS (lv_sub hl [] rfl)
    · have hf := it_f c_4 hf
      refine lv_lload_n hx hb d_Mo_isLeap_25 rfl (lv_at hl 2 rfl) ?_
      refine lv_aload_n hx hb d_Mo_isLeap_26 rfl (lv_at hl 1 rfl) ?_
      refine mg_64 hx hb hts hown hK hP d_Mo_isLeap_27 ?_
      refine lv_iload_n hx hb d_Mo_isLeap_30 rfl (lv_at hl 0 rfl) ?_
      obtain ⟨c_5, hf⟩ := it_n hf
      refine ma_64 (v := sb 64 r_1.toNatClampNeg) hx hb hK hP c_5 rfl d_Mo_isLeap_31 ?_
      refine lv_lsub hx hb d_Mo_isLeap_32 ?_
      refine lv_aload_n hx hb d_Mo_isLeap_33 rfl (lv_at hl 1 rfl) ?_
      refine mg_63 hx hb hts hown hK hP d_Mo_isLeap_34 ?_
      refine lv_iload_n hx hb d_Mo_isLeap_37 rfl (lv_at hl 0 rfl) ?_
      refine lv_iconst (v := 1) hx hb d_Mo_isLeap_38 (by decide) ?_
      refine lv_iadd hx hb d_Mo_isLeap_39 ?_
      obtain ⟨c_6, hf⟩ := it_n hf
      refine ma_63 (v := sb 63 (r_1 + 1).toNatClampNeg) hx hb hK hP c_6 rfl d_Mo_isLeap_40 ?_
      refine lc_lt (tgt := 49) hx hb d_Mo_isLeap_41 d_Mo_isLeap_42 (by decide) (fun c_7 => ?_) (fun c_7 => ?_)
      · have hf := it_t c_7 hf
        exact k_Mo_isLeap_49 C0 hST hA hK hE hf hP hD hS (lv_sub hl [] rfl)
      · have hf := it_f c_7 hf
        refine lv_iconst (v := 1) hx hb d_Mo_isLeap_45 (by decide) ?_
        refine lv_goto (tgt := 50) hx hb d_Mo_isLeap_46 (by decide) ?_
        exact k_Mo_isLeap_50 C0 hST hA hK hE hf hP hD hS (lv_sub hl [] rfl)
end
set_option maxHeartbeats 400000 in
set_option maxRecDepth 100000 in
theorem c_Mo_isLeap (l : Launch) (dC : Nat → ClassId) (dI : Nat → Nat → Nat) (h0 : Nat) (r : Nat → Nat) (cA : Nat → ClassId) (sz : Nat) (nf : Nat) (p0 : Int64) (si : Nat → Int32) (sj : Nat → Int64) (sa : Nat → Nat → Int32) (sb : Nat → Nat → Int64) {r0 : Int32} {vi : Nat → Int32} {vj : Nat → Int64} {va : Nat → Nat → Int32} {vb : Nat → Nat → Int64} (hf : f_Mo_isLeap nf p0 si sj sa sb = some (r0, vi, vj, va, vb)) : Met l y_Mo_isLeap (wd y_Mo_isLeap b_Mo_isLeap 4 (some .boolean)) ({ frames := 1, cells := 0, slots := 0, locals := 23 }) (MU dC dI (moW h0 r cA si sj sa sb) (moT cA) sz [.ref h0, .long p0]) (MV (some (.int r0)) (fun t => va_P (dC, dI) classes (moW h0 r cA vi vj va vb) t.heap) (va_A (moW h0 r cA si sj sa sb) sz)) 0 0 (va_A (moW h0 r cA si sj sa sb) sz) :=
  met_M (plainFor_of_name (by decide)) (Nat.le_of_ble_eq_true rfl) (fun p e R s m args below meth c ls hRc hRs hsz hin C0 hST hK hP hD hl => by
    obtain ⟨hx, hb, hr, hml, hown, hts, hlocks, hRf, hRl⟩ := id C0
    subst hsz
    have hA : ∀ q : Nat, s.heap.size ≤ q → va_A (moW h0 r cA si sj sa sb) s.heap.size q := fun q h => Or.inr h
    have hS : va_S (va_A (moW h0 r cA si sj sa sb) s.heap.size) s.heap s.heap [] := va_S.rf
    unfold f_Mo_isLeap at hf
    exact k_Mo_isLeap_0 C0 hST hA hK (fun pc ls H locs hd hn hP hD hS => W.zret hx hb hr hn (fun t ht hW => ⟨⟨rfl, mo_end ht hP⟩, hS.F ht⟩) hS.2.2 hd) hf hP hD hS (lv_sub hl [0, 1] rfl))
