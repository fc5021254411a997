theorem m_1_21 : Cond.initialized "ZoneFiles$EdgeWalk" ∈ T0 := tb_1 21 rfl rfl
theorem m_1_42 : Cond.fieldLink "ZoneFiles$Rule" 62 "ZoneFiles$Bytes" "size" "I" ∈ T0 := tb_1 42 rfl rfl
theorem m_1_101 : Cond.fieldLink "ZoneFiles$Rule" 14 "ZoneFiles$Rule" "text" "LZoneFiles$Bytes;" ∈ T0 := tb_1 101 rfl rfl
theorem m_1_107 : Cond.fieldLink "ZoneFiles$Rule" 23 "ZoneFiles$Rule" "begin" "LZoneFiles$Edge;" ∈ T0 := tb_1 107 rfl rfl
theorem m_1_110 : Cond.fieldLink "ZoneFiles$Rule" 27 "ZoneFiles$Rule" "end" "LZoneFiles$Edge;" ∈ T0 := tb_1 110 rfl rfl
theorem m_1_112 : Cond.fieldLink "ZoneFiles$Rule" 33 "ZoneFiles$Rule" "hasSummer" "Z" ∈ T0 := tb_1 112 rfl rfl
theorem m_1_116 : Cond.fieldLink "ZoneFiles$Rule" 37 "ZoneFiles$Rule" "needsWide" "Z" ∈ T0 := tb_1 116 rfl rfl
theorem m_1_119 : Cond.fieldLink "ZoneFiles$Rule" 40 "ZoneFiles$Rule" "standardOffset" "I" ∈ T0 := tb_1 119 rfl rfl
theorem m_1_122 : Cond.fieldLink "ZoneFiles$Rule" 44 "ZoneFiles$Rule" "summerOffset" "I" ∈ T0 := tb_1 122 rfl rfl
theorem m_1_125 : Cond.fieldLink "ZoneFiles$Rule" 47 "ZoneFiles$Rule" "standardNamePlace" "I" ∈ T0 := tb_1 125 rfl rfl
theorem m_1_128 : Cond.fieldLink "ZoneFiles$Rule" 50 "ZoneFiles$Rule" "standardNameSize" "I" ∈ T0 := tb_1 128 rfl rfl
theorem m_1_131 : Cond.fieldLink "ZoneFiles$Rule" 53 "ZoneFiles$Rule" "summerNamePlace" "I" ∈ T0 := tb_1 131 rfl rfl
theorem m_1_134 : Cond.fieldLink "ZoneFiles$Rule" 56 "ZoneFiles$Rule" "summerNameSize" "I" ∈ T0 := tb_1 134 rfl rfl
theorem m_1_137 : Cond.fieldLink "ZoneFiles$Rule" 59 "ZoneFiles$Rule" "neverChanges" "Z" ∈ T0 := tb_1 137 rfl rfl
theorem m_2_33 : Cond.methodLink "ZoneFiles$Rule" 30 ⟨"ZoneFiles$Bytes", "clear", "()V"⟩ ∈ T0 := tb_2 33 rfl rfl
theorem m_2_34 : Cond.instanceMethod ⟨"ZoneFiles$Bytes", "clear", "()V"⟩ ∈ T0 := tb_2 34 rfl rfl
theorem m_2_35 : Cond.selects "ZoneFiles$Bytes" ⟨"ZoneFiles$Bytes", "clear", "()V"⟩ ⟨"ZoneFiles$Bytes", "clear", "()V"⟩ ∈ T0 := tb_2 35 rfl rfl
theorem m_2_36 : Cond.code ⟨"ZoneFiles$Bytes", "clear", "()V"⟩ prog_2_method_2_code 1 none ∈ T0 := tb_2 36 rfl rfl
theorem m_4_154 : Cond.methodLink "ZoneFiles$Rule" 65 ⟨"ZoneFiles$Edge", "lastYear", "(J)J"⟩ ∈ T0 := tb_4 154 rfl rfl
theorem m_4_199 : Cond.methodLink "ZoneFiles$Rule" 69 ⟨"ZoneFiles$Edge", "momentIn", "(J)J"⟩ ∈ T0 := tb_4 199 rfl rfl
theorem m_5_154 : Cond.constantLong "ZoneFiles$Rule" 72 (-9223372036854775808) ∈ T0 := tb_5 154 rfl rfl
theorem m_5_155 : Cond.classLink "ZoneFiles$Rule" 74 "ZoneFiles$EdgeWalk" ∈ T0 := tb_5 155 rfl rfl
theorem m_5_156 : Cond.instantiable "ZoneFiles$EdgeWalk" 5 ∈ T0 := tb_5 156 rfl rfl
theorem m_5_157 : Cond.methodLink "ZoneFiles$Rule" 76 ⟨"ZoneFiles$EdgeWalk", "<init>", "(LZoneFiles$Rule;J)V"⟩ ∈ T0 := tb_5 157 rfl rfl
theorem m_5_158 : Cond.instanceMethod ⟨"ZoneFiles$EdgeWalk", "<init>", "(LZoneFiles$Rule;J)V"⟩ ∈ T0 := tb_5 158 rfl rfl
theorem m_5_159 : Cond.code ⟨"ZoneFiles$EdgeWalk", "<init>", "(LZoneFiles$Rule;J)V"⟩ prog_5_method_1_code 4 none ∈ T0 := tb_5 159 rfl rfl
theorem m_5_179 : Cond.methodLink "ZoneFiles$Rule" 79 ⟨"ZoneFiles$EdgeWalk", "isSummer", "()Z"⟩ ∈ T0 := tb_5 179 rfl rfl
theorem m_5_180 : Cond.instanceMethod ⟨"ZoneFiles$EdgeWalk", "isSummer", "()Z"⟩ ∈ T0 := tb_5 180 rfl rfl
theorem m_5_181 : Cond.selects "ZoneFiles$EdgeWalk" ⟨"ZoneFiles$EdgeWalk", "isSummer", "()Z"⟩ ⟨"ZoneFiles$EdgeWalk", "isSummer", "()Z"⟩ ∈ T0 := tb_5 181 rfl rfl
theorem m_5_182 : Cond.code ⟨"ZoneFiles$EdgeWalk", "isSummer", "()Z"⟩ prog_5_method_2_code 1 (some .boolean) ∈ T0 := tb_5 182 rfl rfl
theorem m_5_183 : Cond.methodLink "ZoneFiles$Rule" 83 ⟨"ZoneFiles$EdgeWalk", "goForward", "()V"⟩ ∈ T0 := tb_5 183 rfl rfl
theorem m_5_184 : Cond.instanceMethod ⟨"ZoneFiles$EdgeWalk", "goForward", "()V"⟩ ∈ T0 := tb_5 184 rfl rfl
theorem m_5_185 : Cond.selects "ZoneFiles$EdgeWalk" ⟨"ZoneFiles$EdgeWalk", "goForward", "()V"⟩ ⟨"ZoneFiles$EdgeWalk", "goForward", "()V"⟩ ∈ T0 := tb_5 185 rfl rfl
theorem m_5_186 : Cond.code ⟨"ZoneFiles$EdgeWalk", "goForward", "()V"⟩ prog_5_method_4_code 5 none ∈ T0 := tb_5 186 rfl rfl
theorem m_5_187 : Cond.methodLink "ZoneFiles$Rule" 86 ⟨"ZoneFiles$EdgeWalk", "moment", "()J"⟩ ∈ T0 := tb_5 187 rfl rfl
theorem m_5_188 : Cond.instanceMethod ⟨"ZoneFiles$EdgeWalk", "moment", "()J"⟩ ∈ T0 := tb_5 188 rfl rfl
theorem m_5_189 : Cond.selects "ZoneFiles$EdgeWalk" ⟨"ZoneFiles$EdgeWalk", "moment", "()J"⟩ ⟨"ZoneFiles$EdgeWalk", "moment", "()J"⟩ ∈ T0 := tb_5 189 rfl rfl
theorem m_5_190 : Cond.code ⟨"ZoneFiles$EdgeWalk", "moment", "()J"⟩ prog_5_method_3_code 1 (some .long) ∈ T0 := tb_5 190 rfl rfl
theorem m_5_192 : Cond.constantLong "ZoneFiles$Rule" 90 1152921504606846975 ∈ T0 := tb_5 192 rfl rfl
theorem m_5_208 : Cond.methodLink "ZoneFiles$Rule" 92 ⟨"ZoneFiles$EdgeWalk", "goBack", "()V"⟩ ∈ T0 := tb_5 208 rfl rfl
theorem m_5_209 : Cond.instanceMethod ⟨"ZoneFiles$EdgeWalk", "goBack", "()V"⟩ ∈ T0 := tb_5 209 rfl rfl
theorem m_5_210 : Cond.selects "ZoneFiles$EdgeWalk" ⟨"ZoneFiles$EdgeWalk", "goBack", "()V"⟩ ⟨"ZoneFiles$EdgeWalk", "goBack", "()V"⟩ ∈ T0 := tb_5 210 rfl rfl
theorem m_5_211 : Cond.code ⟨"ZoneFiles$EdgeWalk", "goBack", "()V"⟩ prog_5_method_5_code 3 none ∈ T0 := tb_5 211 rfl rfl
abbrev b_Rule_clear : ByteArray := prog_9_method_2_code
def y_Rule_clear : MethodName := ⟨"ZoneFiles$Rule", "clear", "()V"⟩
theorem d_Rule_clear_0 : decode b_Rule_clear 0 = .ok (.aload_n 0, 1) := by decide +kernel
theorem d_Rule_clear_1 : decode b_Rule_clear 1 = .ok (.getfield 14, 3) := by decide +kernel
theorem d_Rule_clear_4 : decode b_Rule_clear 4 = .ok (.invokevirtual 30, 3) := by decide +kernel
theorem d_Rule_clear_7 : decode b_Rule_clear 7 = .ok (.aload_n 0, 1) := by decide +kernel
theorem d_Rule_clear_8 : decode b_Rule_clear 8 = .ok (.iconst 0, 1) := by decide +kernel
theorem d_Rule_clear_9 : decode b_Rule_clear 9 = .ok (.putfield 33, 3) := by decide +kernel
theorem d_Rule_clear_12 : decode b_Rule_clear 12 = .ok (.aload_n 0, 1) := by decide +kernel
theorem d_Rule_clear_13 : decode b_Rule_clear 13 = .ok (.iconst 0, 1) := by decide +kernel
theorem d_Rule_clear_14 : decode b_Rule_clear 14 = .ok (.putfield 37, 3) := by decide +kernel
theorem d_Rule_clear_17 : decode b_Rule_clear 17 = .ok (.aload_n 0, 1) := by decide +kernel
theorem d_Rule_clear_18 : decode b_Rule_clear 18 = .ok (.iconst 0, 1) := by decide +kernel
theorem d_Rule_clear_19 : decode b_Rule_clear 19 = .ok (.putfield 40, 3) := by decide +kernel
theorem d_Rule_clear_22 : decode b_Rule_clear 22 = .ok (.aload_n 0, 1) := by decide +kernel
theorem d_Rule_clear_23 : decode b_Rule_clear 23 = .ok (.iconst 0, 1) := by decide +kernel
theorem d_Rule_clear_24 : decode b_Rule_clear 24 = .ok (.putfield 44, 3) := by decide +kernel
theorem d_Rule_clear_27 : decode b_Rule_clear 27 = .ok (.aload_n 0, 1) := by decide +kernel
theorem d_Rule_clear_28 : decode b_Rule_clear 28 = .ok (.iconst 0, 1) := by decide +kernel
theorem d_Rule_clear_29 : decode b_Rule_clear 29 = .ok (.putfield 47, 3) := by decide +kernel
theorem d_Rule_clear_32 : decode b_Rule_clear 32 = .ok (.aload_n 0, 1) := by decide +kernel
theorem d_Rule_clear_33 : decode b_Rule_clear 33 = .ok (.iconst 0, 1) := by decide +kernel
theorem d_Rule_clear_34 : decode b_Rule_clear 34 = .ok (.putfield 50, 3) := by decide +kernel
theorem d_Rule_clear_37 : decode b_Rule_clear 37 = .ok (.aload_n 0, 1) := by decide +kernel
theorem d_Rule_clear_38 : decode b_Rule_clear 38 = .ok (.iconst 0, 1) := by decide +kernel
theorem d_Rule_clear_39 : decode b_Rule_clear 39 = .ok (.putfield 53, 3) := by decide +kernel
theorem d_Rule_clear_42 : decode b_Rule_clear 42 = .ok (.aload_n 0, 1) := by decide +kernel
theorem d_Rule_clear_43 : decode b_Rule_clear 43 = .ok (.iconst 0, 1) := by decide +kernel
theorem d_Rule_clear_44 : decode b_Rule_clear 44 = .ok (.putfield 56, 3) := by decide +kernel
theorem d_Rule_clear_47 : decode b_Rule_clear 47 = .ok (.aload_n 0, 1) := by decide +kernel
theorem d_Rule_clear_48 : decode b_Rule_clear 48 = .ok (.iconst 0, 1) := by decide +kernel
theorem d_Rule_clear_49 : decode b_Rule_clear 49 = .ok (.putfield 59, 3) := by decide +kernel
theorem d_Rule_clear_52 : decode b_Rule_clear 52 = .ok (.return_, 1) := by decide +kernel
abbrev b_Rule_isThere : ByteArray := prog_9_method_3_code
def y_Rule_isThere : MethodName := ⟨"ZoneFiles$Rule", "isThere", "()Z"⟩
theorem d_Rule_isThere_0 : decode b_Rule_isThere 0 = .ok (.aload_n 0, 1) := by decide +kernel
theorem d_Rule_isThere_1 : decode b_Rule_isThere 1 = .ok (.getfield 14, 3) := by decide +kernel
theorem d_Rule_isThere_4 : decode b_Rule_isThere 4 = .ok (.getfield 62, 3) := by decide +kernel
theorem d_Rule_isThere_7 : decode b_Rule_isThere 7 = .ok (.ifCond .le 7, 3) := by decide +kernel
theorem d_Rule_isThere_10 : decode b_Rule_isThere 10 = .ok (.iconst 1, 1) := by decide +kernel
theorem d_Rule_isThere_11 : decode b_Rule_isThere 11 = .ok (.goto 4, 3) := by decide +kernel
theorem d_Rule_isThere_14 : decode b_Rule_isThere 14 = .ok (.iconst 0, 1) := by decide +kernel
theorem d_Rule_isThere_15 : decode b_Rule_isThere 15 = .ok (.ireturn, 1) := by decide +kernel
abbrev b_Rule_isSummerAt : ByteArray := prog_9_method_4_code
def y_Rule_isSummerAt : MethodName := ⟨"ZoneFiles$Rule", "isSummerAt", "(J)Z"⟩
theorem d_Rule_isSummerAt_0 : decode b_Rule_isSummerAt 0 = .ok (.aload_n 0, 1) := by decide +kernel
theorem d_Rule_isSummerAt_1 : decode b_Rule_isSummerAt 1 = .ok (.getfield 33, 3) := by decide +kernel
theorem d_Rule_isSummerAt_4 : decode b_Rule_isSummerAt 4 = .ok (.ifCond .eq 41, 3) := by decide +kernel
theorem d_Rule_isSummerAt_7 : decode b_Rule_isSummerAt 7 = .ok (.aload_n 0, 1) := by decide +kernel
theorem d_Rule_isSummerAt_8 : decode b_Rule_isSummerAt 8 = .ok (.getfield 23, 3) := by decide +kernel
theorem d_Rule_isSummerAt_11 : decode b_Rule_isSummerAt 11 = .ok (.aload_n 0, 1) := by decide +kernel
theorem d_Rule_isSummerAt_12 : decode b_Rule_isSummerAt 12 = .ok (.getfield 23, 3) := by decide +kernel
theorem d_Rule_isSummerAt_15 : decode b_Rule_isSummerAt 15 = .ok (.lload_n 1, 1) := by decide +kernel
theorem d_Rule_isSummerAt_16 : decode b_Rule_isSummerAt 16 = .ok (.invokevirtual 65, 3) := by decide +kernel
theorem d_Rule_isSummerAt_19 : decode b_Rule_isSummerAt 19 = .ok (.invokevirtual 69, 3) := by decide +kernel
theorem d_Rule_isSummerAt_22 : decode b_Rule_isSummerAt 22 = .ok (.aload_n 0, 1) := by decide +kernel
theorem d_Rule_isSummerAt_23 : decode b_Rule_isSummerAt 23 = .ok (.getfield 27, 3) := by decide +kernel
theorem d_Rule_isSummerAt_26 : decode b_Rule_isSummerAt 26 = .ok (.aload_n 0, 1) := by decide +kernel
theorem d_Rule_isSummerAt_27 : decode b_Rule_isSummerAt 27 = .ok (.getfield 27, 3) := by decide +kernel
theorem d_Rule_isSummerAt_30 : decode b_Rule_isSummerAt 30 = .ok (.lload_n 1, 1) := by decide +kernel
theorem d_Rule_isSummerAt_31 : decode b_Rule_isSummerAt 31 = .ok (.invokevirtual 65, 3) := by decide +kernel
theorem d_Rule_isSummerAt_34 : decode b_Rule_isSummerAt 34 = .ok (.invokevirtual 69, 3) := by decide +kernel
theorem d_Rule_isSummerAt_37 : decode b_Rule_isSummerAt 37 = .ok (.lcmp, 1) := by decide +kernel
theorem d_Rule_isSummerAt_38 : decode b_Rule_isSummerAt 38 = .ok (.ifCond .lt 7, 3) := by decide +kernel
theorem d_Rule_isSummerAt_41 : decode b_Rule_isSummerAt 41 = .ok (.iconst 1, 1) := by decide +kernel
theorem d_Rule_isSummerAt_42 : decode b_Rule_isSummerAt 42 = .ok (.goto 4, 3) := by decide +kernel
theorem d_Rule_isSummerAt_45 : decode b_Rule_isSummerAt 45 = .ok (.iconst 0, 1) := by decide +kernel
theorem d_Rule_isSummerAt_46 : decode b_Rule_isSummerAt 46 = .ok (.ireturn, 1) := by decide +kernel
abbrev b_Rule_changeAbove : ByteArray := prog_9_method_5_code
def y_Rule_changeAbove : MethodName := ⟨"ZoneFiles$Rule", "changeAbove", "(J)J"⟩
theorem d_Rule_changeAbove_0 : decode b_Rule_changeAbove 0 = .ok (.aload_n 0, 1) := by decide +kernel
theorem d_Rule_changeAbove_1 : decode b_Rule_changeAbove 1 = .ok (.getfield 33, 3) := by decide +kernel
theorem d_Rule_changeAbove_4 : decode b_Rule_changeAbove 4 = .ok (.ifCond .eq 10, 3) := by decide +kernel
theorem d_Rule_changeAbove_7 : decode b_Rule_changeAbove 7 = .ok (.aload_n 0, 1) := by decide +kernel
theorem d_Rule_changeAbove_8 : decode b_Rule_changeAbove 8 = .ok (.getfield 59, 3) := by decide +kernel
theorem d_Rule_changeAbove_11 : decode b_Rule_changeAbove 11 = .ok (.ifCond .eq 7, 3) := by decide +kernel
theorem d_Rule_changeAbove_14 : decode b_Rule_changeAbove 14 = .ok (.ldc2_w 72, 3) := by decide +kernel
theorem d_Rule_changeAbove_17 : decode b_Rule_changeAbove 17 = .ok (.lreturn, 1) := by decide +kernel
theorem d_Rule_changeAbove_18 : decode b_Rule_changeAbove 18 = .ok (.new 74, 3) := by decide +kernel
theorem d_Rule_changeAbove_21 : decode b_Rule_changeAbove 21 = .ok (.dup, 1) := by decide +kernel
theorem d_Rule_changeAbove_22 : decode b_Rule_changeAbove 22 = .ok (.aload_n 0, 1) := by decide +kernel
theorem d_Rule_changeAbove_23 : decode b_Rule_changeAbove 23 = .ok (.lload_n 1, 1) := by decide +kernel
theorem d_Rule_changeAbove_24 : decode b_Rule_changeAbove 24 = .ok (.invokespecial 76, 3) := by decide +kernel
theorem d_Rule_changeAbove_27 : decode b_Rule_changeAbove 27 = .ok (.astore_n 3, 1) := by decide +kernel
theorem d_Rule_changeAbove_28 : decode b_Rule_changeAbove 28 = .ok (.aload_n 3, 1) := by decide +kernel
theorem d_Rule_changeAbove_29 : decode b_Rule_changeAbove 29 = .ok (.invokevirtual 79, 3) := by decide +kernel
theorem d_Rule_changeAbove_32 : decode b_Rule_changeAbove 32 = .ok (.istore 4, 2) := by decide +kernel
theorem d_Rule_changeAbove_34 : decode b_Rule_changeAbove 34 = .ok (.iconst 0, 1) := by decide +kernel
theorem d_Rule_changeAbove_35 : decode b_Rule_changeAbove 35 = .ok (.istore 5, 2) := by decide +kernel
theorem d_Rule_changeAbove_37 : decode b_Rule_changeAbove 37 = .ok (.iload 5, 2) := by decide +kernel
theorem d_Rule_changeAbove_39 : decode b_Rule_changeAbove 39 = .ok (.sipush 810, 3) := by decide +kernel
theorem d_Rule_changeAbove_42 : decode b_Rule_changeAbove 42 = .ok (.if_icmp .ge 42, 3) := by decide +kernel
theorem d_Rule_changeAbove_45 : decode b_Rule_changeAbove 45 = .ok (.aload_n 3, 1) := by decide +kernel
theorem d_Rule_changeAbove_46 : decode b_Rule_changeAbove 46 = .ok (.invokevirtual 83, 3) := by decide +kernel
theorem d_Rule_changeAbove_49 : decode b_Rule_changeAbove 49 = .ok (.aload_n 3, 1) := by decide +kernel
theorem d_Rule_changeAbove_50 : decode b_Rule_changeAbove 50 = .ok (.invokevirtual 86, 3) := by decide +kernel
theorem d_Rule_changeAbove_53 : decode b_Rule_changeAbove 53 = .ok (.ldc2_w 90, 3) := by decide +kernel
theorem d_Rule_changeAbove_56 : decode b_Rule_changeAbove 56 = .ok (.lcmp, 1) := by decide +kernel
theorem d_Rule_changeAbove_57 : decode b_Rule_changeAbove 57 = .ok (.ifCond .le 7, 3) := by decide +kernel
theorem d_Rule_changeAbove_60 : decode b_Rule_changeAbove 60 = .ok (.ldc2_w 72, 3) := by decide +kernel
theorem d_Rule_changeAbove_63 : decode b_Rule_changeAbove 63 = .ok (.lreturn, 1) := by decide +kernel
theorem d_Rule_changeAbove_64 : decode b_Rule_changeAbove 64 = .ok (.aload_n 3, 1) := by decide +kernel
theorem d_Rule_changeAbove_65 : decode b_Rule_changeAbove 65 = .ok (.invokevirtual 79, 3) := by decide +kernel
theorem d_Rule_changeAbove_68 : decode b_Rule_changeAbove 68 = .ok (.iload 4, 2) := by decide +kernel
theorem d_Rule_changeAbove_70 : decode b_Rule_changeAbove 70 = .ok (.if_icmp .eq 8, 3) := by decide +kernel
theorem d_Rule_changeAbove_73 : decode b_Rule_changeAbove 73 = .ok (.aload_n 3, 1) := by decide +kernel
theorem d_Rule_changeAbove_74 : decode b_Rule_changeAbove 74 = .ok (.invokevirtual 86, 3) := by decide +kernel
theorem d_Rule_changeAbove_77 : decode b_Rule_changeAbove 77 = .ok (.lreturn, 1) := by decide +kernel
theorem d_Rule_changeAbove_78 : decode b_Rule_changeAbove 78 = .ok (.iinc 5 1, 3) := by decide +kernel
theorem d_Rule_changeAbove_81 : decode b_Rule_changeAbove 81 = .ok (.goto (-44), 3) := by decide +kernel
theorem d_Rule_changeAbove_84 : decode b_Rule_changeAbove 84 = .ok (.aload_n 0, 1) := by decide +kernel
theorem d_Rule_changeAbove_85 : decode b_Rule_changeAbove 85 = .ok (.iconst 1, 1) := by decide +kernel
theorem d_Rule_changeAbove_86 : decode b_Rule_changeAbove 86 = .ok (.putfield 59, 3) := by decide +kernel
theorem d_Rule_changeAbove_89 : decode b_Rule_changeAbove 89 = .ok (.ldc2_w 72, 3) := by decide +kernel
theorem d_Rule_changeAbove_92 : decode b_Rule_changeAbove 92 = .ok (.lreturn, 1) := by decide +kernel
abbrev b_Rule_changeBelow : ByteArray := prog_9_method_6_code
def y_Rule_changeBelow : MethodName := ⟨"ZoneFiles$Rule", "changeBelow", "(JJ)J"⟩
theorem d_Rule_changeBelow_0 : decode b_Rule_changeBelow 0 = .ok (.aload_n 0, 1) := by decide +kernel
theorem d_Rule_changeBelow_1 : decode b_Rule_changeBelow 1 = .ok (.getfield 33, 3) := by decide +kernel
theorem d_Rule_changeBelow_4 : decode b_Rule_changeBelow 4 = .ok (.ifCond .eq 10, 3) := by decide +kernel
theorem d_Rule_changeBelow_7 : decode b_Rule_changeBelow 7 = .ok (.aload_n 0, 1) := by decide +kernel
theorem d_Rule_changeBelow_8 : decode b_Rule_changeBelow 8 = .ok (.getfield 59, 3) := by decide +kernel
theorem d_Rule_changeBelow_11 : decode b_Rule_changeBelow 11 = .ok (.ifCond .eq 7, 3) := by decide +kernel
theorem d_Rule_changeBelow_14 : decode b_Rule_changeBelow 14 = .ok (.ldc2_w 72, 3) := by decide +kernel
theorem d_Rule_changeBelow_17 : decode b_Rule_changeBelow 17 = .ok (.lreturn, 1) := by decide +kernel
theorem d_Rule_changeBelow_18 : decode b_Rule_changeBelow 18 = .ok (.new 74, 3) := by decide +kernel
theorem d_Rule_changeBelow_21 : decode b_Rule_changeBelow 21 = .ok (.dup, 1) := by decide +kernel
theorem d_Rule_changeBelow_22 : decode b_Rule_changeBelow 22 = .ok (.aload_n 0, 1) := by decide +kernel
theorem d_Rule_changeBelow_23 : decode b_Rule_changeBelow 23 = .ok (.lload_n 1, 1) := by decide +kernel
theorem d_Rule_changeBelow_24 : decode b_Rule_changeBelow 24 = .ok (.lconst 1, 1) := by decide +kernel
theorem d_Rule_changeBelow_25 : decode b_Rule_changeBelow 25 = .ok (.lsub, 1) := by decide +kernel
theorem d_Rule_changeBelow_26 : decode b_Rule_changeBelow 26 = .ok (.invokespecial 76, 3) := by decide +kernel
theorem d_Rule_changeBelow_29 : decode b_Rule_changeBelow 29 = .ok (.astore 5, 2) := by decide +kernel
theorem d_Rule_changeBelow_31 : decode b_Rule_changeBelow 31 = .ok (.iconst 0, 1) := by decide +kernel
theorem d_Rule_changeBelow_32 : decode b_Rule_changeBelow 32 = .ok (.istore 6, 2) := by decide +kernel
theorem d_Rule_changeBelow_34 : decode b_Rule_changeBelow 34 = .ok (.iload 6, 2) := by decide +kernel
theorem d_Rule_changeBelow_36 : decode b_Rule_changeBelow 36 = .ok (.sipush 810, 3) := by decide +kernel
theorem d_Rule_changeBelow_39 : decode b_Rule_changeBelow 39 = .ok (.if_icmp .ge 52, 3) := by decide +kernel
theorem d_Rule_changeBelow_42 : decode b_Rule_changeBelow 42 = .ok (.aload 5, 2) := by decide +kernel
theorem d_Rule_changeBelow_44 : decode b_Rule_changeBelow 44 = .ok (.invokevirtual 86, 3) := by decide +kernel
theorem d_Rule_changeBelow_47 : decode b_Rule_changeBelow 47 = .ok (.lstore 7, 2) := by decide +kernel
theorem d_Rule_changeBelow_49 : decode b_Rule_changeBelow 49 = .ok (.lload 7, 2) := by decide +kernel
theorem d_Rule_changeBelow_51 : decode b_Rule_changeBelow 51 = .ok (.lload_n 3, 1) := by decide +kernel
theorem d_Rule_changeBelow_52 : decode b_Rule_changeBelow 52 = .ok (.lcmp, 1) := by decide +kernel
theorem d_Rule_changeBelow_53 : decode b_Rule_changeBelow 53 = .ok (.ifCond .gt 7, 3) := by decide +kernel
theorem d_Rule_changeBelow_56 : decode b_Rule_changeBelow 56 = .ok (.ldc2_w 72, 3) := by decide +kernel
theorem d_Rule_changeBelow_59 : decode b_Rule_changeBelow 59 = .ok (.lreturn, 1) := by decide +kernel
theorem d_Rule_changeBelow_60 : decode b_Rule_changeBelow 60 = .ok (.aload 5, 2) := by decide +kernel
theorem d_Rule_changeBelow_62 : decode b_Rule_changeBelow 62 = .ok (.invokevirtual 79, 3) := by decide +kernel
theorem d_Rule_changeBelow_65 : decode b_Rule_changeBelow 65 = .ok (.istore 9, 2) := by decide +kernel
theorem d_Rule_changeBelow_67 : decode b_Rule_changeBelow 67 = .ok (.aload 5, 2) := by decide +kernel
theorem d_Rule_changeBelow_69 : decode b_Rule_changeBelow 69 = .ok (.invokevirtual 92, 3) := by decide +kernel
theorem d_Rule_changeBelow_72 : decode b_Rule_changeBelow 72 = .ok (.aload 5, 2) := by decide +kernel
theorem d_Rule_changeBelow_74 : decode b_Rule_changeBelow 74 = .ok (.invokevirtual 79, 3) := by decide +kernel
theorem d_Rule_changeBelow_77 : decode b_Rule_changeBelow 77 = .ok (.iload 9, 2) := by decide +kernel
theorem d_Rule_changeBelow_79 : decode b_Rule_changeBelow 79 = .ok (.if_icmp .eq 6, 3) := by decide +kernel
theorem d_Rule_changeBelow_82 : decode b_Rule_changeBelow 82 = .ok (.lload 7, 2) := by decide +kernel
theorem d_Rule_changeBelow_84 : decode b_Rule_changeBelow 84 = .ok (.lreturn, 1) := by decide +kernel
theorem d_Rule_changeBelow_85 : decode b_Rule_changeBelow 85 = .ok (.iinc 6 1, 3) := by decide +kernel
theorem d_Rule_changeBelow_88 : decode b_Rule_changeBelow 88 = .ok (.goto (-54), 3) := by decide +kernel
theorem d_Rule_changeBelow_91 : decode b_Rule_changeBelow 91 = .ok (.aload_n 0, 1) := by decide +kernel
theorem d_Rule_changeBelow_92 : decode b_Rule_changeBelow 92 = .ok (.iconst 1, 1) := by decide +kernel
theorem d_Rule_changeBelow_93 : decode b_Rule_changeBelow 93 = .ok (.putfield 59, 3) := by decide +kernel
theorem d_Rule_changeBelow_96 : decode b_Rule_changeBelow 96 = .ok (.ldc2_w 72, 3) := by decide +kernel
theorem d_Rule_changeBelow_99 : decode b_Rule_changeBelow 99 = .ok (.lreturn, 1) := by decide +kernel
-- ZoneFiles$Rule.clear()V
def f_Rule_clear_0 (nf : Nat) (w0_3 : Int32) (w0_4 : Int32) (w0_5 : Int32) (w0_6 : Int32) (w0_7 : Int32) (w0_8 : Int32) (w0_9 : Int32) (w0_10 : Int32) (w0_11 : Int32) (w1_1 : Int32) : Option (Int32 × Int32 × Int32 × Int32 × Int32 × Int32 × Int32 × Int32 × Int32 × Int32) :=
  (f_By_clear nf w1_1).bind fun z_1 =>
  some (0, 0, 0, 0, 0, 0, 0, 0, 0, z_1)
def f_Rule_clear (nf : Nat) (ruHas : Int32) (ruWide : Int32) (ruSo : Int32) (ruUo : Int32) (ruSp : Int32) (ruSs : Int32) (ruUp : Int32) (ruUs : Int32) (ruNev : Int32) (txS : Int32) : Option (Int32 × Int32 × Int32 × Int32 × Int32 × Int32 × Int32 × Int32 × Int32 × Int32) :=
  f_Rule_clear_0 nf ruHas ruWide ruSo ruUo ruSp ruSs ruUp ruUs ruNev txS
section
variable {p : Program} {l : Launch} {e : Env} {R : Room} {s : State} {m : MethodId} {args : Array Value} {below : List Frame} {meth : Method} {c : Code} {Q : State → Prop} {dC : Nat → ClassId} {dI : Nat → Nat → Nat} {nf : Nat} {A : Nat → Prop}
variable {h0 : Nat} {ruT : Nat} {ruB : Nat} {ruE : Nat} {txR : Nat} {ruHas : Int32} {ruWide : Int32} {ruSo : Int32} {ruUo : Int32} {ruSp : Int32} {ruSs : Int32} {ruUp : Int32} {ruUs : Int32} {ruNev : Int32} {txS : Int32} {v0_3 : Int32} {v0_4 : Int32} {v0_5 : Int32} {v0_6 : Int32} {v0_7 : Int32} {v0_8 : Int32} {v0_9 : Int32} {v0_10 : Int32} {v0_11 : Int32} {v1_1 : Int32}
set_option maxHeartbeats 400000 in
set_option maxRecDepth 100000 in
theorem k_Rule_clear_0 (C0 : Cx p s m meth c args R b_Rule_clear "ZoneFiles$Rule" 1 none 1 20) (hST : ST A s s.heap) (hA : ∀ q, s.heap.size ≤ q → A q) (hE : ∀ (pc : Nat) (ls : Array Slot) (H : Heap) (locs : List Loc), decode b_Rule_clear pc = .ok (.return_, 1) → va_P (dC, dI) classes [(h0, .inr (5, [.ref ruT, .ref ruB, .ref ruE, .int v0_3, .int v0_4, .int v0_5, .int v0_6, .int v0_7, .int v0_8, .int v0_9, .int v0_10, .int v0_11])), (ruT, .inr (0, [.ref txR, .int v1_1]))] H → va_D A [(h0, .inr (5, [.ref ruT, .ref ruB, .ref ruE, .int v0_3, .int v0_4, .int v0_5, .int v0_6, .int v0_7, .int v0_8, .int v0_9, .int v0_10, .int v0_11])), (ruT, .inr (0, [.ref txR, .int v1_1]))] → va_S A s.heap H locs → va_K (dC, dI) classes [] s → W p l e R s m args below meth c H locs 0 0 Q (F0 m pc ls [])) {w0_3 : Int32} {w0_4 : Int32} {w0_5 : Int32} {w0_6 : Int32} {w0_7 : Int32} {w0_8 : Int32} {w0_9 : Int32} {w0_10 : Int32} {w0_11 : Int32} {w1_1 : Int32} (hf : f_Rule_clear_0 nf w0_3 w0_4 w0_5 w0_6 w0_7 w0_8 w0_9 w0_10 w0_11 w1_1 = some (v0_3, v0_4, v0_5, v0_6, v0_7, v0_8, v0_9, v0_10, v0_11, v1_1)) {H : Heap} {locs : List Loc} {ls : Array Slot} (hK : va_K (dC, dI) classes [] s) (hP : va_P (dC, dI) classes [(h0, .inr (5, [.ref ruT, .ref ruB, .ref ruE, .int w0_3, .int w0_4, .int w0_5, .int w0_6, .int w0_7, .int w0_8, .int w0_9, .int w0_10, .int w0_11])), (ruT, .inr (0, [.ref txR, .int w1_1]))] H) (hD : va_D A [(h0, .inr (5, [.ref ruT, .ref ruB, .ref ruE, .int w0_3, .int w0_4, .int w0_5, .int w0_6, .int w0_7, .int w0_8, .int w0_9, .int w0_10, .int w0_11])), (ruT, .inr (0, [.ref txR, .int w1_1]))]) (hS : va_S A s.heap H locs) (hl : lv_has ls 1 [(0, .ref h0)]) : W p l e R s m args below meth c H locs 0 0 Q (F0 m 0 ls []) := by
  obtain ⟨hx, hb, hr, hml, hown, hts, hlocks, hRf, hRl⟩ := id C0
  obtain ⟨tms, hZms, hTms, tmg, hZmg, hTmg, hNW⟩ := id hST
  unfold f_Rule_clear_0 at hf
  refine lv_aload_n hx hb d_Rule_clear_0 rfl (lv_at hl 0 rfl) ?_
  refine va_get (D := (dC, dI)) (ci := 5) (v := .ref ruT) (C := RRule) (T := TRule) (N := 12) hx hb hts in_Rule hown hK hP 0 rfl rfl 0 (by decide) (hts (.fieldLink "ZoneFiles$Rule" 14 "ZoneFiles$Rule" "text" "LZoneFiles$Bytes;") m_1_101) (fun _ h9 => h9) rfl d_Rule_clear_1 ?_
  obtain ⟨z_1, hc, hf⟩ := ob hf
  have hPc := hP.sub (ws' := [(ruT, .inr (0, [.ref txR, .int w1_1]))]) [1] rfl
  have hDc := hD.sub (ws' := [(ruT, .inr (0, [.ref txR, .int w1_1]))]) [1] (by decide) rfl
  have hKc := hK.sub (tys' := []) [] rfl
  have hFc := va_free (wc := [(ruT, .inr (0, [.ref txR, .int w1_1]))]) hD hS hA [1] rfl
  refine cl_M (v := none) (st1 := []) (va_runV (As := []) (rest := []) ⟨hx, hb, hml, hown, hts⟩ (c_By_clear l dC dI ruT txR H.size nf w1_1 hc) (cwV 0 hts (gdV m_2_33 m_2_34 m_2_35 m_1_2 m_2_36) rfl rfl rfl (by decide +kernel) ⟨Nat.le_trans (Nat.le_of_ble_eq_true rfl) hRf, Nat.le_trans (Nat.le_of_ble_eq_true rfl) hRl⟩) ((MU.pre hPc hKc hDc (hST.mu hS hFc)).vir (va_recv hKc hPc (ci := 0) (q0 := 0) rfl rfl)) rfl rfl hl.1 rfl (lv_room (Nat.le_of_ble_eq_true rfl)) d_Rule_clear_4 ⟨Nat.zero_le _, Nat.zero_le _⟩) rfl hS (fun q _ h => hFc q h) hFc (fun t H1 locs ht hvm hB hz1 hk1 hS => ?_)
  obtain ⟨hP1, hK1, hD1⟩ := hB
  rw [ht] at hP1
  have hK1 := va_K.moved hvm.symm hK1
  obtain ⟨hP, hD⟩ := va_join (wr := [(h0, .inr (5, [.ref ruT, .ref ruB, .ref ruE, .int w0_3, .int w0_4, .int w0_5, .int w0_6, .int w0_7, .int w0_8, .int w0_9, .int w0_10, .int w0_11]))]) (w1 := [(ruT, .inr (0, [.ref txR, .int z_1]))]) hP hD [1] [0] rfl rfl (by decide) (by decide) hk1 hFc hP1 hD1
  have hK := (hK.sub (tys' := []) [] rfl).app hK1
  generalize H1 = H at hP hS ⊢
  have hP := hP.sub (ws' := [(h0, .inr (5, [.ref ruT, .ref ruB, .ref ruE, .int w0_3, .int w0_4, .int w0_5, .int w0_6, .int w0_7, .int w0_8, .int w0_9, .int w0_10, .int w0_11])), (ruT, .inr (0, [.ref txR, .int z_1]))]) [0, 1] rfl
  have hD := hD.sub (ws' := [(h0, .inr (5, [.ref ruT, .ref ruB, .ref ruE, .int w0_3, .int w0_4, .int w0_5, .int w0_6, .int w0_7, .int w0_8, .int w0_9, .int w0_10, .int w0_11])), (ruT, .inr (0, [.ref txR, .int z_1]))]) [0, 1] (by decide) rfl
  have hK := hK.sub (tys' := []) [] rfl
  refine lv_aload_n hx hb d_Rule_clear_7 rfl (lv_at hl 0 rfl) ?_
  refine lv_iconst (v := 0) hx hb d_Rule_clear_8 (by decide) ?_
  refine va_put (D := (dC, dI)) (ci := 5) (v := .int 0) (ty := .boolean) (C := RRule) (T := TRule) (N := 12) hx hb hts in_Rule tyRule ty_Rule nm_Rule hown hK hP hD hS 0 rfl rfl 3 (by decide) (hts (.fieldLink "ZoneFiles$Rule" 33 "ZoneFiles$Rule" "hasSummer" "Z") m_1_112) (fun _ h9 => h9) rfl (by decide +kernel) rfl rfl (Nat.le_of_ble_eq_true rfl) d_Rule_clear_9 (fun H locs hP hD hS => ?_)
  have hP : va_P (dC, dI) classes [(h0, .inr (5, [.ref ruT, .ref ruB, .ref ruE, .int 0, .int w0_4, .int w0_5, .int w0_6, .int w0_7, .int w0_8, .int w0_9, .int w0_10, .int w0_11])), (ruT, .inr (0, [.ref txR, .int z_1]))] H := hP
  have hD : va_D A [(h0, .inr (5, [.ref ruT, .ref ruB, .ref ruE, .int 0, .int w0_4, .int w0_5, .int w0_6, .int w0_7, .int w0_8, .int w0_9, .int w0_10, .int w0_11])), (ruT, .inr (0, [.ref txR, .int z_1]))] := hD
  refine lv_aload_n hx hb d_Rule_clear_12 rfl (lv_at hl 0 rfl) ?_
  refine lv_iconst (v := 0) hx hb d_Rule_clear_13 (by decide) ?_
  refine va_put (D := (dC, dI)) (ci := 5) (v := .int 0) (ty := .boolean) (C := RRule) (T := TRule) (N := 12) hx hb hts in_Rule tyRule ty_Rule nm_Rule hown hK hP hD hS 0 rfl rfl 4 (by decide) (hts (.fieldLink "ZoneFiles$Rule" 37 "ZoneFiles$Rule" "needsWide" "Z") m_1_116) (fun _ h9 => h9) rfl (by decide +kernel) rfl rfl (Nat.le_of_ble_eq_true rfl) d_Rule_clear_14 (fun H locs hP hD hS => ?_)
  have hP : va_P (dC, dI) classes [(h0, .inr (5, [.ref ruT, .ref ruB, .ref ruE, .int 0, .int 0, .int w0_5, .int w0_6, .int w0_7, .int w0_8, .int w0_9, .int w0_10, .int w0_11])), (ruT, .inr (0, [.ref txR, .int z_1]))] H := hP
  have hD : va_D A [(h0, .inr (5, [.ref ruT, .ref ruB, .ref ruE, .int 0, .int 0, .int w0_5, .int w0_6, .int w0_7, .int w0_8, .int w0_9, .int w0_10, .int w0_11])), (ruT, .inr (0, [.ref txR, .int z_1]))] := hD
  refine lv_aload_n hx hb d_Rule_clear_17 rfl (lv_at hl 0 rfl) ?_
  refine lv_iconst (v := 0) hx hb d_Rule_clear_18 (by decide) ?_
  refine va_put (D := (dC, dI)) (ci := 5) (v := .int 0) (ty := .int) (C := RRule) (T := TRule) (N := 12) hx hb hts in_Rule tyRule ty_Rule nm_Rule hown hK hP hD hS 0 rfl rfl 5 (by decide) (hts (.fieldLink "ZoneFiles$Rule" 40 "ZoneFiles$Rule" "standardOffset" "I") m_1_119) (fun _ h9 => h9) rfl (by decide +kernel) rfl rfl (Nat.le_of_ble_eq_true rfl) d_Rule_clear_19 (fun H locs hP hD hS => ?_)
  have hP : va_P (dC, dI) classes [(h0, .inr (5, [.ref ruT, .ref ruB, .ref ruE, .int 0, .int 0, .int 0, .int w0_6, .int w0_7, .int w0_8, .int w0_9, .int w0_10, .int w0_11])), (ruT, .inr (0, [.ref txR, .int z_1]))] H := hP
  have hD : va_D A [(h0, .inr (5, [.ref ruT, .ref ruB, .ref ruE, .int 0, .int 0, .int 0, .int w0_6, .int w0_7, .int w0_8, .int w0_9, .int w0_10, .int w0_11])), (ruT, .inr (0, [.ref txR, .int z_1]))] := hD
  refine lv_aload_n hx hb d_Rule_clear_22 rfl (lv_at hl 0 rfl) ?_
  refine lv_iconst (v := 0) hx hb d_Rule_clear_23 (by decide) ?_
  refine va_put (D := (dC, dI)) (ci := 5) (v := .int 0) (ty := .int) (C := RRule) (T := TRule) (N := 12) hx hb hts in_Rule tyRule ty_Rule nm_Rule hown hK hP hD hS 0 rfl rfl 6 (by decide) (hts (.fieldLink "ZoneFiles$Rule" 44 "ZoneFiles$Rule" "summerOffset" "I") m_1_122) (fun _ h9 => h9) rfl (by decide +kernel) rfl rfl (Nat.le_of_ble_eq_true rfl) d_Rule_clear_24 (fun H locs hP hD hS => ?_)
  have hP : va_P (dC, dI) classes [(h0, .inr (5, [.ref ruT, .ref ruB, .ref ruE, .int 0, .int 0, .int 0, .int 0, .int w0_7, .int w0_8, .int w0_9, .int w0_10, .int w0_11])), (ruT, .inr (0, [.ref txR, .int z_1]))] H := hP
  have hD : va_D A [(h0, .inr (5, [.ref ruT, .ref ruB, .ref ruE, .int 0, .int 0, .int 0, .int 0, .int w0_7, .int w0_8, .int w0_9, .int w0_10, .int w0_11])), (ruT, .inr (0, [.ref txR, .int z_1]))] := hD
  refine lv_aload_n hx hb d_Rule_clear_27 rfl (lv_at hl 0 rfl) ?_
  refine lv_iconst (v := 0) hx hb d_Rule_clear_28 (by decide) ?_
  refine va_put (D := (dC, dI)) (ci := 5) (v := .int 0) (ty := .int) (C := RRule) (T := TRule) (N := 12) hx hb hts in_Rule tyRule ty_Rule nm_Rule hown hK hP hD hS 0 rfl rfl 7 (by decide) (hts (.fieldLink "ZoneFiles$Rule" 47 "ZoneFiles$Rule" "standardNamePlace" "I") m_1_125) (fun _ h9 => h9) rfl (by decide +kernel) rfl rfl (Nat.le_of_ble_eq_true rfl) d_Rule_clear_29 (fun H locs hP hD hS => ?_)
  have hP : va_P (dC, dI) classes [(h0, .inr (5, [.ref ruT, .ref ruB, .ref ruE, .int 0, .int 0, .int 0, .int 0, .int 0, .int w0_8, .int w0_9, .int w0_10, .int w0_11])), (ruT, .inr (0, [.ref txR, .int z_1]))] H := hP
  have hD : va_D A [(h0, .inr (5, [.ref ruT, .ref ruB, .ref ruE, .int 0, .int 0, .int 0, .int 0, .int 0, .int w0_8, .int w0_9, .int w0_10, .int w0_11])), (ruT, .inr (0, [.ref txR, .int z_1]))] := hD
  refine lv_aload_n hx hb d_Rule_clear_32 rfl (lv_at hl 0 rfl) ?_
  refine lv_iconst (v := 0) hx hb d_Rule_clear_33 (by decide) ?_
  refine va_put (D := (dC, dI)) (ci := 5) (v := .int 0) (ty := .int) (C := RRule) (T := TRule) (N := 12) hx hb hts in_Rule tyRule ty_Rule nm_Rule hown hK hP hD hS 0 rfl rfl 8 (by decide) (hts (.fieldLink "ZoneFiles$Rule" 50 "ZoneFiles$Rule" "standardNameSize" "I") m_1_128) (fun _ h9 => h9) rfl (by decide +kernel) rfl rfl (Nat.le_of_ble_eq_true rfl) d_Rule_clear_34 (fun H locs hP hD hS => ?_)
  have hP : va_P (dC, dI) classes [(h0, .inr (5, [.ref ruT, .ref ruB, .ref ruE, .int 0, .int 0, .int 0, .int 0, .int 0, .int 0, .int w0_9, .int w0_10, .int w0_11])), (ruT, .inr (0, [.ref txR, .int z_1]))] H := hP
  have hD : va_D A [(h0, .inr (5, [.ref ruT, .ref ruB, .ref ruE, .int 0, .int 0, .int 0, .int 0, .int 0, .int 0, .int w0_9, .int w0_10, .int w0_11])), (ruT, .inr (0, [.ref txR, .int z_1]))] := hD
  refine lv_aload_n hx hb d_Rule_clear_37 rfl (lv_at hl 0 rfl) ?_
  refine lv_iconst (v := 0) hx hb d_Rule_clear_38 (by decide) ?_
  refine va_put (D := (dC, dI)) (ci := 5) (v := .int 0) (ty := .int) (C := RRule) (T := TRule) (N := 12) hx hb hts in_Rule tyRule ty_Rule nm_Rule hown hK hP hD hS 0 rfl rfl 9 (by decide) (hts (.fieldLink "ZoneFiles$Rule" 53 "ZoneFiles$Rule" "summerNamePlace" "I") m_1_131) (fun _ h9 => h9) rfl (by decide +kernel) rfl rfl (Nat.le_of_ble_eq_true rfl) d_Rule_clear_39 (fun H locs hP hD hS => ?_)
  have hP : va_P (dC, dI) classes [(h0, .inr (5, [.ref ruT, .ref ruB, .ref ruE, .int 0, .int 0, .int 0, .int 0, .int 0, .int 0, .int 0, .int w0_10, .int w0_11])), (ruT, .inr (0, [.ref txR, .int z_1]))] H := hP
  have hD : va_D A [(h0, .inr (5, [.ref ruT, .ref ruB, .ref ruE, .int 0, .int 0, .int 0, .int 0, .int 0, .int 0, .int 0, .int w0_10, .int w0_11])), (ruT, .inr (0, [.ref txR, .int z_1]))] := hD
  refine lv_aload_n hx hb d_Rule_clear_42 rfl (lv_at hl 0 rfl) ?_
  refine lv_iconst (v := 0) hx hb d_Rule_clear_43 (by decide) ?_
  refine va_put (D := (dC, dI)) (ci := 5) (v := .int 0) (ty := .int) (C := RRule) (T := TRule) (N := 12) hx hb hts in_Rule tyRule ty_Rule nm_Rule hown hK hP hD hS 0 rfl rfl 10 (by decide) (hts (.fieldLink "ZoneFiles$Rule" 56 "ZoneFiles$Rule" "summerNameSize" "I") m_1_134) (fun _ h9 => h9) rfl (by decide +kernel) rfl rfl (Nat.le_of_ble_eq_true rfl) d_Rule_clear_44 (fun H locs hP hD hS => ?_)
  have hP : va_P (dC, dI) classes [(h0, .inr (5, [.ref ruT, .ref ruB, .ref ruE, .int 0, .int 0, .int 0, .int 0, .int 0, .int 0, .int 0, .int 0, .int w0_11])), (ruT, .inr (0, [.ref txR, .int z_1]))] H := hP
  have hD : va_D A [(h0, .inr (5, [.ref ruT, .ref ruB, .ref ruE, .int 0, .int 0, .int 0, .int 0, .int 0, .int 0, .int 0, .int 0, .int w0_11])), (ruT, .inr (0, [.ref txR, .int z_1]))] := hD
  refine lv_aload_n hx hb d_Rule_clear_47 rfl (lv_at hl 0 rfl) ?_
  refine lv_iconst (v := 0) hx hb d_Rule_clear_48 (by decide) ?_
  refine va_put (D := (dC, dI)) (ci := 5) (v := .int 0) (ty := .boolean) (C := RRule) (T := TRule) (N := 12) hx hb hts in_Rule tyRule ty_Rule nm_Rule hown hK hP hD hS 0 rfl rfl 11 (by decide) (hts (.fieldLink "ZoneFiles$Rule" 59 "ZoneFiles$Rule" "neverChanges" "Z") m_1_137) (fun _ h9 => h9) rfl (by decide +kernel) rfl rfl (Nat.le_of_ble_eq_true rfl) d_Rule_clear_49 (fun H locs hP hD hS => ?_)
  have hP : va_P (dC, dI) classes [(h0, .inr (5, [.ref ruT, .ref ruB, .ref ruE, .int 0, .int 0, .int 0, .int 0, .int 0, .int 0, .int 0, .int 0, .int 0])), (ruT, .inr (0, [.ref txR, .int z_1]))] H := hP
  have hD : va_D A [(h0, .inr (5, [.ref ruT, .ref ruB, .ref ruE, .int 0, .int 0, .int 0, .int 0, .int 0, .int 0, .int 0, .int 0, .int 0])), (ruT, .inr (0, [.ref txR, .int z_1]))] := hD
  cases rs hf
  exact hE _ _ _ _ d_Rule_clear_52 hP hD hS hK
end
set_option maxHeartbeats 400000 in
set_option maxRecDepth 100000 in
theorem c_Rule_clear (l : Launch) (dC : Nat → ClassId) (dI : Nat → Nat → Nat) (h0 : Nat) (ruT : Nat) (ruB : Nat) (ruE : Nat) (txR : Nat) (sz : Nat) (nf : Nat) (ruHas : Int32) (ruWide : Int32) (ruSo : Int32) (ruUo : Int32) (ruSp : Int32) (ruSs : Int32) (ruUp : Int32) (ruUs : Int32) (ruNev : Int32) (txS : Int32) {v0_3 : Int32} {v0_4 : Int32} {v0_5 : Int32} {v0_6 : Int32} {v0_7 : Int32} {v0_8 : Int32} {v0_9 : Int32} {v0_10 : Int32} {v0_11 : Int32} {v1_1 : Int32} (hf : f_Rule_clear nf ruHas ruWide ruSo ruUo ruSp ruSs ruUp ruUs ruNev txS = some (v0_3, v0_4, v0_5, v0_6, v0_7, v0_8, v0_9, v0_10, v0_11, v1_1)) : Met l y_Rule_clear (wd y_Rule_clear b_Rule_clear 1 none) ({ frames := 1, cells := 0, slots := 0, locals := 20 }) (MU dC dI [(h0, .inr (5, [.ref ruT, .ref ruB, .ref ruE, .int ruHas, .int ruWide, .int ruSo, .int ruUo, .int ruSp, .int ruSs, .int ruUp, .int ruUs, .int ruNev])), (ruT, .inr (0, [.ref txR, .int txS]))] [] sz [.ref h0]) (MV none (fun t => va_P (dC, dI) classes [(h0, .inr (5, [.ref ruT, .ref ruB, .ref ruE, .int v0_3, .int v0_4, .int v0_5, .int v0_6, .int v0_7, .int v0_8, .int v0_9, .int v0_10, .int v0_11])), (ruT, .inr (0, [.ref txR, .int v1_1]))] t.heap ∧ va_K (dC, dI) classes [] t ∧ va_D (va_A [(h0, .inr (5, [.ref ruT, .ref ruB, .ref ruE, .int ruHas, .int ruWide, .int ruSo, .int ruUo, .int ruSp, .int ruSs, .int ruUp, .int ruUs, .int ruNev])), (ruT, .inr (0, [.ref txR, .int txS]))] sz) [(h0, .inr (5, [.ref ruT, .ref ruB, .ref ruE, .int v0_3, .int v0_4, .int v0_5, .int v0_6, .int v0_7, .int v0_8, .int v0_9, .int v0_10, .int v0_11])), (ruT, .inr (0, [.ref txR, .int v1_1]))]) (va_A [(h0, .inr (5, [.ref ruT, .ref ruB, .ref ruE, .int ruHas, .int ruWide, .int ruSo, .int ruUo, .int ruSp, .int ruSs, .int ruUp, .int ruUs, .int ruNev])), (ruT, .inr (0, [.ref txR, .int txS]))] sz)) 0 0 (va_A [(h0, .inr (5, [.ref ruT, .ref ruB, .ref ruE, .int ruHas, .int ruWide, .int ruSo, .int ruUo, .int ruSp, .int ruSs, .int ruUp, .int ruUs, .int ruNev])), (ruT, .inr (0, [.ref txR, .int txS]))] sz) :=
  met_M (plainFor_of_name (by decide)) (Nat.le_of_ble_eq_true rfl) (fun p e R s m args below meth c ls hRc hRs hsz hin C0 hST hK hP hD hl => by
    obtain ⟨hx, hb, hr, hml, hown, hts, hlocks, hRf, hRl⟩ := id C0
    subst hsz
    have hA : ∀ q : Nat, s.heap.size ≤ q → va_A [(h0, .inr (5, [.ref ruT, .ref ruB, .ref ruE, .int ruHas, .int ruWide, .int ruSo, .int ruUo, .int ruSp, .int ruSs, .int ruUp, .int ruUs, .int ruNev])), (ruT, .inr (0, [.ref txR, .int txS]))] s.heap.size q := fun q h => Or.inr h
    have hS : va_S (va_A [(h0, .inr (5, [.ref ruT, .ref ruB, .ref ruE, .int ruHas, .int ruWide, .int ruSo, .int ruUo, .int ruSp, .int ruSs, .int ruUp, .int ruUs, .int ruNev])), (ruT, .inr (0, [.ref txR, .int txS]))] s.heap.size) s.heap s.heap [] := va_S.rf
    unfold f_Rule_clear at hf
    exact k_Rule_clear_0 C0 hST hA (fun pc ls H locs hd hP hD hS hK => W.vret hx hb hr (fun t ht hW => ⟨⟨rfl, ⟨by rw [ht]; exact hP, va_K.moved hW.alike hK, hD⟩⟩, hS.F ht⟩) hS.2.2 hd) hf hK hP hD hS (lv_sub hl [0] rfl))
-- ZoneFiles$Rule.isThere()Z
def f_Rule_isThere_15 (nf : Nat) (s0 : Int32) : Option (Int32) :=
  if s0 = 0 ∨ s0 = 1 then some s0 else none
def f_Rule_isThere_0 (nf : Nat) (txS : Int32) : Option (Int32) :=
  if txS ≤ 0 then
  f_Rule_isThere_15 nf 0
  else
  f_Rule_isThere_15 nf 1
def f_Rule_isThere (nf : Nat) (txS : Int32) : Option (Int32) :=
  f_Rule_isThere_0 nf txS
section
variable {p : Program} {l : Launch} {e : Env} {R : Room} {s : State} {m : MethodId} {args : Array Value} {below : List Frame} {meth : Method} {c : Code} {Q : State → Prop} {dC : Nat → ClassId} {dI : Nat → Nat → Nat} {nf : Nat}
variable {h0 : Nat} {ruT : Nat} {ruB : Nat} {ruE : Nat} {txR : Nat} {ruHas : Int32} {ruWide : Int32} {ruSo : Int32} {ruUo : Int32} {ruSp : Int32} {ruSs : Int32} {ruUp : Int32} {ruUs : Int32} {ruNev : Int32} {txS : Int32} {r0 : Int32}
set_option maxHeartbeats 400000 in
set_option maxRecDepth 100000 in
theorem k_Rule_isThere_15 (C0 : Cx p s m meth c args R b_Rule_isThere "ZoneFiles$Rule" 1 (some .boolean) 0 0) (hST : ST (fun _ => False) s s.heap) (hK : va_K (dC, dI) classes [] s) (hP : va_P (dC, dI) classes [(h0, .inr (5, [.ref ruT, .ref ruB, .ref ruE, .int ruHas, .int ruWide, .int ruSo, .int ruUo, .int ruSp, .int ruSs, .int ruUp, .int ruUs, .int ruNev])), (ruT, .inr (0, [.ref txR, .int txS]))] s.heap) (hE : ∀ (pc : Nat) (ls : Array Slot), decode b_Rule_isThere pc = .ok (.ireturn, 1) → narrow .boolean (.int r0) = .int r0 → W p l e R s m args below meth c s.heap [] 0 0 Q (F0 m pc ls [.int r0])) {s0 : Int32} (hf : f_Rule_isThere_15 nf s0 = some r0) {ls : Array Slot} (hl : lv_has ls 1 []) : W p l e R s m args below meth c s.heap [] 0 0 Q (F0 m 15 ls [.int s0]) := by
  obtain ⟨hx, hb, hr, hml, hown, hts, hlocks, hRf, hRl⟩ := id C0
  obtain ⟨tms, hZms, hTms, tmg, hZmg, hTmg, hNW⟩ := id hST
  unfold f_Rule_isThere_15 at hf
  obtain ⟨c_2, hf⟩ := it_g hf
  have e := rs hf
  subst e
  exact hE _ _ d_Rule_isThere_15 (nb_of c_2)
set_option maxHeartbeats 400000 in
set_option maxRecDepth 100000 in
theorem k_Rule_isThere_0 (C0 : Cx p s m meth c args R b_Rule_isThere "ZoneFiles$Rule" 1 (some .boolean) 0 0) (hST : ST (fun _ => False) s s.heap) (hK : va_K (dC, dI) classes [] s) (hP : va_P (dC, dI) classes [(h0, .inr (5, [.ref ruT, .ref ruB, .ref ruE, .int ruHas, .int ruWide, .int ruSo, .int ruUo, .int ruSp, .int ruSs, .int ruUp, .int ruUs, .int ruNev])), (ruT, .inr (0, [.ref txR, .int txS]))] s.heap) (hE : ∀ (pc : Nat) (ls : Array Slot), decode b_Rule_isThere pc = .ok (.ireturn, 1) → narrow .boolean (.int r0) = .int r0 → W p l e R s m args below meth c s.heap [] 0 0 Q (F0 m pc ls [.int r0])) (hf : f_Rule_isThere_0 nf txS = some r0) {ls : Array Slot} (hl : lv_has ls 1 [(0, .ref h0)]) : W p l e R s m args below meth c s.heap [] 0 0 Q (F0 m 0 ls []) := by
  obtain ⟨hx, hb, hr, hml, hown, hts, hlocks, hRf, hRl⟩ := id C0
  obtain ⟨tms, hZms, hTms, tmg, hZmg, hTmg, hNW⟩ := id hST
  unfold f_Rule_isThere_0 at hf
  refine lv_aload_n hx hb d_Rule_isThere_0 rfl (lv_at hl 0 rfl) ?_
  refine va_get (D := (dC, dI)) (ci := 5) (v := .ref ruT) (C := RRule) (T := TRule) (N := 12) hx hb hts in_Rule hown hK hP 0 rfl rfl 0 (by decide) (hts (.fieldLink "ZoneFiles$Rule" 14 "ZoneFiles$Rule" "text" "LZoneFiles$Bytes;") m_1_101) (fun _ h9 => h9) rfl d_Rule_isThere_1 ?_
  refine va_get (D := (dC, dI)) (ci := 0) (v := .int txS) (C := RBytes) (T := TBytes) (N := 2) hx hb hts in_Bytes hown hK hP 1 rfl rfl 1 (by decide) (hts (.fieldLink "ZoneFiles$Rule" 62 "ZoneFiles$Bytes" "size" "I") m_1_42) (fun _ h9 => h9) rfl d_Rule_isThere_4 ?_
  refine lv_if_le (tgt := 14) hx hb d_Rule_isThere_7 (by decide) (fun c_1 => ?_) (fun c_1 => ?_)
  · have hf := it_t c_1 hf
    refine lv_iconst (v := 0) hx hb d_Rule_isThere_14 (by decide) ?_
    exact k_Rule_isThere_15 C0 hST hK hP hE hf (lv_sub hl [] rfl)
  · have hf := it_f c_1 hf
    refine lv_iconst (v := 1) hx hb d_Rule_isThere_10 (by decide) ?_
    refine lv_goto (tgt := 15) hx hb d_Rule_isThere_11 (by decide) ?_
    exact k_Rule_isThere_15 C0 hST hK hP hE hf (lv_sub hl [] rfl)
end
set_option maxHeartbeats 400000 in
set_option maxRecDepth 100000 in
theorem c_Rule_isThere (l : Launch) (dC : Nat → ClassId) (dI : Nat → Nat → Nat) (h0 : Nat) (ruT : Nat) (ruB : Nat) (ruE : Nat) (txR : Nat) (nf : Nat) (ruHas : Int32) (ruWide : Int32) (ruSo : Int32) (ruUo : Int32) (ruSp : Int32) (ruSs : Int32) (ruUp : Int32) (ruUs : Int32) (ruNev : Int32) (txS : Int32) {r0 : Int32} (hf : f_Rule_isThere nf txS = some r0) : Met l y_Rule_isThere (wd y_Rule_isThere b_Rule_isThere 1 (some .boolean)) ({ frames := 0, cells := 0, slots := 0, locals := 0 }) (RO dC dI [(h0, .inr (5, [.ref ruT, .ref ruB, .ref ruE, .int ruHas, .int ruWide, .int ruSo, .int ruUo, .int ruSp, .int ruSs, .int ruUp, .int ruUs, .int ruNev])), (ruT, .inr (0, [.ref txR, .int txS]))] [] [.ref h0]) (SV (some (.int r0))) 0 0 (fun _ => False) :=
  met_S (plainFor_of_name (by decide)) (Nat.le_of_ble_eq_true rfl) (fun p e R s m args below meth c ls C0 hST hK hP hl => by
    obtain ⟨hx, hb, hr, hml, hown, hts, hlocks, hRf, hRl⟩ := id C0
    unfold f_Rule_isThere at hf
    exact k_Rule_isThere_0 C0 hST hK hP (fun pc ls hd hn => W.zret hx hb hr hn (fun t ht hW => ⟨rfl, ht⟩) (fun q h => by cases h) hd) hf (lv_sub hl [0] rfl))
-- ZoneFiles$Rule.isSummerAt(J)Z
def f_Rule_isSummerAt_46 (nf : Nat) (s0 : Int32) : Option (Int32) :=
  if s0 = 0 ∨ s0 = 1 then some s0 else none
def f_Rule_isSummerAt_45 (nf : Nat) : Option (Int32) :=
  f_Rule_isSummerAt_46 nf 0
def f_Rule_isSummerAt_0 (nf : Nat) (ruHas : Int32) (ebKind : Int32) (ebMonth : Int32) (ebWeek : Int32) (ebDay : Int32) (ebTime : Int32) (ebClock : Int32) (eeKind : Int32) (eeMonth : Int32) (eeWeek : Int32) (eeDay : Int32) (eeTime : Int32) (eeClock : Int32) (x1 : Int64) : Option (Int32) :=
  if ruHas = 0 then
  f_Rule_isSummerAt_45 nf
  else
  (f_Edge_lastYear nf x1 ebKind ebMonth ebWeek ebDay ebTime ebClock).bind fun r_3 =>
    (f_Edge_momentIn nf r_3 ebKind ebMonth ebWeek ebDay ebTime ebClock).bind fun r_4 =>
    (f_Edge_lastYear nf x1 eeKind eeMonth eeWeek eeDay eeTime eeClock).bind fun r_5 =>
    (f_Edge_momentIn nf r_5 eeKind eeMonth eeWeek eeDay eeTime eeClock).bind fun r_6 =>
    if r_4 < r_6 then
    f_Rule_isSummerAt_45 nf
    else
    f_Rule_isSummerAt_46 nf 1
def f_Rule_isSummerAt (nf : Nat) (p0 : Int64) (ruHas : Int32) (ebKind : Int32) (ebMonth : Int32) (ebWeek : Int32) (ebDay : Int32) (ebTime : Int32) (ebClock : Int32) (eeKind : Int32) (eeMonth : Int32) (eeWeek : Int32) (eeDay : Int32) (eeTime : Int32) (eeClock : Int32) : Option (Int32) :=
  f_Rule_isSummerAt_0 nf ruHas ebKind ebMonth ebWeek ebDay ebTime ebClock eeKind eeMonth eeWeek eeDay eeTime eeClock p0
section
variable {p : Program} {l : Launch} {e : Env} {R : Room} {s : State} {m : MethodId} {args : Array Value} {below : List Frame} {meth : Method} {c : Code} {Q : State → Prop} {dC : Nat → ClassId} {dI : Nat → Nat → Nat} {nf : Nat}
variable {h0 : Nat} {ruT : Nat} {ruB : Nat} {ruE : Nat} {ruHas : Int32} {ruWide : Int32} {ruSo : Int32} {ruUo : Int32} {ruSp : Int32} {ruSs : Int32} {ruUp : Int32} {ruUs : Int32} {ruNev : Int32} {ebKind : Int32} {ebMonth : Int32} {ebWeek : Int32} {ebDay : Int32} {ebTime : Int32} {ebClock : Int32} {eeKind : Int32} {eeMonth : Int32} {eeWeek : Int32} {eeDay : Int32} {eeTime : Int32} {eeClock : Int32} {r0 : Int32}
set_option maxHeartbeats 400000 in
set_option maxRecDepth 100000 in
theorem k_Rule_isSummerAt_46 (C0 : Cx p s m meth c args R b_Rule_isSummerAt "ZoneFiles$Rule" 3 (some .boolean) 4 103) (hST : ST (fun _ => False) s s.heap) (hK : va_K (dC, dI) classes [] s) (hP : va_P (dC, dI) classes [(h0, .inr (5, [.ref ruT, .ref ruB, .ref ruE, .int ruHas, .int ruWide, .int ruSo, .int ruUo, .int ruSp, .int ruSs, .int ruUp, .int ruUs, .int ruNev])), (ruB, .inr (1, [.int ebKind, .int ebMonth, .int ebWeek, .int ebDay, .int ebTime, .int ebClock])), (ruE, .inr (1, [.int eeKind, .int eeMonth, .int eeWeek, .int eeDay, .int eeTime, .int eeClock]))] s.heap) (hE : ∀ (pc : Nat) (ls : Array Slot), decode b_Rule_isSummerAt pc = .ok (.ireturn, 1) → narrow .boolean (.int r0) = .int r0 → W p l e R s m args below meth c s.heap [] 0 0 Q (F0 m pc ls [.int r0])) {s0 : Int32} (hf : f_Rule_isSummerAt_46 nf s0 = some r0) {ls : Array Slot} (hl : lv_has ls 3 []) : W p l e R s m args below meth c s.heap [] 0 0 Q (F0 m 46 ls [.int s0]) := by
  obtain ⟨hx, hb, hr, hml, hown, hts, hlocks, hRf, hRl⟩ := id C0
  obtain ⟨tms, hZms, hTms, tmg, hZmg, hTmg, hNW⟩ := id hST
  unfold f_Rule_isSummerAt_46 at hf
  obtain ⟨c_2, hf⟩ := it_g hf
  have e := rs hf
  subst e
  exact hE _ _ d_Rule_isSummerAt_46 (nb_of c_2)
set_option maxHeartbeats 400000 in
set_option maxRecDepth 100000 in
theorem k_Rule_isSummerAt_45 (C0 : Cx p s m meth c args R b_Rule_isSummerAt "ZoneFiles$Rule" 3 (some .boolean) 4 103) (hST : ST (fun _ => False) s s.heap) (hK : va_K (dC, dI) classes [] s) (hP : va_P (dC, dI) classes [(h0, .inr (5, [.ref ruT, .ref ruB, .ref ruE, .int ruHas, .int ruWide, .int ruSo, .int ruUo, .int ruSp, .int ruSs, .int ruUp, .int ruUs, .int ruNev])), (ruB, .inr (1, [.int ebKind, .int ebMonth, .int ebWeek, .int ebDay, .int ebTime, .int ebClock])), (ruE, .inr (1, [.int eeKind, .int eeMonth, .int eeWeek, .int eeDay, .int eeTime, .int eeClock]))] s.heap) (hE : ∀ (pc : Nat) (ls : Array Slot), decode b_Rule_isSummerAt pc = .ok (.ireturn, 1) → narrow .boolean (.int r0) = .int r0 → W p l e R s m args below meth c s.heap [] 0 0 Q (F0 m pc ls [.int r0])) (hf : f_Rule_isSummerAt_45 nf = some r0) {ls : Array Slot} (hl : lv_has ls 3 []) : W p l e R s m args below meth c s.heap [] 0 0 Q (F0 m 45 ls []) := by
  obtain ⟨hx, hb, hr, hml, hown, hts, hlocks, hRf, hRl⟩ := id C0
  obtain ⟨tms, hZms, hTms, tmg, hZmg, hTmg, hNW⟩ := id hST
  unfold f_Rule_isSummerAt_45 at hf
  refine lv_iconst (v := 0) hx hb d_Rule_isSummerAt_45 (by decide) ?_
  exact k_Rule_isSummerAt_46 C0 hST hK hP hE hf (lv_sub hl [] rfl)
set_option maxHeartbeats 400000 in
set_option maxRecDepth 100000 in
theorem k_Rule_isSummerAt_0 (C0 : Cx p s m meth c args R b_Rule_isSummerAt "ZoneFiles$Rule" 3 (some .boolean) 4 103) (hST : ST (fun _ => False) s s.heap) (hK : va_K (dC, dI) classes [] s) (hP : va_P (dC, dI) classes [(h0, .inr (5, [.ref ruT, .ref ruB, .ref ruE, .int ruHas, .int ruWide, .int ruSo, .int ruUo, .int ruSp, .int ruSs, .int ruUp, .int ruUs, .int ruNev])), (ruB, .inr (1, [.int ebKind, .int ebMonth, .int ebWeek, .int ebDay, .int ebTime, .int ebClock])), (ruE, .inr (1, [.int eeKind, .int eeMonth, .int eeWeek, .int eeDay, .int eeTime, .int eeClock]))] s.heap) (hE : ∀ (pc : Nat) (ls : Array Slot), decode b_Rule_isSummerAt pc = .ok (.ireturn, 1) → narrow .boolean (.int r0) = .int r0 → W p l e R s m args below meth c s.heap [] 0 0 Q (F0 m pc ls [.int r0])) {x1 : Int64} (hf : f_Rule_isSummerAt_0 nf ruHas ebKind ebMonth ebWeek ebDay ebTime ebClock eeKind eeMonth eeWeek eeDay eeTime eeClock x1 = some r0) {ls : Array Slot} (hl : lv_has ls 3 [(0, .ref h0), (1, .long x1)]) : W p l e R s m args below meth c s.heap [] 0 0 Q (F0 m 0 ls []) := by
  obtain ⟨hx, hb, hr, hml, hown, hts, hlocks, hRf, hRl⟩ := id C0
  obtain ⟨tms, hZms, hTms, tmg, hZmg, hTmg, hNW⟩ := id hST
  unfold f_Rule_isSummerAt_0 at hf
  refine lv_aload_n hx hb d_Rule_isSummerAt_0 rfl (lv_at hl 0 rfl) ?_
  refine va_get (D := (dC, dI)) (ci := 5) (v := .int ruHas) (C := RRule) (T := TRule) (N := 12) hx hb hts in_Rule hown hK hP 0 rfl rfl 3 (by decide) (hts (.fieldLink "ZoneFiles$Rule" 33 "ZoneFiles$Rule" "hasSummer" "Z") m_1_112) (fun _ h9 => h9) rfl d_Rule_isSummerAt_1 ?_
  refine lv_if_eq (tgt := 45) hx hb d_Rule_isSummerAt_4 (by decide) (fun c_1 => ?_) (fun c_1 => ?_)
  · have hf := it_t c_1 hf
    exact k_Rule_isSummerAt_45 C0 hST hK hP hE hf (lv_sub hl [] rfl)
  · have hf := it_f c_1 hf
    refine lv_aload_n hx hb d_Rule_isSummerAt_7 rfl (lv_at hl 0 rfl) ?_
    refine va_get (D := (dC, dI)) (ci := 5) (v := .ref ruB) (C := RRule) (T := TRule) (N := 12) hx hb hts in_Rule hown hK hP 0 rfl rfl 1 (by decide) (hts (.fieldLink "ZoneFiles$Rule" 23 "ZoneFiles$Rule" "begin" "LZoneFiles$Edge;") m_1_107) (fun _ h9 => h9) rfl d_Rule_isSummerAt_8 ?_
    refine lv_aload_n hx hb d_Rule_isSummerAt_11 rfl (lv_at hl 0 rfl) ?_
    refine va_get (D := (dC, dI)) (ci := 5) (v := .ref ruB) (C := RRule) (T := TRule) (N := 12) hx hb hts in_Rule hown hK hP 0 rfl rfl 1 (by decide) (hts (.fieldLink "ZoneFiles$Rule" 23 "ZoneFiles$Rule" "begin" "LZoneFiles$Edge;") m_1_107) (fun _ h9 => h9) rfl d_Rule_isSummerAt_12 ?_
    refine lv_lload_n hx hb d_Rule_isSummerAt_15 rfl (lv_at hl 1 rfl) ?_
    obtain ⟨r_3, hc, hf⟩ := ob hf
    refine cl_S (v := (some (.long r_3))) (st1 := [.long r_3, .ref ruB]) (va_runV (As := [.long x1]) (rest := [.ref ruB]) ⟨hx, hb, hml, hown, hts⟩ (c_Edge_lastYear l dC dI ruB nf x1 ebKind ebMonth ebWeek ebDay ebTime ebClock hc) (cwV 1 hts (gdV m_4_154 m_4_155 m_4_156 m_1_5 m_4_157) rfl rfl rfl (by decide +kernel) ⟨Nat.le_trans (Nat.le_of_ble_eq_true rfl) hRf, Nat.le_trans (Nat.le_of_ble_eq_true rfl) hRl⟩) ((RO.pre (hP.sub (ws' := [(ruB, .inr (1, [.int ebKind, .int ebMonth, .int ebWeek, .int ebDay, .int ebTime, .int ebClock]))]) [1] rfl) (hK.sub (tys' := []) [] rfl) hST).vir (va_recv (hK.sub (tys' := []) [] rfl) (hP.sub (ws' := [(ruB, .inr (1, [.int ebKind, .int ebMonth, .int ebWeek, .int ebDay, .int ebTime, .int ebClock]))]) [1] rfl) (ci := 1) (q0 := 0) rfl rfl)) rfl rfl hl.1 rfl (lv_room (Nat.le_of_ble_eq_true rfl)) d_Rule_isSummerAt_16 ⟨Nat.zero_le _, Nat.zero_le _⟩) rfl ?_
    obtain ⟨r_4, hc, hf⟩ := ob hf
    refine cl_S (v := (some (.long r_4))) (st1 := [.long r_4]) (va_runV (As := [.long r_3]) (rest := []) ⟨hx, hb, hml, hown, hts⟩ (c_Edge_momentIn l dC dI ruB nf r_3 ebKind ebMonth ebWeek ebDay ebTime ebClock hc) (cwV 1 hts (gdV m_4_199 m_4_178 m_4_179 m_1_5 m_4_180) rfl rfl rfl (by decide +kernel) ⟨Nat.le_trans (Nat.le_of_ble_eq_true rfl) hRf, Nat.le_trans (Nat.le_of_ble_eq_true rfl) hRl⟩) ((RO.pre (hP.sub (ws' := [(ruB, .inr (1, [.int ebKind, .int ebMonth, .int ebWeek, .int ebDay, .int ebTime, .int ebClock]))]) [1] rfl) (hK.sub (tys' := []) [] rfl) hST).vir (va_recv (hK.sub (tys' := []) [] rfl) (hP.sub (ws' := [(ruB, .inr (1, [.int ebKind, .int ebMonth, .int ebWeek, .int ebDay, .int ebTime, .int ebClock]))]) [1] rfl) (ci := 1) (q0 := 0) rfl rfl)) rfl rfl hl.1 rfl (lv_room (Nat.le_of_ble_eq_true rfl)) d_Rule_isSummerAt_19 ⟨Nat.zero_le _, Nat.zero_le _⟩) rfl ?_
    refine lv_aload_n hx hb d_Rule_isSummerAt_22 rfl (lv_at hl 0 rfl) ?_
    refine va_get (D := (dC, dI)) (ci := 5) (v := .ref ruE) (C := RRule) (T := TRule) (N := 12) hx hb hts in_Rule hown hK hP 0 rfl rfl 2 (by decide) (hts (.fieldLink "ZoneFiles$Rule" 27 "ZoneFiles$Rule" "end" "LZoneFiles$Edge;") m_1_110) (fun _ h9 => h9) rfl d_Rule_isSummerAt_23 ?_
    refine lv_aload_n hx hb d_Rule_isSummerAt_26 rfl (lv_at hl 0 rfl) ?_
    refine va_get (D := (dC, dI)) (ci := 5) (v := .ref ruE) (C := RRule) (T := TRule) (N := 12) hx hb hts in_Rule hown hK hP 0 rfl rfl 2 (by decide) (hts (.fieldLink "ZoneFiles$Rule" 27 "ZoneFiles$Rule" "end" "LZoneFiles$Edge;") m_1_110) (fun _ h9 => h9) rfl d_Rule_isSummerAt_27 ?_
    refine lv_lload_n hx hb d_Rule_isSummerAt_30 rfl (lv_at hl 1 rfl) ?_
    obtain ⟨r_5, hc, hf⟩ := ob hf
    refine cl_S (v := (some (.long r_5))) (st1 := [.long r_5, .ref ruE, .long r_4]) (va_runV (As := [.long x1]) (rest := [.ref ruE, .long r_4]) ⟨hx, hb, hml, hown, hts⟩ (c_Edge_lastYear l dC dI ruE nf x1 eeKind eeMonth eeWeek eeDay eeTime eeClock hc) (cwV 1 hts (gdV m_4_154 m_4_155 m_4_156 m_1_5 m_4_157) rfl rfl rfl (by decide +kernel) ⟨Nat.le_trans (Nat.le_of_ble_eq_true rfl) hRf, Nat.le_trans (Nat.le_of_ble_eq_true rfl) hRl⟩) ((RO.pre (hP.sub (ws' := [(ruE, .inr (1, [.int eeKind, .int eeMonth, .int eeWeek, .int eeDay, .int eeTime, .int eeClock]))]) [2] rfl) (hK.sub (tys' := []) [] rfl) hST).vir (va_recv (hK.sub (tys' := []) [] rfl) (hP.sub (ws' := [(ruE, .inr (1, [.int eeKind, .int eeMonth, .int eeWeek, .int eeDay, .int eeTime, .int eeClock]))]) [2] rfl) (ci := 1) (q0 := 0) rfl rfl)) rfl rfl hl.1 rfl (lv_room (Nat.le_of_ble_eq_true rfl)) d_Rule_isSummerAt_31 ⟨Nat.zero_le _, Nat.zero_le _⟩) rfl ?_
    obtain ⟨r_6, hc, hf⟩ := ob hf
    refine cl_S (v := (some (.long r_6))) (st1 := [.long r_6, .long r_4]) (va_runV (As := [.long r_5]) (rest := [.long r_4]) ⟨hx, hb, hml, hown, hts⟩ (c_Edge_momentIn l dC dI ruE nf r_5 eeKind eeMonth eeWeek eeDay eeTime eeClock hc) (cwV 1 hts (gdV m_4_199 m_4_178 m_4_179 m_1_5 m_4_180) rfl rfl rfl (by decide +kernel) ⟨Nat.le_trans (Nat.le_of_ble_eq_true rfl) hRf, Nat.le_trans (Nat.le_of_ble_eq_true rfl) hRl⟩) ((RO.pre (hP.sub (ws' := [(ruE, .inr (1, [.int eeKind, .int eeMonth, .int eeWeek, .int eeDay, .int eeTime, .int eeClock]))]) [2] rfl) (hK.sub (tys' := []) [] rfl) hST).vir (va_recv (hK.sub (tys' := []) [] rfl) (hP.sub (ws' := [(ruE, .inr (1, [.int eeKind, .int eeMonth, .int eeWeek, .int eeDay, .int eeTime, .int eeClock]))]) [2] rfl) (ci := 1) (q0 := 0) rfl rfl)) rfl rfl hl.1 rfl (lv_room (Nat.le_of_ble_eq_true rfl)) d_Rule_isSummerAt_34 ⟨Nat.zero_le _, Nat.zero_le _⟩) rfl ?_
    refine lc_lt (tgt := 45) hx hb d_Rule_isSummerAt_37 d_Rule_isSummerAt_38 (by decide) (fun c_7 => ?_) (fun c_7 => ?_)
    · have hf := it_t c_7 hf
      exact k_Rule_isSummerAt_45 C0 hST hK hP hE hf (lv_sub hl [] rfl)
    · have hf := it_f c_7 hf
      refine lv_iconst (v := 1) hx hb d_Rule_isSummerAt_41 (by decide) ?_
      refine lv_goto (tgt := 46) hx hb d_Rule_isSummerAt_42 (by decide) ?_
      exact k_Rule_isSummerAt_46 C0 hST hK hP hE hf (lv_sub hl [] rfl)
end
set_option maxHeartbeats 400000 in
set_option maxRecDepth 100000 in
theorem c_Rule_isSummerAt (l : Launch) (dC : Nat → ClassId) (dI : Nat → Nat → Nat) (h0 : Nat) (ruT : Nat) (ruB : Nat) (ruE : Nat) (nf : Nat) (p0 : Int64) (ruHas : Int32) (ruWide : Int32) (ruSo : Int32) (ruUo : Int32) (ruSp : Int32) (ruSs : Int32) (ruUp : Int32) (ruUs : Int32) (ruNev : Int32) (ebKind : Int32) (ebMonth : Int32) (ebWeek : Int32) (ebDay : Int32) (ebTime : Int32) (ebClock : Int32) (eeKind : Int32) (eeMonth : Int32) (eeWeek : Int32) (eeDay : Int32) (eeTime : Int32) (eeClock : Int32) {r0 : Int32} (hf : f_Rule_isSummerAt nf p0 ruHas ebKind ebMonth ebWeek ebDay ebTime ebClock eeKind eeMonth eeWeek eeDay eeTime eeClock = some r0) : Met l y_Rule_isSummerAt (wd y_Rule_isSummerAt b_Rule_isSummerAt 3 (some .boolean)) ({ frames := 4, cells := 0, slots := 0, locals := 103 }) (RO dC dI [(h0, .inr (5, [.ref ruT, .ref ruB, .ref ruE, .int ruHas, .int ruWide, .int ruSo, .int ruUo, .int ruSp, .int ruSs, .int ruUp, .int ruUs, .int ruNev])), (ruB, .inr (1, [.int ebKind, .int ebMonth, .int ebWeek, .int ebDay, .int ebTime, .int ebClock])), (ruE, .inr (1, [.int eeKind, .int eeMonth, .int eeWeek, .int eeDay, .int eeTime, .int eeClock]))] [] [.ref h0, .long p0]) (SV (some (.int r0))) 0 0 (fun _ => False) :=
  met_S (plainFor_of_name (by decide)) (Nat.le_of_ble_eq_true rfl) (fun p e R s m args below meth c ls C0 hST hK hP hl => by
    obtain ⟨hx, hb, hr, hml, hown, hts, hlocks, hRf, hRl⟩ := id C0
    unfold f_Rule_isSummerAt at hf
    exact k_Rule_isSummerAt_0 C0 hST hK hP (fun pc ls hd hn => W.zret hx hb hr hn (fun t ht hW => ⟨rfl, ht⟩) (fun q h => by cases h) hd) hf (lv_sub hl [0, 1] rfl))
-- ZoneFiles$Rule.changeAbove(J)J
def f_Rule_changeAbove_14 (nf : Nat) (w0_11 : Int32) : Option ((Int64 × Int32) × Nat × Nat) :=
  some (((-9223372036854775808), w0_11), 0, 0)
def f_Rule_changeAbove_37 (nf : Nat) (ebKind : Int32) (ebMonth : Int32) (ebWeek : Int32) (ebDay : Int32) (ebTime : Int32) (ebClock : Int32) (eeKind : Int32) (eeMonth : Int32) (eeWeek : Int32) (eeDay : Int32) (eeTime : Int32) (eeClock : Int32) : Nat → Int32 → Int32 → Int32 → Int64 → Int64 → Int64 → Int64 → Option ((Int64 × Int32) × Nat × Nat)
  | 0, _, _, _, _, _, _, _ => none
  | n + 1, x5, x4, w0_11, w3_1, w3_2, w3_3, w3_4 =>
    if (810 : Int32) ≤ x5 then
    some (((-9223372036854775808), 1), 0, 0)
    else
    (f_Walk_goForward nf w3_1 w3_2 w3_3 w3_4 ebKind ebMonth ebWeek ebDay ebTime ebClock eeKind eeMonth eeWeek eeDay eeTime eeClock).bind fun (z_10, z_11, z_12, z_13) =>
      (f_Walk_moment nf z_12 z_13).bind fun r_14 =>
      if r_14 ≤ (1152921504606846975 : Int64) then
      (f_Walk_isSummer nf z_12 z_13).bind fun r_16 =>
        if r_16 = x4 then
        f_Rule_changeAbove_37 nf ebKind ebMonth ebWeek ebDay ebTime ebClock eeKind eeMonth eeWeek eeDay eeTime eeClock n (x5 + 1) x4 w0_11 z_10 z_11 z_12 z_13
        else
        (f_Walk_moment nf z_12 z_13).bind fun r_18 =>
          some ((r_18, w0_11), 0, 0)
      else
      some (((-9223372036854775808), w0_11), 0, 0)
def f_Rule_changeAbove_0 (nf : Nat) (ruHas : Int32) (ebKind : Int32) (ebMonth : Int32) (ebWeek : Int32) (ebDay : Int32) (ebTime : Int32) (ebClock : Int32) (eeKind : Int32) (eeMonth : Int32) (eeWeek : Int32) (eeDay : Int32) (eeTime : Int32) (eeClock : Int32) (x1 : Int64) (w0_11 : Int32) : Option ((Int64 × Int32) × Nat × Nat) :=
  if ruHas = 0 then
  f_Rule_changeAbove_14 nf w0_11
  else
  if w0_11 = 0 then
    ad 1 5 ((f_Walk_init nf x1 ebKind ebMonth ebWeek ebDay ebTime ebClock eeKind eeMonth eeWeek eeDay eeTime eeClock).bind fun (z_4, z_5, z_6, z_7) =>
      (f_Walk_isSummer nf z_6 z_7).bind fun r_8 =>
      f_Rule_changeAbove_37 nf ebKind ebMonth ebWeek ebDay ebTime ebClock eeKind eeMonth eeWeek eeDay eeTime eeClock nf 0 r_8 w0_11 z_4 z_5 z_6 z_7)
    else
    f_Rule_changeAbove_14 nf w0_11
def f_Rule_changeAbove (nf : Nat) (p0 : Int64) (ruHas : Int32) (ruNev : Int32) (ebKind : Int32) (ebMonth : Int32) (ebWeek : Int32) (ebDay : Int32) (ebTime : Int32) (ebClock : Int32) (eeKind : Int32) (eeMonth : Int32) (eeWeek : Int32) (eeDay : Int32) (eeTime : Int32) (eeClock : Int32) : Option ((Int64 × Int32) × Nat × Nat) :=
  f_Rule_changeAbove_0 nf ruHas ebKind ebMonth ebWeek ebDay ebTime ebClock eeKind eeMonth eeWeek eeDay eeTime eeClock p0 ruNev
section
variable {p : Program} {l : Launch} {e : Env} {R : Room} {s : State} {m : MethodId} {args : Array Value} {below : List Frame} {meth : Method} {c : Code} {Q : State → Prop} {dC : Nat → ClassId} {dI : Nat → Nat → Nat} {nf : Nat} {A : Nat → Prop}
variable {h0 : Nat} {ruT : Nat} {ruB : Nat} {ruE : Nat} {ruHas : Int32} {ruWide : Int32} {ruSo : Int32} {ruUo : Int32} {ruSp : Int32} {ruSs : Int32} {ruUp : Int32} {ruUs : Int32} {ruNev : Int32} {ebKind : Int32} {ebMonth : Int32} {ebWeek : Int32} {ebDay : Int32} {ebTime : Int32} {ebClock : Int32} {eeKind : Int32} {eeMonth : Int32} {eeWeek : Int32} {eeDay : Int32} {eeTime : Int32} {eeClock : Int32} {r0 : Int64} {v0_11 : Int32}
set_option maxHeartbeats 400000 in
set_option maxRecDepth 100000 in
theorem k_Rule_changeAbove_14 (C0 : Cx p s m meth c args R b_Rule_changeAbove "ZoneFiles$Rule" 6 (some .long) 5 126) (hST : ST A s s.heap) (hA : ∀ q, s.heap.size ≤ q → A q) (hE : ∀ (pc : Nat) (ls : Array Slot) (H : Heap) (locs : List Loc), decode b_Rule_changeAbove pc = .ok (.lreturn, 1) → va_P (dC, dI) classes [(h0, .inr (5, [.ref ruT, .ref ruB, .ref ruE, .int ruHas, .int ruWide, .int ruSo, .int ruUo, .int ruSp, .int ruSs, .int ruUp, .int ruUs, .int v0_11])), (ruB, .inr (1, [.int ebKind, .int ebMonth, .int ebWeek, .int ebDay, .int ebTime, .int ebClock])), (ruE, .inr (1, [.int eeKind, .int eeMonth, .int eeWeek, .int eeDay, .int eeTime, .int eeClock]))] H → va_D A [(h0, .inr (5, [.ref ruT, .ref ruB, .ref ruE, .int ruHas, .int ruWide, .int ruSo, .int ruUo, .int ruSp, .int ruSs, .int ruUp, .int ruUs, .int v0_11])), (ruB, .inr (1, [.int ebKind, .int ebMonth, .int ebWeek, .int ebDay, .int ebTime, .int ebClock])), (ruE, .inr (1, [.int eeKind, .int eeMonth, .int eeWeek, .int eeDay, .int eeTime, .int eeClock]))] → va_S A s.heap H locs → va_K (dC, dI) classes [] s → W p l e R s m args below meth c H locs R.cells R.slots Q (F0 m pc ls [.long r0])) {w0_11 : Int32} {kc ks : Nat} (hf : f_Rule_changeAbove_14 nf w0_11 = some ((r0, v0_11), kc, ks)) {cells slots : Nat} {H : Heap} {locs : List Loc} {ls : Array Slot} (hK : va_K (dC, dI) classes [] s) (hP : va_P (dC, dI) classes [(h0, .inr (5, [.ref ruT, .ref ruB, .ref ruE, .int ruHas, .int ruWide, .int ruSo, .int ruUo, .int ruSp, .int ruSs, .int ruUp, .int ruUs, .int w0_11])), (ruB, .inr (1, [.int ebKind, .int ebMonth, .int ebWeek, .int ebDay, .int ebTime, .int ebClock])), (ruE, .inr (1, [.int eeKind, .int eeMonth, .int eeWeek, .int eeDay, .int eeTime, .int eeClock]))] H) (hD : va_D A [(h0, .inr (5, [.ref ruT, .ref ruB, .ref ruE, .int ruHas, .int ruWide, .int ruSo, .int ruUo, .int ruSp, .int ruSs, .int ruUp, .int ruUs, .int w0_11])), (ruB, .inr (1, [.int ebKind, .int ebMonth, .int ebWeek, .int ebDay, .int ebTime, .int ebClock])), (ruE, .inr (1, [.int eeKind, .int eeMonth, .int eeWeek, .int eeDay, .int eeTime, .int eeClock]))]) (hS : va_S A s.heap H locs) (hkc : cells + kc = R.cells) (hks : slots + ks = R.slots) (hl : lv_has ls 6 []) : W p l e R s m args below meth c H locs cells slots Q (F0 m 14 ls []) := by
  obtain ⟨hx, hb, hr, hml, hown, hts, hlocks, hRf, hRl⟩ := id C0
  obtain ⟨tms, hZms, hTms, tmg, hZmg, hTmg, hNW⟩ := id hST
  unfold f_Rule_changeAbove_14 at hf
  refine lv_ldc2 (v := (-9223372036854775808)) hx hb hown (hts (.constantLong "ZoneFiles$Rule" 72 (-9223372036854775808)) m_5_154) d_Rule_changeAbove_14 ?_
  cases rs hf
  have hkc : cells = R.cells := hkc
  have hks : slots = R.slots := hks
  subst hkc; subst hks
  exact hE _ _ _ _ d_Rule_changeAbove_17 hP hD hS hK
set_option maxHeartbeats 400000 in
set_option maxRecDepth 100000 in
theorem k_Rule_changeAbove_37 (C0 : Cx p s m meth c args R b_Rule_changeAbove "ZoneFiles$Rule" 6 (some .long) 5 126) (hST : ST A s s.heap) (hA : ∀ q, s.heap.size ≤ q → A q) (hE : ∀ (pc : Nat) (ls : Array Slot) (H : Heap) (locs : List Loc), decode b_Rule_changeAbove pc = .ok (.lreturn, 1) → va_P (dC, dI) classes [(h0, .inr (5, [.ref ruT, .ref ruB, .ref ruE, .int ruHas, .int ruWide, .int ruSo, .int ruUo, .int ruSp, .int ruSs, .int ruUp, .int ruUs, .int v0_11])), (ruB, .inr (1, [.int ebKind, .int ebMonth, .int ebWeek, .int ebDay, .int ebTime, .int ebClock])), (ruE, .inr (1, [.int eeKind, .int eeMonth, .int eeWeek, .int eeDay, .int eeTime, .int eeClock]))] H → va_D A [(h0, .inr (5, [.ref ruT, .ref ruB, .ref ruE, .int ruHas, .int ruWide, .int ruSo, .int ruUo, .int ruSp, .int ruSs, .int ruUp, .int ruUs, .int v0_11])), (ruB, .inr (1, [.int ebKind, .int ebMonth, .int ebWeek, .int ebDay, .int ebTime, .int ebClock])), (ruE, .inr (1, [.int eeKind, .int eeMonth, .int eeWeek, .int eeDay, .int eeTime, .int eeClock]))] → va_S A s.heap H locs → va_K (dC, dI) classes [] s → W p l e R s m args below meth c H locs R.cells R.slots Q (F0 m pc ls [.long r0])) : ∀ (n : Nat) {x5 : Int32} {x4 : Int32} {w0_11 : Int32} {w3_1 : Int64} {w3_2 : Int64} {w3_3 : Int64} {w3_4 : Int64} {kc ks : Nat}, f_Rule_changeAbove_37 nf ebKind ebMonth ebWeek ebDay ebTime ebClock eeKind eeMonth eeWeek eeDay eeTime eeClock n x5 x4 w0_11 w3_1 w3_2 w3_3 w3_4 = some ((r0, v0_11), kc, ks) → ∀ {q3 : Nat} {cells slots : Nat} {H : Heap} {locs : List Loc} {ls : Array Slot}, va_K (dC, dI) classes [] s → va_P (dC, dI) classes [(h0, .inr (5, [.ref ruT, .ref ruB, .ref ruE, .int ruHas, .int ruWide, .int ruSo, .int ruUo, .int ruSp, .int ruSs, .int ruUp, .int ruUs, .int w0_11])), (ruB, .inr (1, [.int ebKind, .int ebMonth, .int ebWeek, .int ebDay, .int ebTime, .int ebClock])), (ruE, .inr (1, [.int eeKind, .int eeMonth, .int eeWeek, .int eeDay, .int eeTime, .int eeClock])), (q3, .inr (2, [.ref h0, .long w3_1, .long w3_2, .long w3_3, .long w3_4]))] H → va_D A [(h0, .inr (5, [.ref ruT, .ref ruB, .ref ruE, .int ruHas, .int ruWide, .int ruSo, .int ruUo, .int ruSp, .int ruSs, .int ruUp, .int ruUs, .int w0_11])), (ruB, .inr (1, [.int ebKind, .int ebMonth, .int ebWeek, .int ebDay, .int ebTime, .int ebClock])), (ruE, .inr (1, [.int eeKind, .int eeMonth, .int eeWeek, .int eeDay, .int eeTime, .int eeClock])), (q3, .inr (2, [.ref h0, .long w3_1, .long w3_2, .long w3_3, .long w3_4]))] → va_S A s.heap H locs → cells + kc = R.cells → slots + ks = R.slots → lv_has ls 6 [(5, .int x5), (4, .int x4), (3, .ref q3), (0, .ref h0)] → W p l e R s m args below meth c H locs cells slots Q (F0 m 37 ls []) := by
  obtain ⟨hx, hb, hr, hml, hown, hts, hlocks, hRf, hRl⟩ := id C0
  obtain ⟨tms, hZms, hTms, tmg, hZmg, hTmg, hNW⟩ := id hST
  intro n
  induction n with
  | zero =>
    intro x5 x4 w0_11 w3_1 w3_2 w3_3 w3_4 kc ks hf
    exact absurd hf (by simp [f_Rule_changeAbove_37])
  | succ n ih =>
    intro x5 x4 w0_11 w3_1 w3_2 w3_3 w3_4 kc ks hf q3 cells slots H locs ls hK hP hD hS hkc hks hl
    unfold f_Rule_changeAbove_37 at hf
    refine lv_iload hx hb d_Rule_changeAbove_37 (lv_at hl 0 rfl) ?_
    refine lv_sipush (v := 810) hx hb d_Rule_changeAbove_39 (by decide) ?_
    refine lv_icmp_ge (tgt := 84) hx hb d_Rule_changeAbove_42 (by decide) (fun c_9 => ?_) (fun c_9 => ?_)
    · have hf := it_t c_9 hf
      refine lv_aload_n hx hb d_Rule_changeAbove_84 rfl (lv_at hl 3 rfl) ?_
      refine lv_iconst (v := 1) hx hb d_Rule_changeAbove_85 (by decide) ?_
      refine va_put (D := (dC, dI)) (ci := 5) (v := .int 1) (ty := .boolean) (C := RRule) (T := TRule) (N := 12) hx hb hts in_Rule tyRule ty_Rule nm_Rule hown hK hP hD hS 0 rfl rfl 11 (by decide) (hts (.fieldLink "ZoneFiles$Rule" 59 "ZoneFiles$Rule" "neverChanges" "Z") m_1_137) (fun _ h9 => h9) rfl (by decide +kernel) rfl rfl (Nat.le_of_ble_eq_true rfl) d_Rule_changeAbove_86 (fun H locs hP hD hS => ?_)
      have hP : va_P (dC, dI) classes [(h0, .inr (5, [.ref ruT, .ref ruB, .ref ruE, .int ruHas, .int ruWide, .int ruSo, .int ruUo, .int ruSp, .int ruSs, .int ruUp, .int ruUs, .int 1])), (ruB, .inr (1, [.int ebKind, .int ebMonth, .int ebWeek, .int ebDay, .int ebTime, .int ebClock])), (ruE, .inr (1, [.int eeKind, .int eeMonth, .int eeWeek, .int eeDay, .int eeTime, .int eeClock])), (q3, .inr (2, [.ref h0, .long w3_1, .long w3_2, .long w3_3, .long w3_4]))] H := hP
      have hD : va_D A [(h0, .inr (5, [.ref ruT, .ref ruB, .ref ruE, .int ruHas, .int ruWide, .int ruSo, .int ruUo, .int ruSp, .int ruSs, .int ruUp, .int ruUs, .int 1])), (ruB, .inr (1, [.int ebKind, .int ebMonth, .int ebWeek, .int ebDay, .int ebTime, .int ebClock])), (ruE, .inr (1, [.int eeKind, .int eeMonth, .int eeWeek, .int eeDay, .int eeTime, .int eeClock])), (q3, .inr (2, [.ref h0, .long w3_1, .long w3_2, .long w3_3, .long w3_4]))] := hD
      refine lv_ldc2 (v := (-9223372036854775808)) hx hb hown (hts (.constantLong "ZoneFiles$Rule" 72 (-9223372036854775808)) m_5_154) d_Rule_changeAbove_89 ?_
      cases rs hf
      have hkc : cells = R.cells := hkc
      have hks : slots = R.slots := hks
      subst hkc; subst hks
      exact hE _ _ _ _ d_Rule_changeAbove_92 (hP.sub [0, 1, 2] rfl) (hD.sub [0, 1, 2] (by decide) rfl) hS (hK.sub [] rfl)
    · have hf := it_f c_9 hf
      refine lv_aload_n hx hb d_Rule_changeAbove_45 rfl (lv_at hl 2 rfl) ?_
      obtain ⟨⟨z_10, z_11, z_12, z_13⟩, hc, hf⟩ := ob hf
      have hPc := hP.sub (ws' := [(q3, .inr (2, [.ref h0, .long w3_1, .long w3_2, .long w3_3, .long w3_4])), (h0, .inr (5, [.ref ruT, .ref ruB, .ref ruE, .int ruHas, .int ruWide, .int ruSo, .int ruUo, .int ruSp, .int ruSs, .int ruUp, .int ruUs, .int w0_11])), (ruB, .inr (1, [.int ebKind, .int ebMonth, .int ebWeek, .int ebDay, .int ebTime, .int ebClock])), (ruE, .inr (1, [.int eeKind, .int eeMonth, .int eeWeek, .int eeDay, .int eeTime, .int eeClock]))]) [3, 0, 1, 2] rfl
      have hDc := hD.sub (ws' := [(q3, .inr (2, [.ref h0, .long w3_1, .long w3_2, .long w3_3, .long w3_4])), (h0, .inr (5, [.ref ruT, .ref ruB, .ref ruE, .int ruHas, .int ruWide, .int ruSo, .int ruUo, .int ruSp, .int ruSs, .int ruUp, .int ruUs, .int w0_11])), (ruB, .inr (1, [.int ebKind, .int ebMonth, .int ebWeek, .int ebDay, .int ebTime, .int ebClock])), (ruE, .inr (1, [.int eeKind, .int eeMonth, .int eeWeek, .int eeDay, .int eeTime, .int eeClock]))]) [3, 0, 1, 2] (by decide) rfl
      have hKc := hK.sub (tys' := []) [] rfl
      have hFc := va_free (wc := [(q3, .inr (2, [.ref h0, .long w3_1, .long w3_2, .long w3_3, .long w3_4])), (h0, .inr (5, [.ref ruT, .ref ruB, .ref ruE, .int ruHas, .int ruWide, .int ruSo, .int ruUo, .int ruSp, .int ruSs, .int ruUp, .int ruUs, .int w0_11])), (ruB, .inr (1, [.int ebKind, .int ebMonth, .int ebWeek, .int ebDay, .int ebTime, .int ebClock])), (ruE, .inr (1, [.int eeKind, .int eeMonth, .int eeWeek, .int eeDay, .int eeTime, .int eeClock]))]) hD hS hA [3, 0, 1, 2] rfl
      refine cl_M (v := none) (st1 := []) (va_runV (As := []) (rest := []) ⟨hx, hb, hml, hown, hts⟩ (c_Walk_goForward l dC dI q3 h0 ruT ruB ruE H.size nf w3_1 w3_2 w3_3 w3_4 ruHas ruWide ruSo ruUo ruSp ruSs ruUp ruUs w0_11 ebKind ebMonth ebWeek ebDay ebTime ebClock eeKind eeMonth eeWeek eeDay eeTime eeClock hc) (cwV 0 hts (gdV m_5_183 m_5_184 m_5_185 m_1_21 m_5_186) rfl rfl rfl (by decide +kernel) ⟨Nat.le_trans (Nat.le_of_ble_eq_true rfl) hRf, Nat.le_trans (Nat.le_of_ble_eq_true rfl) hRl⟩) ((MU.pre hPc hKc hDc (hST.mu hS hFc)).vir (va_recv hKc hPc (ci := 2) (q0 := 0) rfl rfl)) rfl rfl hl.1 rfl (lv_room (Nat.le_of_ble_eq_true rfl)) d_Rule_changeAbove_46 ⟨c0 hkc, c0 hks⟩) rfl hS (fun q _ h => hFc q h) hFc (fun t H1 locs ht hvm hB hz1 hk1 hS => ?_)
      obtain ⟨hP1, hK1, hD1⟩ := hB
      rw [ht] at hP1
      have hK1 := va_K.moved hvm.symm hK1
      obtain ⟨hP, hD⟩ := va_join (wr := []) (w1 := [(q3, .inr (2, [.ref h0, .long z_10, .long z_11, .long z_12, .long z_13])), (h0, .inr (5, [.ref ruT, .ref ruB, .ref ruE, .int ruHas, .int ruWide, .int ruSo, .int ruUo, .int ruSp, .int ruSs, .int ruUp, .int ruUs, .int w0_11])), (ruB, .inr (1, [.int ebKind, .int ebMonth, .int ebWeek, .int ebDay, .int ebTime, .int ebClock])), (ruE, .inr (1, [.int eeKind, .int eeMonth, .int eeWeek, .int eeDay, .int eeTime, .int eeClock]))]) hP hD [3, 0, 1, 2] [] rfl rfl (by decide) (by decide) hk1 hFc hP1 hD1
      have hK := (hK.sub (tys' := []) [] rfl).app hK1
      generalize H1 = H at hP hS ⊢
      have hP := hP.sub (ws' := [(h0, .inr (5, [.ref ruT, .ref ruB, .ref ruE, .int ruHas, .int ruWide, .int ruSo, .int ruUo, .int ruSp, .int ruSs, .int ruUp, .int ruUs, .int w0_11])), (ruB, .inr (1, [.int ebKind, .int ebMonth, .int ebWeek, .int ebDay, .int ebTime, .int ebClock])), (ruE, .inr (1, [.int eeKind, .int eeMonth, .int eeWeek, .int eeDay, .int eeTime, .int eeClock])), (q3, .inr (2, [.ref h0, .long z_10, .long z_11, .long z_12, .long z_13]))]) [1, 2, 3, 0] rfl
      have hD := hD.sub (ws' := [(h0, .inr (5, [.ref ruT, .ref ruB, .ref ruE, .int ruHas, .int ruWide, .int ruSo, .int ruUo, .int ruSp, .int ruSs, .int ruUp, .int ruUs, .int w0_11])), (ruB, .inr (1, [.int ebKind, .int ebMonth, .int ebWeek, .int ebDay, .int ebTime, .int ebClock])), (ruE, .inr (1, [.int eeKind, .int eeMonth, .int eeWeek, .int eeDay, .int eeTime, .int eeClock])), (q3, .inr (2, [.ref h0, .long z_10, .long z_11, .long z_12, .long z_13]))]) [1, 2, 3, 0] (by decide) rfl
      have hK := hK.sub (tys' := []) [] rfl
      refine lv_aload_n hx hb d_Rule_changeAbove_49 rfl (lv_at hl 2 rfl) ?_
      obtain ⟨r_14, hc, hf⟩ := ob hf
      refine cl_S (v := (some (.long r_14))) (st1 := [.long r_14]) (va_runV (As := []) (rest := []) ⟨hx, hb, hml, hown, hts⟩ (c_Walk_moment l dC dI q3 h0 nf z_10 z_11 z_12 z_13 hc) (cwV 0 hts (gdV m_5_187 m_5_188 m_5_189 m_1_21 m_5_190) rfl rfl rfl (by decide +kernel) ⟨Nat.le_trans (Nat.le_of_ble_eq_true rfl) hRf, Nat.le_trans (Nat.le_of_ble_eq_true rfl) hRl⟩) ((RO.pre (hP.sub (ws' := [(q3, .inr (2, [.ref h0, .long z_10, .long z_11, .long z_12, .long z_13]))]) [3] rfl) (hK.sub (tys' := []) [] rfl) (hST.ro hS)).vir (va_recv (hK.sub (tys' := []) [] rfl) (hP.sub (ws' := [(q3, .inr (2, [.ref h0, .long z_10, .long z_11, .long z_12, .long z_13]))]) [3] rfl) (ci := 2) (q0 := 0) rfl rfl)) rfl rfl hl.1 rfl (lv_room (Nat.le_of_ble_eq_true rfl)) d_Rule_changeAbove_50 ⟨c0 hkc, c0 hks⟩) rfl ?_
      refine lv_ldc2 (v := 1152921504606846975) hx hb hown (hts (.constantLong "ZoneFiles$Rule" 90 1152921504606846975) m_5_192) d_Rule_changeAbove_53 ?_
      refine lc_le (tgt := 64) hx hb d_Rule_changeAbove_56 d_Rule_changeAbove_57 (by decide) (fun c_15 => ?_) (fun c_15 => ?_)
      · have hf := it_t c_15 hf
        refine lv_aload_n hx hb d_Rule_changeAbove_64 rfl (lv_at hl 2 rfl) ?_
        obtain ⟨r_16, hc, hf⟩ := ob hf
        refine cl_S (v := (some (.int r_16))) (st1 := [.int r_16]) (va_runV (As := []) (rest := []) ⟨hx, hb, hml, hown, hts⟩ (c_Walk_isSummer l dC dI q3 h0 nf z_10 z_11 z_12 z_13 hc) (cwV 0 hts (gdV m_5_179 m_5_180 m_5_181 m_1_21 m_5_182) rfl rfl rfl (by decide +kernel) ⟨Nat.le_trans (Nat.le_of_ble_eq_true rfl) hRf, Nat.le_trans (Nat.le_of_ble_eq_true rfl) hRl⟩) ((RO.pre (hP.sub (ws' := [(q3, .inr (2, [.ref h0, .long z_10, .long z_11, .long z_12, .long z_13]))]) [3] rfl) (hK.sub (tys' := []) [] rfl) (hST.ro hS)).vir (va_recv (hK.sub (tys' := []) [] rfl) (hP.sub (ws' := [(q3, .inr (2, [.ref h0, .long z_10, .long z_11, .long z_12, .long z_13]))]) [3] rfl) (ci := 2) (q0 := 0) rfl rfl)) rfl rfl hl.1 rfl (lv_room (Nat.le_of_ble_eq_true rfl)) d_Rule_changeAbove_65 ⟨c0 hkc, c0 hks⟩) rfl ?_
        refine lv_iload hx hb d_Rule_changeAbove_68 (lv_at hl 1 rfl) ?_
        refine lv_icmp_eq (tgt := 78) hx hb d_Rule_changeAbove_70 (by decide) (fun c_17 => ?_) (fun c_17 => ?_)
        · have hf := it_t c_17 hf
          refine lv_iinc (v := x5 + 1) (lv' := [(5, .int (x5 + 1)), (4, .int x4), (3, .ref q3), (0, .ref h0)]) hx hb d_Rule_changeAbove_78 hl (k := 0) rfl rfl (by decide) rfl (fun ls hl => ?_)
          refine lv_goto (tgt := 37) hx hb d_Rule_changeAbove_81 (by decide) ?_
          exact ih hf hK hP hD hS hkc hks (lv_sub hl [0, 1, 2, 3] rfl)
        · have hf := it_f c_17 hf
          refine lv_aload_n hx hb d_Rule_changeAbove_73 rfl (lv_at hl 2 rfl) ?_
          obtain ⟨r_18, hc, hf⟩ := ob hf
          refine cl_S (v := (some (.long r_18))) (st1 := [.long r_18]) (va_runV (As := []) (rest := []) ⟨hx, hb, hml, hown, hts⟩ (c_Walk_moment l dC dI q3 h0 nf z_10 z_11 z_12 z_13 hc) (cwV 0 hts (gdV m_5_187 m_5_188 m_5_189 m_1_21 m_5_190) rfl rfl rfl (by decide +kernel) ⟨Nat.le_trans (Nat.le_of_ble_eq_true rfl) hRf, Nat.le_trans (Nat.le_of_ble_eq_true rfl) hRl⟩) ((RO.pre (hP.sub (ws' := [(q3, .inr (2, [.ref h0, .long z_10, .long z_11, .long z_12, .long z_13]))]) [3] rfl) (hK.sub (tys' := []) [] rfl) (hST.ro hS)).vir (va_recv (hK.sub (tys' := []) [] rfl) (hP.sub (ws' := [(q3, .inr (2, [.ref h0, .long z_10, .long z_11, .long z_12, .long z_13]))]) [3] rfl) (ci := 2) (q0 := 0) rfl rfl)) rfl rfl hl.1 rfl (lv_room (Nat.le_of_ble_eq_true rfl)) d_Rule_changeAbove_74 ⟨c0 hkc, c0 hks⟩) rfl ?_
          cases rs hf
          have hkc : cells = R.cells := hkc
          have hks : slots = R.slots := hks
          subst hkc; subst hks
          exact hE _ _ _ _ d_Rule_changeAbove_77 (hP.sub [0, 1, 2] rfl) (hD.sub [0, 1, 2] (by decide) rfl) hS (hK.sub [] rfl)
      · have hf := it_f c_15 hf
        refine lv_ldc2 (v := (-9223372036854775808)) hx hb hown (hts (.constantLong "ZoneFiles$Rule" 72 (-9223372036854775808)) m_5_154) d_Rule_changeAbove_60 ?_
        cases rs hf
        have hkc : cells = R.cells := hkc
        have hks : slots = R.slots := hks
        subst hkc; subst hks
        exact hE _ _ _ _ d_Rule_changeAbove_63 (hP.sub [0, 1, 2] rfl) (hD.sub [0, 1, 2] (by decide) rfl) hS (hK.sub [] rfl)
set_option maxHeartbeats 400000 in
set_option maxRecDepth 100000 in
theorem k_Rule_changeAbove_0 (C0 : Cx p s m meth c args R b_Rule_changeAbove "ZoneFiles$Rule" 6 (some .long) 5 126) (hST : ST A s s.heap) (hA : ∀ q, s.heap.size ≤ q → A q) (hE : ∀ (pc : Nat) (ls : Array Slot) (H : Heap) (locs : List Loc), decode b_Rule_changeAbove pc = .ok (.lreturn, 1) → va_P (dC, dI) classes [(h0, .inr (5, [.ref ruT, .ref ruB, .ref ruE, .int ruHas, .int ruWide, .int ruSo, .int ruUo, .int ruSp, .int ruSs, .int ruUp, .int ruUs, .int v0_11])), (ruB, .inr (1, [.int ebKind, .int ebMonth, .int ebWeek, .int ebDay, .int ebTime, .int ebClock])), (ruE, .inr (1, [.int eeKind, .int eeMonth, .int eeWeek, .int eeDay, .int eeTime, .int eeClock]))] H → va_D A [(h0, .inr (5, [.ref ruT, .ref ruB, .ref ruE, .int ruHas, .int ruWide, .int ruSo, .int ruUo, .int ruSp, .int ruSs, .int ruUp, .int ruUs, .int v0_11])), (ruB, .inr (1, [.int ebKind, .int ebMonth, .int ebWeek, .int ebDay, .int ebTime, .int ebClock])), (ruE, .inr (1, [.int eeKind, .int eeMonth, .int eeWeek, .int eeDay, .int eeTime, .int eeClock]))] → va_S A s.heap H locs → va_K (dC, dI) classes [] s → W p l e R s m args below meth c H locs R.cells R.slots Q (F0 m pc ls [.long r0])) {x1 : Int64} {w0_11 : Int32} {kc ks : Nat} (hf : f_Rule_changeAbove_0 nf ruHas ebKind ebMonth ebWeek ebDay ebTime ebClock eeKind eeMonth eeWeek eeDay eeTime eeClock x1 w0_11 = some ((r0, v0_11), kc, ks)) {cells slots : Nat} {H : Heap} {locs : List Loc} {ls : Array Slot} (hK : va_K (dC, dI) classes [] s) (hP : va_P (dC, dI) classes [(h0, .inr (5, [.ref ruT, .ref ruB, .ref ruE, .int ruHas, .int ruWide, .int ruSo, .int ruUo, .int ruSp, .int ruSs, .int ruUp, .int ruUs, .int w0_11])), (ruB, .inr (1, [.int ebKind, .int ebMonth, .int ebWeek, .int ebDay, .int ebTime, .int ebClock])), (ruE, .inr (1, [.int eeKind, .int eeMonth, .int eeWeek, .int eeDay, .int eeTime, .int eeClock]))] H) (hD : va_D A [(h0, .inr (5, [.ref ruT, .ref ruB, .ref ruE, .int ruHas, .int ruWide, .int ruSo, .int ruUo, .int ruSp, .int ruSs, .int ruUp, .int ruUs, .int w0_11])), (ruB, .inr (1, [.int ebKind, .int ebMonth, .int ebWeek, .int ebDay, .int ebTime, .int ebClock])), (ruE, .inr (1, [.int eeKind, .int eeMonth, .int eeWeek, .int eeDay, .int eeTime, .int eeClock]))]) (hS : va_S A s.heap H locs) (hkc : cells + kc = R.cells) (hks : slots + ks = R.slots) (hl : lv_has ls 6 [(0, .ref h0), (1, .long x1)]) : W p l e R s m args below meth c H locs cells slots Q (F0 m 0 ls []) := by
  obtain ⟨hx, hb, hr, hml, hown, hts, hlocks, hRf, hRl⟩ := id C0
  obtain ⟨tms, hZms, hTms, tmg, hZmg, hTmg, hNW⟩ := id hST
  unfold f_Rule_changeAbove_0 at hf
  refine lv_aload_n hx hb d_Rule_changeAbove_0 rfl (lv_at hl 0 rfl) ?_
  refine va_get (D := (dC, dI)) (ci := 5) (v := .int ruHas) (C := RRule) (T := TRule) (N := 12) hx hb hts in_Rule hown hK hP 0 rfl rfl 3 (by decide) (hts (.fieldLink "ZoneFiles$Rule" 33 "ZoneFiles$Rule" "hasSummer" "Z") m_1_112) (fun _ h9 => h9) rfl d_Rule_changeAbove_1 ?_
  refine lv_if_eq (tgt := 14) hx hb d_Rule_changeAbove_4 (by decide) (fun c_1 => ?_) (fun c_1 => ?_)
  · have hf := it_t c_1 hf
    exact k_Rule_changeAbove_14 C0 hST hA hE hf hK hP hD hS hkc hks (lv_sub hl [] rfl)
  · have hf := it_f c_1 hf
    refine lv_aload_n hx hb d_Rule_changeAbove_7 rfl (lv_at hl 0 rfl) ?_
    refine va_get (D := (dC, dI)) (ci := 5) (v := .int w0_11) (C := RRule) (T := TRule) (N := 12) hx hb hts in_Rule hown hK hP 0 rfl rfl 11 (by decide) (hts (.fieldLink "ZoneFiles$Rule" 59 "ZoneFiles$Rule" "neverChanges" "Z") m_1_137) (fun _ h9 => h9) rfl d_Rule_changeAbove_8 ?_
    refine lv_if_eq (tgt := 18) hx hb d_Rule_changeAbove_11 (by decide) (fun c_2 => ?_) (fun c_2 => ?_)
    · have hf := it_t c_2 hf
      obtain ⟨kc, ks, hf, ekc, eks⟩ := oa hf
      refine va_new (ci := 2) (fs := [.null, .long 0, .long 0, .long 0, .long 0]) (C := REdgeWalk) (T := TEdgeWalk) (N := 5) hx hb hts in_EdgeWalk tyEdgeWalk ty_EdgeWalk hown (hts (.classLink "ZoneFiles$Rule" 74 "ZoneFiles$EdgeWalk") m_5_155) (hts (.instantiable "ZoneFiles$EdgeWalk" 5) m_5_156) (hts (.initialized "ZoneFiles$EdgeWalk") m_1_21) hK hP hD hS hA rfl (fun j hj => by match j, hj with | 0, _ => exact rfl | 1, _ => exact rfl | 2, _ => exact rfl | 3, _ => exact rfl | 4, _ => exact rfl | n + 5, h => exact absurd h (by omega)) (cb hkc ekc) (cb hks eks) d_Rule_changeAbove_18 (fun qn_3 H hP hD hS => ?_)
      have hP : va_P (dC, dI) classes [(h0, .inr (5, [.ref ruT, .ref ruB, .ref ruE, .int ruHas, .int ruWide, .int ruSo, .int ruUo, .int ruSp, .int ruSs, .int ruUp, .int ruUs, .int w0_11])), (ruB, .inr (1, [.int ebKind, .int ebMonth, .int ebWeek, .int ebDay, .int ebTime, .int ebClock])), (ruE, .inr (1, [.int eeKind, .int eeMonth, .int eeWeek, .int eeDay, .int eeTime, .int eeClock])), (qn_3, .inr (2, [.null, .long 0, .long 0, .long 0, .long 0]))] H := hP
      have hD : va_D A [(h0, .inr (5, [.ref ruT, .ref ruB, .ref ruE, .int ruHas, .int ruWide, .int ruSo, .int ruUo, .int ruSp, .int ruSs, .int ruUp, .int ruUs, .int w0_11])), (ruB, .inr (1, [.int ebKind, .int ebMonth, .int ebWeek, .int ebDay, .int ebTime, .int ebClock])), (ruE, .inr (1, [.int eeKind, .int eeMonth, .int eeWeek, .int eeDay, .int eeTime, .int eeClock])), (qn_3, .inr (2, [.null, .long 0, .long 0, .long 0, .long 0]))] := hD
      have hkc := ck hkc ekc
      have hks := ck hks eks
      generalize cells + 1 = cells at hkc ⊢
      generalize slots + 5 = slots at hks ⊢
      refine lv_dup hx hb d_Rule_changeAbove_21 rfl ?_
      refine lv_aload_n hx hb d_Rule_changeAbove_22 rfl (lv_at hl 0 rfl) ?_
      refine lv_lload_n hx hb d_Rule_changeAbove_23 rfl (lv_at hl 1 rfl) ?_
      obtain ⟨⟨z_4, z_5, z_6, z_7⟩, hc, hf⟩ := ob hf
      have hPc := hP.sub (ws' := [(qn_3, .inr (2, [.null, .long 0, .long 0, .long 0, .long 0])), (h0, .inr (5, [.ref ruT, .ref ruB, .ref ruE, .int ruHas, .int ruWide, .int ruSo, .int ruUo, .int ruSp, .int ruSs, .int ruUp, .int ruUs, .int w0_11])), (ruB, .inr (1, [.int ebKind, .int ebMonth, .int ebWeek, .int ebDay, .int ebTime, .int ebClock])), (ruE, .inr (1, [.int eeKind, .int eeMonth, .int eeWeek, .int eeDay, .int eeTime, .int eeClock]))]) [3, 0, 1, 2] rfl
      have hDc := hD.sub (ws' := [(qn_3, .inr (2, [.null, .long 0, .long 0, .long 0, .long 0])), (h0, .inr (5, [.ref ruT, .ref ruB, .ref ruE, .int ruHas, .int ruWide, .int ruSo, .int ruUo, .int ruSp, .int ruSs, .int ruUp, .int ruUs, .int w0_11])), (ruB, .inr (1, [.int ebKind, .int ebMonth, .int ebWeek, .int ebDay, .int ebTime, .int ebClock])), (ruE, .inr (1, [.int eeKind, .int eeMonth, .int eeWeek, .int eeDay, .int eeTime, .int eeClock]))]) [3, 0, 1, 2] (by decide) rfl
      have hKc := hK.sub (tys' := []) [] rfl
      have hFc := va_free (wc := [(qn_3, .inr (2, [.null, .long 0, .long 0, .long 0, .long 0])), (h0, .inr (5, [.ref ruT, .ref ruB, .ref ruE, .int ruHas, .int ruWide, .int ruSo, .int ruUo, .int ruSp, .int ruSs, .int ruUp, .int ruUs, .int w0_11])), (ruB, .inr (1, [.int ebKind, .int ebMonth, .int ebWeek, .int ebDay, .int ebTime, .int ebClock])), (ruE, .inr (1, [.int eeKind, .int eeMonth, .int eeWeek, .int eeDay, .int eeTime, .int eeClock]))]) hD hS hA [3, 0, 1, 2] rfl
      refine cl_M (v := none) (st1 := [.ref qn_3]) (va_runI (As := [.ref h0, .long x1]) (rest := [.ref qn_3]) ⟨hx, hb, hml, hown, hts⟩ (c_Walk_init l dC dI qn_3 h0 ruT ruB ruE H.size nf x1 ruHas ruWide ruSo ruUo ruSp ruSs ruUp ruUs w0_11 ebKind ebMonth ebWeek ebDay ebTime ebClock eeKind eeMonth eeWeek eeDay eeTime eeClock hc) (cwI 2 hts (gd_of m_5_159) rfl rfl rfl (hts (.initialized "ZoneFiles$EdgeWalk") m_1_21) (hts (.methodLink "ZoneFiles$Rule" 76 ⟨"ZoneFiles$EdgeWalk", "<init>", "(LZoneFiles$Rule;J)V"⟩) m_5_157) (hts (.instanceMethod ⟨"ZoneFiles$EdgeWalk", "<init>", "(LZoneFiles$Rule;J)V"⟩) m_5_158) rfl (by decide +kernel) ⟨Nat.le_trans (Nat.le_of_ble_eq_true rfl) hRf, Nat.le_trans (Nat.le_of_ble_eq_true rfl) hRl⟩) (MU.pre hPc hKc hDc (hST.mu hS hFc)).sta rfl rfl hl.1 rfl (lv_room (Nat.le_of_ble_eq_true rfl)) d_Rule_changeAbove_24 ⟨c0 hkc, c0 hks⟩) rfl hS (fun q _ h => hFc q h) hFc (fun t H1 locs ht hvm hB hz1 hk1 hS => ?_)
      obtain ⟨hP1, hK1, hD1⟩ := hB
      rw [ht] at hP1
      have hK1 := va_K.moved hvm.symm hK1
      obtain ⟨hP, hD⟩ := va_join (wr := []) (w1 := [(qn_3, .inr (2, [.ref h0, .long z_4, .long z_5, .long z_6, .long z_7])), (h0, .inr (5, [.ref ruT, .ref ruB, .ref ruE, .int ruHas, .int ruWide, .int ruSo, .int ruUo, .int ruSp, .int ruSs, .int ruUp, .int ruUs, .int w0_11])), (ruB, .inr (1, [.int ebKind, .int ebMonth, .int ebWeek, .int ebDay, .int ebTime, .int ebClock])), (ruE, .inr (1, [.int eeKind, .int eeMonth, .int eeWeek, .int eeDay, .int eeTime, .int eeClock]))]) hP hD [3, 0, 1, 2] [] rfl rfl (by decide) (by decide) hk1 hFc hP1 hD1
      have hK := (hK.sub (tys' := []) [] rfl).app hK1
      generalize H1 = H at hP hS ⊢
      have hP := hP.sub (ws' := [(h0, .inr (5, [.ref ruT, .ref ruB, .ref ruE, .int ruHas, .int ruWide, .int ruSo, .int ruUo, .int ruSp, .int ruSs, .int ruUp, .int ruUs, .int w0_11])), (ruB, .inr (1, [.int ebKind, .int ebMonth, .int ebWeek, .int ebDay, .int ebTime, .int ebClock])), (ruE, .inr (1, [.int eeKind, .int eeMonth, .int eeWeek, .int eeDay, .int eeTime, .int eeClock])), (qn_3, .inr (2, [.ref h0, .long z_4, .long z_5, .long z_6, .long z_7]))]) [1, 2, 3, 0] rfl
      have hD := hD.sub (ws' := [(h0, .inr (5, [.ref ruT, .ref ruB, .ref ruE, .int ruHas, .int ruWide, .int ruSo, .int ruUo, .int ruSp, .int ruSs, .int ruUp, .int ruUs, .int w0_11])), (ruB, .inr (1, [.int ebKind, .int ebMonth, .int ebWeek, .int ebDay, .int ebTime, .int ebClock])), (ruE, .inr (1, [.int eeKind, .int eeMonth, .int eeWeek, .int eeDay, .int eeTime, .int eeClock])), (qn_3, .inr (2, [.ref h0, .long z_4, .long z_5, .long z_6, .long z_7]))]) [1, 2, 3, 0] (by decide) rfl
      have hK := hK.sub (tys' := []) [] rfl
      refine lv_astore_n (lv' := [(3, .ref qn_3), (0, .ref h0), (1, .long x1)]) hx hb d_Rule_changeAbove_27 rfl hl (by decide) rfl (fun ls hl => ?_)
      refine lv_aload_n hx hb d_Rule_changeAbove_28 rfl (lv_at hl 0 rfl) ?_
      obtain ⟨r_8, hc, hf⟩ := ob hf
      refine cl_S (v := (some (.int r_8))) (st1 := [.int r_8]) (va_runV (As := []) (rest := []) ⟨hx, hb, hml, hown, hts⟩ (c_Walk_isSummer l dC dI qn_3 h0 nf z_4 z_5 z_6 z_7 hc) (cwV 0 hts (gdV m_5_179 m_5_180 m_5_181 m_1_21 m_5_182) rfl rfl rfl (by decide +kernel) ⟨Nat.le_trans (Nat.le_of_ble_eq_true rfl) hRf, Nat.le_trans (Nat.le_of_ble_eq_true rfl) hRl⟩) ((RO.pre (hP.sub (ws' := [(qn_3, .inr (2, [.ref h0, .long z_4, .long z_5, .long z_6, .long z_7]))]) [3] rfl) (hK.sub (tys' := []) [] rfl) (hST.ro hS)).vir (va_recv (hK.sub (tys' := []) [] rfl) (hP.sub (ws' := [(qn_3, .inr (2, [.ref h0, .long z_4, .long z_5, .long z_6, .long z_7]))]) [3] rfl) (ci := 2) (q0 := 0) rfl rfl)) rfl rfl hl.1 rfl (lv_room (Nat.le_of_ble_eq_true rfl)) d_Rule_changeAbove_29 ⟨c0 hkc, c0 hks⟩) rfl ?_
      refine lv_istore (lv' := [(4, .int r_8), (3, .ref qn_3), (0, .ref h0), (1, .long x1)]) hx hb d_Rule_changeAbove_32 hl (by decide) rfl (fun ls hl => ?_)
      refine lv_iconst (v := 0) hx hb d_Rule_changeAbove_34 (by decide) ?_
      refine lv_istore (lv' := [(5, .int 0), (4, .int r_8), (3, .ref qn_3), (0, .ref h0), (1, .long x1)]) hx hb d_Rule_changeAbove_35 hl (by decide) rfl (fun ls hl => ?_)
      exact k_Rule_changeAbove_37 C0 hST hA hE nf hf hK hP hD hS hkc hks (lv_sub hl [0, 1, 2, 3] rfl)
    · have hf := it_f c_2 hf
      exact k_Rule_changeAbove_14 C0 hST hA hE hf hK hP hD hS hkc hks (lv_sub hl [] rfl)
end
set_option maxHeartbeats 400000 in
set_option maxRecDepth 100000 in
theorem c_Rule_changeAbove (l : Launch) (dC : Nat → ClassId) (dI : Nat → Nat → Nat) (h0 : Nat) (ruT : Nat) (ruB : Nat) (ruE : Nat) (sz : Nat) (nf : Nat) (p0 : Int64) (ruHas : Int32) (ruWide : Int32) (ruSo : Int32) (ruUo : Int32) (ruSp : Int32) (ruSs : Int32) (ruUp : Int32) (ruUs : Int32) (ruNev : Int32) (ebKind : Int32) (ebMonth : Int32) (ebWeek : Int32) (ebDay : Int32) (ebTime : Int32) (ebClock : Int32) (eeKind : Int32) (eeMonth : Int32) (eeWeek : Int32) (eeDay : Int32) (eeTime : Int32) (eeClock : Int32) {r0 : Int64} {v0_11 : Int32} {kc ks : Nat} (hf : f_Rule_changeAbove nf p0 ruHas ruNev ebKind ebMonth ebWeek ebDay ebTime ebClock eeKind eeMonth eeWeek eeDay eeTime eeClock = some ((r0, v0_11), kc, ks)) : Met l y_Rule_changeAbove (wd y_Rule_changeAbove b_Rule_changeAbove 6 (some .long)) ({ frames := 5, cells := kc, slots := ks, locals := 126 }) (MU dC dI [(h0, .inr (5, [.ref ruT, .ref ruB, .ref ruE, .int ruHas, .int ruWide, .int ruSo, .int ruUo, .int ruSp, .int ruSs, .int ruUp, .int ruUs, .int ruNev])), (ruB, .inr (1, [.int ebKind, .int ebMonth, .int ebWeek, .int ebDay, .int ebTime, .int ebClock])), (ruE, .inr (1, [.int eeKind, .int eeMonth, .int eeWeek, .int eeDay, .int eeTime, .int eeClock]))] [] sz [.ref h0, .long p0]) (MV (some (.long r0)) (fun t => va_P (dC, dI) classes [(h0, .inr (5, [.ref ruT, .ref ruB, .ref ruE, .int ruHas, .int ruWide, .int ruSo, .int ruUo, .int ruSp, .int ruSs, .int ruUp, .int ruUs, .int v0_11])), (ruB, .inr (1, [.int ebKind, .int ebMonth, .int ebWeek, .int ebDay, .int ebTime, .int ebClock])), (ruE, .inr (1, [.int eeKind, .int eeMonth, .int eeWeek, .int eeDay, .int eeTime, .int eeClock]))] t.heap ∧ va_K (dC, dI) classes [] t ∧ va_D (va_A [(h0, .inr (5, [.ref ruT, .ref ruB, .ref ruE, .int ruHas, .int ruWide, .int ruSo, .int ruUo, .int ruSp, .int ruSs, .int ruUp, .int ruUs, .int ruNev])), (ruB, .inr (1, [.int ebKind, .int ebMonth, .int ebWeek, .int ebDay, .int ebTime, .int ebClock])), (ruE, .inr (1, [.int eeKind, .int eeMonth, .int eeWeek, .int eeDay, .int eeTime, .int eeClock]))] sz) [(h0, .inr (5, [.ref ruT, .ref ruB, .ref ruE, .int ruHas, .int ruWide, .int ruSo, .int ruUo, .int ruSp, .int ruSs, .int ruUp, .int ruUs, .int v0_11])), (ruB, .inr (1, [.int ebKind, .int ebMonth, .int ebWeek, .int ebDay, .int ebTime, .int ebClock])), (ruE, .inr (1, [.int eeKind, .int eeMonth, .int eeWeek, .int eeDay, .int eeTime, .int eeClock]))]) (va_A [(h0, .inr (5, [.ref ruT, .ref ruB, .ref ruE, .int ruHas, .int ruWide, .int ruSo, .int ruUo, .int ruSp, .int ruSs, .int ruUp, .int ruUs, .int ruNev])), (ruB, .inr (1, [.int ebKind, .int ebMonth, .int ebWeek, .int ebDay, .int ebTime, .int ebClock])), (ruE, .inr (1, [.int eeKind, .int eeMonth, .int eeWeek, .int eeDay, .int eeTime, .int eeClock]))] sz)) kc ks (va_A [(h0, .inr (5, [.ref ruT, .ref ruB, .ref ruE, .int ruHas, .int ruWide, .int ruSo, .int ruUo, .int ruSp, .int ruSs, .int ruUp, .int ruUs, .int ruNev])), (ruB, .inr (1, [.int ebKind, .int ebMonth, .int ebWeek, .int ebDay, .int ebTime, .int ebClock])), (ruE, .inr (1, [.int eeKind, .int eeMonth, .int eeWeek, .int eeDay, .int eeTime, .int eeClock]))] sz) :=
  met_M (plainFor_of_name (by decide)) (Nat.le_of_ble_eq_true rfl) (fun p e R s m args below meth c ls hRc hRs hsz hin C0 hST hK hP hD hl => by
    obtain ⟨hx, hb, hr, hml, hown, hts, hlocks, hRf, hRl⟩ := id C0
    subst hRc; subst hRs
    subst hsz
    have hA : ∀ q : Nat, s.heap.size ≤ q → va_A [(h0, .inr (5, [.ref ruT, .ref ruB, .ref ruE, .int ruHas, .int ruWide, .int ruSo, .int ruUo, .int ruSp, .int ruSs, .int ruUp, .int ruUs, .int ruNev])), (ruB, .inr (1, [.int ebKind, .int ebMonth, .int ebWeek, .int ebDay, .int ebTime, .int ebClock])), (ruE, .inr (1, [.int eeKind, .int eeMonth, .int eeWeek, .int eeDay, .int eeTime, .int eeClock]))] s.heap.size q := fun q h => Or.inr h
    have hS : va_S (va_A [(h0, .inr (5, [.ref ruT, .ref ruB, .ref ruE, .int ruHas, .int ruWide, .int ruSo, .int ruUo, .int ruSp, .int ruSs, .int ruUp, .int ruUs, .int ruNev])), (ruB, .inr (1, [.int ebKind, .int ebMonth, .int ebWeek, .int ebDay, .int ebTime, .int ebClock])), (ruE, .inr (1, [.int eeKind, .int eeMonth, .int eeWeek, .int eeDay, .int eeTime, .int eeClock]))] s.heap.size) s.heap s.heap [] := va_S.rf
    have hkc := Nat.zero_add R.cells
    have hks := Nat.zero_add R.slots
    unfold f_Rule_changeAbove at hf
    exact k_Rule_changeAbove_0 C0 hST hA (fun pc ls H locs hd hP hD hS hK => W.lret hx hb hr (fun t ht hW => ⟨⟨rfl, ⟨by rw [ht]; exact hP, va_K.moved hW.alike hK, hD⟩⟩, hS.F ht⟩) hS.2.2 hd) hf hK hP hD hS hkc hks (lv_sub hl [0, 1] rfl))
-- ZoneFiles$Rule.changeBelow(JJ)J
def f_Rule_changeBelow_14 (nf : Nat) (w0_11 : Int32) : Option ((Int64 × Int32) × Nat × Nat) :=
  some (((-9223372036854775808), w0_11), 0, 0)
def f_Rule_changeBelow_34 (nf : Nat) (ebKind : Int32) (ebMonth : Int32) (ebWeek : Int32) (ebDay : Int32) (ebTime : Int32) (ebClock : Int32) (eeKind : Int32) (eeMonth : Int32) (eeWeek : Int32) (eeDay : Int32) (eeTime : Int32) (eeClock : Int32) : Nat → Int32 → Int64 → Int32 → Int64 → Int64 → Int64 → Int64 → Option ((Int64 × Int32) × Nat × Nat)
  | 0, _, _, _, _, _, _, _ => none
  | n + 1, x6, x3, w0_11, w3_1, w3_2, w3_3, w3_4 =>
    if (810 : Int32) ≤ x6 then
    some (((-9223372036854775808), 1), 0, 0)
    else
    (f_Walk_moment nf w3_3 w3_4).bind fun r_9 =>
      if x3 < r_9 then
      (f_Walk_isSummer nf w3_3 w3_4).bind fun r_11 =>
        (f_Walk_goBack nf w3_1 w3_2 w3_3 w3_4 ebKind ebMonth ebWeek ebDay ebTime ebClock eeKind eeMonth eeWeek eeDay eeTime eeClock).bind fun (z_12, z_13, z_14, z_15) =>
        (f_Walk_isSummer nf z_14 z_15).bind fun r_16 =>
        if r_16 = r_11 then
        f_Rule_changeBelow_34 nf ebKind ebMonth ebWeek ebDay ebTime ebClock eeKind eeMonth eeWeek eeDay eeTime eeClock n (x6 + 1) x3 w0_11 z_12 z_13 z_14 z_15
        else
        some ((r_9, w0_11), 0, 0)
      else
      some (((-9223372036854775808), w0_11), 0, 0)
def f_Rule_changeBelow_0 (nf : Nat) (ruHas : Int32) (ebKind : Int32) (ebMonth : Int32) (ebWeek : Int32) (ebDay : Int32) (ebTime : Int32) (ebClock : Int32) (eeKind : Int32) (eeMonth : Int32) (eeWeek : Int32) (eeDay : Int32) (eeTime : Int32) (eeClock : Int32) (x1 : Int64) (x3 : Int64) (w0_11 : Int32) : Option ((Int64 × Int32) × Nat × Nat) :=
  if ruHas = 0 then
  f_Rule_changeBelow_14 nf w0_11
  else
  if w0_11 = 0 then
    ad 1 5 ((f_Walk_init nf (x1 - 1) ebKind ebMonth ebWeek ebDay ebTime ebClock eeKind eeMonth eeWeek eeDay eeTime eeClock).bind fun (z_4, z_5, z_6, z_7) =>
      f_Rule_changeBelow_34 nf ebKind ebMonth ebWeek ebDay ebTime ebClock eeKind eeMonth eeWeek eeDay eeTime eeClock nf 0 x3 w0_11 z_4 z_5 z_6 z_7)
    else
    f_Rule_changeBelow_14 nf w0_11
def f_Rule_changeBelow (nf : Nat) (p0 : Int64) (p1 : Int64) (ruHas : Int32) (ruNev : Int32) (ebKind : Int32) (ebMonth : Int32) (ebWeek : Int32) (ebDay : Int32) (ebTime : Int32) (ebClock : Int32) (eeKind : Int32) (eeMonth : Int32) (eeWeek : Int32) (eeDay : Int32) (eeTime : Int32) (eeClock : Int32) : Option ((Int64 × Int32) × Nat × Nat) :=
  f_Rule_changeBelow_0 nf ruHas ebKind ebMonth ebWeek ebDay ebTime ebClock eeKind eeMonth eeWeek eeDay eeTime eeClock p0 p1 ruNev
section
variable {p : Program} {l : Launch} {e : Env} {R : Room} {s : State} {m : MethodId} {args : Array Value} {below : List Frame} {meth : Method} {c : Code} {Q : State → Prop} {dC : Nat → ClassId} {dI : Nat → Nat → Nat} {nf : Nat} {A : Nat → Prop}
variable {h0 : Nat} {ruT : Nat} {ruB : Nat} {ruE : Nat} {ruHas : Int32} {ruWide : Int32} {ruSo : Int32} {ruUo : Int32} {ruSp : Int32} {ruSs : Int32} {ruUp : Int32} {ruUs : Int32} {ruNev : Int32} {ebKind : Int32} {ebMonth : Int32} {ebWeek : Int32} {ebDay : Int32} {ebTime : Int32} {ebClock : Int32} {eeKind : Int32} {eeMonth : Int32} {eeWeek : Int32} {eeDay : Int32} {eeTime : Int32} {eeClock : Int32} {r0 : Int64} {v0_11 : Int32}
set_option maxHeartbeats 400000 in
set_option maxRecDepth 100000 in
theorem k_Rule_changeBelow_14 (C0 : Cx p s m meth c args R b_Rule_changeBelow "ZoneFiles$Rule" 10 (some .long) 5 126) (hST : ST A s s.heap) (hA : ∀ q, s.heap.size ≤ q → A q) (hE : ∀ (pc : Nat) (ls : Array Slot) (H : Heap) (locs : List Loc), decode b_Rule_changeBelow pc = .ok (.lreturn, 1) → va_P (dC, dI) classes [(h0, .inr (5, [.ref ruT, .ref ruB, .ref ruE, .int ruHas, .int ruWide, .int ruSo, .int ruUo, .int ruSp, .int ruSs, .int ruUp, .int ruUs, .int v0_11])), (ruB, .inr (1, [.int ebKind, .int ebMonth, .int ebWeek, .int ebDay, .int ebTime, .int ebClock])), (ruE, .inr (1, [.int eeKind, .int eeMonth, .int eeWeek, .int eeDay, .int eeTime, .int eeClock]))] H → va_D A [(h0, .inr (5, [.ref ruT, .ref ruB, .ref ruE, .int ruHas, .int ruWide, .int ruSo, .int ruUo, .int ruSp, .int ruSs, .int ruUp, .int ruUs, .int v0_11])), (ruB, .inr (1, [.int ebKind, .int ebMonth, .int ebWeek, .int ebDay, .int ebTime, .int ebClock])), (ruE, .inr (1, [.int eeKind, .int eeMonth, .int eeWeek, .int eeDay, .int eeTime, .int eeClock]))] → va_S A s.heap H locs → va_K (dC, dI) classes [] s → W p l e R s m args below meth c H locs R.cells R.slots Q (F0 m pc ls [.long r0])) {w0_11 : Int32} {kc ks : Nat} (hf : f_Rule_changeBelow_14 nf w0_11 = some ((r0, v0_11), kc, ks)) {cells slots : Nat} {H : Heap} {locs : List Loc} {ls : Array Slot} (hK : va_K (dC, dI) classes [] s) (hP : va_P (dC, dI) classes [(h0, .inr (5, [.ref ruT, .ref ruB, .ref ruE, .int ruHas, .int ruWide, .int ruSo, .int ruUo, .int ruSp, .int ruSs, .int ruUp, .int ruUs, .int w0_11])), (ruB, .inr (1, [.int ebKind, .int ebMonth, .int ebWeek, .int ebDay, .int ebTime, .int ebClock])), (ruE, .inr (1, [.int eeKind, .int eeMonth, .int eeWeek, .int eeDay, .int eeTime, .int eeClock]))] H) (hD : va_D A [(h0, .inr (5, [.ref ruT, .ref ruB, .ref ruE, .int ruHas, .int ruWide, .int ruSo, .int ruUo, .int ruSp, .int ruSs, .int ruUp, .int ruUs, .int w0_11])), (ruB, .inr (1, [.int ebKind, .int ebMonth, .int ebWeek, .int ebDay, .int ebTime, .int ebClock])), (ruE, .inr (1, [.int eeKind, .int eeMonth, .int eeWeek, .int eeDay, .int eeTime, .int eeClock]))]) (hS : va_S A s.heap H locs) (hkc : cells + kc = R.cells) (hks : slots + ks = R.slots) (hl : lv_has ls 10 []) : W p l e R s m args below meth c H locs cells slots Q (F0 m 14 ls []) := by
  obtain ⟨hx, hb, hr, hml, hown, hts, hlocks, hRf, hRl⟩ := id C0
  obtain ⟨tms, hZms, hTms, tmg, hZmg, hTmg, hNW⟩ := id hST
  unfold f_Rule_changeBelow_14 at hf
  refine lv_ldc2 (v := (-9223372036854775808)) hx hb hown (hts (.constantLong "ZoneFiles$Rule" 72 (-9223372036854775808)) m_5_154) d_Rule_changeBelow_14 ?_
  cases rs hf
  have hkc : cells = R.cells := hkc
  have hks : slots = R.slots := hks
  subst hkc; subst hks
  exact hE _ _ _ _ d_Rule_changeBelow_17 hP hD hS hK
set_option maxHeartbeats 400000 in
set_option maxRecDepth 100000 in
theorem k_Rule_changeBelow_34 (C0 : Cx p s m meth c args R b_Rule_changeBelow "ZoneFiles$Rule" 10 (some .long) 5 126) (hST : ST A s s.heap) (hA : ∀ q, s.heap.size ≤ q → A q) (hE : ∀ (pc : Nat) (ls : Array Slot) (H : Heap) (locs : List Loc), decode b_Rule_changeBelow pc = .ok (.lreturn, 1) → va_P (dC, dI) classes [(h0, .inr (5, [.ref ruT, .ref ruB, .ref ruE, .int ruHas, .int ruWide, .int ruSo, .int ruUo, .int ruSp, .int ruSs, .int ruUp, .int ruUs, .int v0_11])), (ruB, .inr (1, [.int ebKind, .int ebMonth, .int ebWeek, .int ebDay, .int ebTime, .int ebClock])), (ruE, .inr (1, [.int eeKind, .int eeMonth, .int eeWeek, .int eeDay, .int eeTime, .int eeClock]))] H → va_D A [(h0, .inr (5, [.ref ruT, .ref ruB, .ref ruE, .int ruHas, .int ruWide, .int ruSo, .int ruUo, .int ruSp, .int ruSs, .int ruUp, .int ruUs, .int v0_11])), (ruB, .inr (1, [.int ebKind, .int ebMonth, .int ebWeek, .int ebDay, .int ebTime, .int ebClock])), (ruE, .inr (1, [.int eeKind, .int eeMonth, .int eeWeek, .int eeDay, .int eeTime, .int eeClock]))] → va_S A s.heap H locs → va_K (dC, dI) classes [] s → W p l e R s m args below meth c H locs R.cells R.slots Q (F0 m pc ls [.long r0])) : ∀ (n : Nat) {x6 : Int32} {x3 : Int64} {w0_11 : Int32} {w3_1 : Int64} {w3_2 : Int64} {w3_3 : Int64} {w3_4 : Int64} {kc ks : Nat}, f_Rule_changeBelow_34 nf ebKind ebMonth ebWeek ebDay ebTime ebClock eeKind eeMonth eeWeek eeDay eeTime eeClock n x6 x3 w0_11 w3_1 w3_2 w3_3 w3_4 = some ((r0, v0_11), kc, ks) → ∀ {q3 : Nat} {cells slots : Nat} {H : Heap} {locs : List Loc} {ls : Array Slot}, va_K (dC, dI) classes [] s → va_P (dC, dI) classes [(h0, .inr (5, [.ref ruT, .ref ruB, .ref ruE, .int ruHas, .int ruWide, .int ruSo, .int ruUo, .int ruSp, .int ruSs, .int ruUp, .int ruUs, .int w0_11])), (ruB, .inr (1, [.int ebKind, .int ebMonth, .int ebWeek, .int ebDay, .int ebTime, .int ebClock])), (ruE, .inr (1, [.int eeKind, .int eeMonth, .int eeWeek, .int eeDay, .int eeTime, .int eeClock])), (q3, .inr (2, [.ref h0, .long w3_1, .long w3_2, .long w3_3, .long w3_4]))] H → va_D A [(h0, .inr (5, [.ref ruT, .ref ruB, .ref ruE, .int ruHas, .int ruWide, .int ruSo, .int ruUo, .int ruSp, .int ruSs, .int ruUp, .int ruUs, .int w0_11])), (ruB, .inr (1, [.int ebKind, .int ebMonth, .int ebWeek, .int ebDay, .int ebTime, .int ebClock])), (ruE, .inr (1, [.int eeKind, .int eeMonth, .int eeWeek, .int eeDay, .int eeTime, .int eeClock])), (q3, .inr (2, [.ref h0, .long w3_1, .long w3_2, .long w3_3, .long w3_4]))] → va_S A s.heap H locs → cells + kc = R.cells → slots + ks = R.slots → lv_has ls 10 [(6, .int x6), (5, .ref q3), (0, .ref h0), (3, .long x3)] → W p l e R s m args below meth c H locs cells slots Q (F0 m 34 ls []) := by
  obtain ⟨hx, hb, hr, hml, hown, hts, hlocks, hRf, hRl⟩ := id C0
  obtain ⟨tms, hZms, hTms, tmg, hZmg, hTmg, hNW⟩ := id hST
  intro n
  induction n with
  | zero =>
    intro x6 x3 w0_11 w3_1 w3_2 w3_3 w3_4 kc ks hf
    exact absurd hf (by simp [f_Rule_changeBelow_34])
  | succ n ih =>
    intro x6 x3 w0_11 w3_1 w3_2 w3_3 w3_4 kc ks hf q3 cells slots H locs ls hK hP hD hS hkc hks hl
    unfold f_Rule_changeBelow_34 at hf
    refine lv_iload hx hb d_Rule_changeBelow_34 (lv_at hl 0 rfl) ?_
    refine lv_sipush (v := 810) hx hb d_Rule_changeBelow_36 (by decide) ?_
    refine lv_icmp_ge (tgt := 91) hx hb d_Rule_changeBelow_39 (by decide) (fun c_8 => ?_) (fun c_8 => ?_)
    · have hf := it_t c_8 hf
      refine lv_aload_n hx hb d_Rule_changeBelow_91 rfl (lv_at hl 2 rfl) ?_
      refine lv_iconst (v := 1) hx hb d_Rule_changeBelow_92 (by decide) ?_
      refine va_put (D := (dC, dI)) (ci := 5) (v := .int 1) (ty := .boolean) (C := RRule) (T := TRule) (N := 12) hx hb hts in_Rule tyRule ty_Rule nm_Rule hown hK hP hD hS 0 rfl rfl 11 (by decide) (hts (.fieldLink "ZoneFiles$Rule" 59 "ZoneFiles$Rule" "neverChanges" "Z") m_1_137) (fun _ h9 => h9) rfl (by decide +kernel) rfl rfl (Nat.le_of_ble_eq_true rfl) d_Rule_changeBelow_93 (fun H locs hP hD hS => ?_)
      have hP : va_P (dC, dI) classes [(h0, .inr (5, [.ref ruT, .ref ruB, .ref ruE, .int ruHas, .int ruWide, .int ruSo, .int ruUo, .int ruSp, .int ruSs, .int ruUp, .int ruUs, .int 1])), (ruB, .inr (1, [.int ebKind, .int ebMonth, .int ebWeek, .int ebDay, .int ebTime, .int ebClock])), (ruE, .inr (1, [.int eeKind, .int eeMonth, .int eeWeek, .int eeDay, .int eeTime, .int eeClock])), (q3, .inr (2, [.ref h0, .long w3_1, .long w3_2, .long w3_3, .long w3_4]))] H := hP
      have hD : va_D A [(h0, .inr (5, [.ref ruT, .ref ruB, .ref ruE, .int ruHas, .int ruWide, .int ruSo, .int ruUo, .int ruSp, .int ruSs, .int ruUp, .int ruUs, .int 1])), (ruB, .inr (1, [.int ebKind, .int ebMonth, .int ebWeek, .int ebDay, .int ebTime, .int ebClock])), (ruE, .inr (1, [.int eeKind, .int eeMonth, .int eeWeek, .int eeDay, .int eeTime, .int eeClock])), (q3, .inr (2, [.ref h0, .long w3_1, .long w3_2, .long w3_3, .long w3_4]))] := hD
      refine lv_ldc2 (v := (-9223372036854775808)) hx hb hown (hts (.constantLong "ZoneFiles$Rule" 72 (-9223372036854775808)) m_5_154) d_Rule_changeBelow_96 ?_
      cases rs hf
      have hkc : cells = R.cells := hkc
      have hks : slots = R.slots := hks
      subst hkc; subst hks
      exact hE _ _ _ _ d_Rule_changeBelow_99 (hP.sub [0, 1, 2] rfl) (hD.sub [0, 1, 2] (by decide) rfl) hS (hK.sub [] rfl)
    · have hf := it_f c_8 hf
      refine lv_aload hx hb d_Rule_changeBelow_42 (lv_at hl 1 rfl) ?_
      obtain ⟨r_9, hc, hf⟩ := ob hf
      refine cl_S (v := (some (.long r_9))) (st1 := [.long r_9]) (va_runV (As := []) (rest := []) ⟨hx, hb, hml, hown, hts⟩ (c_Walk_moment l dC dI q3 h0 nf w3_1 w3_2 w3_3 w3_4 hc) (cwV 0 hts (gdV m_5_187 m_5_188 m_5_189 m_1_21 m_5_190) rfl rfl rfl (by decide +kernel) ⟨Nat.le_trans (Nat.le_of_ble_eq_true rfl) hRf, Nat.le_trans (Nat.le_of_ble_eq_true rfl) hRl⟩) ((RO.pre (hP.sub (ws' := [(q3, .inr (2, [.ref h0, .long w3_1, .long w3_2, .long w3_3, .long w3_4]))]) [3] rfl) (hK.sub (tys' := []) [] rfl) (hST.ro hS)).vir (va_recv (hK.sub (tys' := []) [] rfl) (hP.sub (ws' := [(q3, .inr (2, [.ref h0, .long w3_1, .long w3_2, .long w3_3, .long w3_4]))]) [3] rfl) (ci := 2) (q0 := 0) rfl rfl)) rfl rfl hl.1 rfl (lv_room (Nat.le_of_ble_eq_true rfl)) d_Rule_changeBelow_44 ⟨c0 hkc, c0 hks⟩) rfl ?_
      refine lv_lstore (lv' := [(7, .long r_9), (6, .int x6), (5, .ref q3), (0, .ref h0), (3, .long x3)]) hx hb d_Rule_changeBelow_47 hl (by decide) rfl (fun ls hl => ?_)
      refine lv_lload hx hb d_Rule_changeBelow_49 (lv_at hl 0 rfl) ?_
      refine lv_lload_n hx hb d_Rule_changeBelow_51 rfl (lv_at hl 4 rfl) ?_
      refine lc_gt (tgt := 60) hx hb d_Rule_changeBelow_52 d_Rule_changeBelow_53 (by decide) (fun c_10 => ?_) (fun c_10 => ?_)
      · have hf := it_t c_10 hf
        refine lv_aload hx hb d_Rule_changeBelow_60 (lv_at hl 2 rfl) ?_
        obtain ⟨r_11, hc, hf⟩ := ob hf
        refine cl_S (v := (some (.int r_11))) (st1 := [.int r_11]) (va_runV (As := []) (rest := []) ⟨hx, hb, hml, hown, hts⟩ (c_Walk_isSummer l dC dI q3 h0 nf w3_1 w3_2 w3_3 w3_4 hc) (cwV 0 hts (gdV m_5_179 m_5_180 m_5_181 m_1_21 m_5_182) rfl rfl rfl (by decide +kernel) ⟨Nat.le_trans (Nat.le_of_ble_eq_true rfl) hRf, Nat.le_trans (Nat.le_of_ble_eq_true rfl) hRl⟩) ((RO.pre (hP.sub (ws' := [(q3, .inr (2, [.ref h0, .long w3_1, .long w3_2, .long w3_3, .long w3_4]))]) [3] rfl) (hK.sub (tys' := []) [] rfl) (hST.ro hS)).vir (va_recv (hK.sub (tys' := []) [] rfl) (hP.sub (ws' := [(q3, .inr (2, [.ref h0, .long w3_1, .long w3_2, .long w3_3, .long w3_4]))]) [3] rfl) (ci := 2) (q0 := 0) rfl rfl)) rfl rfl hl.1 rfl (lv_room (Nat.le_of_ble_eq_true rfl)) d_Rule_changeBelow_62 ⟨c0 hkc, c0 hks⟩) rfl ?_
        refine lv_istore (lv' := [(9, .int r_11), (7, .long r_9), (6, .int x6), (5, .ref q3), (0, .ref h0), (3, .long x3)]) hx hb d_Rule_changeBelow_65 hl (by decide) rfl (fun ls hl => ?_)
        refine lv_aload hx hb d_Rule_changeBelow_67 (lv_at hl 3 rfl) ?_
        obtain ⟨⟨z_12, z_13, z_14, z_15⟩, hc, hf⟩ := ob hf
        have hPc := hP.sub (ws' := [(q3, .inr (2, [.ref h0, .long w3_1, .long w3_2, .long w3_3, .long w3_4])), (h0, .inr (5, [.ref ruT, .ref ruB, .ref ruE, .int ruHas, .int ruWide, .int ruSo, .int ruUo, .int ruSp, .int ruSs, .int ruUp, .int ruUs, .int w0_11])), (ruB, .inr (1, [.int ebKind, .int ebMonth, .int ebWeek, .int ebDay, .int ebTime, .int ebClock])), (ruE, .inr (1, [.int eeKind, .int eeMonth, .int eeWeek, .int eeDay, .int eeTime, .int eeClock]))]) [3, 0, 1, 2] rfl
        have hDc := hD.sub (ws' := [(q3, .inr (2, [.ref h0, .long w3_1, .long w3_2, .long w3_3, .long w3_4])), (h0, .inr (5, [.ref ruT, .ref ruB, .ref ruE, .int ruHas, .int ruWide, .int ruSo, .int ruUo, .int ruSp, .int ruSs, .int ruUp, .int ruUs, .int w0_11])), (ruB, .inr (1, [.int ebKind, .int ebMonth, .int ebWeek, .int ebDay, .int ebTime, .int ebClock])), (ruE, .inr (1, [.int eeKind, .int eeMonth, .int eeWeek, .int eeDay, .int eeTime, .int eeClock]))]) [3, 0, 1, 2] (by decide) rfl
        have hKc := hK.sub (tys' := []) [] rfl
        have hFc := va_free (wc := [(q3, .inr (2, [.ref h0, .long w3_1, .long w3_2, .long w3_3, .long w3_4])), (h0, .inr (5, [.ref ruT, .ref ruB, .ref ruE, .int ruHas, .int ruWide, .int ruSo, .int ruUo, .int ruSp, .int ruSs, .int ruUp, .int ruUs, .int w0_11])), (ruB, .inr (1, [.int ebKind, .int ebMonth, .int ebWeek, .int ebDay, .int ebTime, .int ebClock])), (ruE, .inr (1, [.int eeKind, .int eeMonth, .int eeWeek, .int eeDay, .int eeTime, .int eeClock]))]) hD hS hA [3, 0, 1, 2] rfl
        refine cl_M (v := none) (st1 := []) (va_runV (As := []) (rest := []) ⟨hx, hb, hml, hown, hts⟩ (c_Walk_goBack l dC dI q3 h0 ruT ruB ruE H.size nf w3_1 w3_2 w3_3 w3_4 ruHas ruWide ruSo ruUo ruSp ruSs ruUp ruUs w0_11 ebKind ebMonth ebWeek ebDay ebTime ebClock eeKind eeMonth eeWeek eeDay eeTime eeClock hc) (cwV 0 hts (gdV m_5_208 m_5_209 m_5_210 m_1_21 m_5_211) rfl rfl rfl (by decide +kernel) ⟨Nat.le_trans (Nat.le_of_ble_eq_true rfl) hRf, Nat.le_trans (Nat.le_of_ble_eq_true rfl) hRl⟩) ((MU.pre hPc hKc hDc (hST.mu hS hFc)).vir (va_recv hKc hPc (ci := 2) (q0 := 0) rfl rfl)) rfl rfl hl.1 rfl (lv_room (Nat.le_of_ble_eq_true rfl)) d_Rule_changeBelow_69 ⟨c0 hkc, c0 hks⟩) rfl hS (fun q _ h => hFc q h) hFc (fun t H1 locs ht hvm hB hz1 hk1 hS => ?_)
        obtain ⟨hP1, hK1, hD1⟩ := hB
        rw [ht] at hP1
        have hK1 := va_K.moved hvm.symm hK1
        obtain ⟨hP, hD⟩ := va_join (wr := []) (w1 := [(q3, .inr (2, [.ref h0, .long z_12, .long z_13, .long z_14, .long z_15])), (h0, .inr (5, [.ref ruT, .ref ruB, .ref ruE, .int ruHas, .int ruWide, .int ruSo, .int ruUo, .int ruSp, .int ruSs, .int ruUp, .int ruUs, .int w0_11])), (ruB, .inr (1, [.int ebKind, .int ebMonth, .int ebWeek, .int ebDay, .int ebTime, .int ebClock])), (ruE, .inr (1, [.int eeKind, .int eeMonth, .int eeWeek, .int eeDay, .int eeTime, .int eeClock]))]) hP hD [3, 0, 1, 2] [] rfl rfl (by decide) (by decide) hk1 hFc hP1 hD1
        have hK := (hK.sub (tys' := []) [] rfl).app hK1
        generalize H1 = H at hP hS ⊢
        have hP := hP.sub (ws' := [(h0, .inr (5, [.ref ruT, .ref ruB, .ref ruE, .int ruHas, .int ruWide, .int ruSo, .int ruUo, .int ruSp, .int ruSs, .int ruUp, .int ruUs, .int w0_11])), (ruB, .inr (1, [.int ebKind, .int ebMonth, .int ebWeek, .int ebDay, .int ebTime, .int ebClock])), (ruE, .inr (1, [.int eeKind, .int eeMonth, .int eeWeek, .int eeDay, .int eeTime, .int eeClock])), (q3, .inr (2, [.ref h0, .long z_12, .long z_13, .long z_14, .long z_15]))]) [1, 2, 3, 0] rfl
        have hD := hD.sub (ws' := [(h0, .inr (5, [.ref ruT, .ref ruB, .ref ruE, .int ruHas, .int ruWide, .int ruSo, .int ruUo, .int ruSp, .int ruSs, .int ruUp, .int ruUs, .int w0_11])), (ruB, .inr (1, [.int ebKind, .int ebMonth, .int ebWeek, .int ebDay, .int ebTime, .int ebClock])), (ruE, .inr (1, [.int eeKind, .int eeMonth, .int eeWeek, .int eeDay, .int eeTime, .int eeClock])), (q3, .inr (2, [.ref h0, .long z_12, .long z_13, .long z_14, .long z_15]))]) [1, 2, 3, 0] (by decide) rfl
        have hK := hK.sub (tys' := []) [] rfl
        refine lv_aload hx hb d_Rule_changeBelow_72 (lv_at hl 3 rfl) ?_
        obtain ⟨r_16, hc, hf⟩ := ob hf
        refine cl_S (v := (some (.int r_16))) (st1 := [.int r_16]) (va_runV (As := []) (rest := []) ⟨hx, hb, hml, hown, hts⟩ (c_Walk_isSummer l dC dI q3 h0 nf z_12 z_13 z_14 z_15 hc) (cwV 0 hts (gdV m_5_179 m_5_180 m_5_181 m_1_21 m_5_182) rfl rfl rfl (by decide +kernel) ⟨Nat.le_trans (Nat.le_of_ble_eq_true rfl) hRf, Nat.le_trans (Nat.le_of_ble_eq_true rfl) hRl⟩) ((RO.pre (hP.sub (ws' := [(q3, .inr (2, [.ref h0, .long z_12, .long z_13, .long z_14, .long z_15]))]) [3] rfl) (hK.sub (tys' := []) [] rfl) (hST.ro hS)).vir (va_recv (hK.sub (tys' := []) [] rfl) (hP.sub (ws' := [(q3, .inr (2, [.ref h0, .long z_12, .long z_13, .long z_14, .long z_15]))]) [3] rfl) (ci := 2) (q0 := 0) rfl rfl)) rfl rfl hl.1 rfl (lv_room (Nat.le_of_ble_eq_true rfl)) d_Rule_changeBelow_74 ⟨c0 hkc, c0 hks⟩) rfl ?_
        refine lv_iload hx hb d_Rule_changeBelow_77 (lv_at hl 0 rfl) ?_
        refine lv_icmp_eq (tgt := 85) hx hb d_Rule_changeBelow_79 (by decide) (fun c_17 => ?_) (fun c_17 => ?_)
        · have hf := it_t c_17 hf
          refine lv_iinc (v := x6 + 1) (lv' := [(6, .int (x6 + 1)), (9, .int r_11), (7, .long r_9), (5, .ref q3), (0, .ref h0), (3, .long x3)]) hx hb d_Rule_changeBelow_85 hl (k := 2) rfl rfl (by decide) rfl (fun ls hl => ?_)
          refine lv_goto (tgt := 34) hx hb d_Rule_changeBelow_88 (by decide) ?_
          exact ih hf hK hP hD hS hkc hks (lv_sub hl [0, 3, 4, 5] rfl)
        · have hf := it_f c_17 hf
          refine lv_lload hx hb d_Rule_changeBelow_82 (lv_at hl 1 rfl) ?_
          cases rs hf
          have hkc : cells = R.cells := hkc
          have hks : slots = R.slots := hks
          subst hkc; subst hks
          exact hE _ _ _ _ d_Rule_changeBelow_84 (hP.sub [0, 1, 2] rfl) (hD.sub [0, 1, 2] (by decide) rfl) hS (hK.sub [] rfl)
      · have hf := it_f c_10 hf
        refine lv_ldc2 (v := (-9223372036854775808)) hx hb hown (hts (.constantLong "ZoneFiles$Rule" 72 (-9223372036854775808)) m_5_154) d_Rule_changeBelow_56 ?_
        cases rs hf
        have hkc : cells = R.cells := hkc
        have hks : slots = R.slots := hks
        subst hkc; subst hks
        exact hE _ _ _ _ d_Rule_changeBelow_59 (hP.sub [0, 1, 2] rfl) (hD.sub [0, 1, 2] (by decide) rfl) hS (hK.sub [] rfl)
set_option maxHeartbeats 400000 in
set_option maxRecDepth 100000 in
theorem k_Rule_changeBelow_0 (C0 : Cx p s m meth c args R b_Rule_changeBelow "ZoneFiles$Rule" 10 (some .long) 5 126) (hST : ST A s s.heap) (hA : ∀ q, s.heap.size ≤ q → A q) (hE : ∀ (pc : Nat) (ls : Array Slot) (H : Heap) (locs : List Loc), decode b_Rule_changeBelow pc = .ok (.lreturn, 1) → va_P (dC, dI) classes [(h0, .inr (5, [.ref ruT, .ref ruB, .ref ruE, .int ruHas, .int ruWide, .int ruSo, .int ruUo, .int ruSp, .int ruSs, .int ruUp, .int ruUs, .int v0_11])), (ruB, .inr (1, [.int ebKind, .int ebMonth, .int ebWeek, .int ebDay, .int ebTime, .int ebClock])), (ruE, .inr (1, [.int eeKind, .int eeMonth, .int eeWeek, .int eeDay, .int eeTime, .int eeClock]))] H → va_D A [(h0, .inr (5, [.ref ruT, .ref ruB, .ref ruE, .int ruHas, .int ruWide, .int ruSo, .int ruUo, .int ruSp, .int ruSs, .int ruUp, .int ruUs, .int v0_11])), (ruB, .inr (1, [.int ebKind, .int ebMonth, .int ebWeek, .int ebDay, .int ebTime, .int ebClock])), (ruE, .inr (1, [.int eeKind, .int eeMonth, .int eeWeek, .int eeDay, .int eeTime, .int eeClock]))] → va_S A s.heap H locs → va_K (dC, dI) classes [] s → W p l e R s m args below meth c H locs R.cells R.slots Q (F0 m pc ls [.long r0])) {x1 : Int64} {x3 : Int64} {w0_11 : Int32} {kc ks : Nat} (hf : f_Rule_changeBelow_0 nf ruHas ebKind ebMonth ebWeek ebDay ebTime ebClock eeKind eeMonth eeWeek eeDay eeTime eeClock x1 x3 w0_11 = some ((r0, v0_11), kc, ks)) {cells slots : Nat} {H : Heap} {locs : List Loc} {ls : Array Slot} (hK : va_K (dC, dI) classes [] s) (hP : va_P (dC, dI) classes [(h0, .inr (5, [.ref ruT, .ref ruB, .ref ruE, .int ruHas, .int ruWide, .int ruSo, .int ruUo, .int ruSp, .int ruSs, .int ruUp, .int ruUs, .int w0_11])), (ruB, .inr (1, [.int ebKind, .int ebMonth, .int ebWeek, .int ebDay, .int ebTime, .int ebClock])), (ruE, .inr (1, [.int eeKind, .int eeMonth, .int eeWeek, .int eeDay, .int eeTime, .int eeClock]))] H) (hD : va_D A [(h0, .inr (5, [.ref ruT, .ref ruB, .ref ruE, .int ruHas, .int ruWide, .int ruSo, .int ruUo, .int ruSp, .int ruSs, .int ruUp, .int ruUs, .int w0_11])), (ruB, .inr (1, [.int ebKind, .int ebMonth, .int ebWeek, .int ebDay, .int ebTime, .int ebClock])), (ruE, .inr (1, [.int eeKind, .int eeMonth, .int eeWeek, .int eeDay, .int eeTime, .int eeClock]))]) (hS : va_S A s.heap H locs) (hkc : cells + kc = R.cells) (hks : slots + ks = R.slots) (hl : lv_has ls 10 [(0, .ref h0), (1, .long x1), (3, .long x3)]) : W p l e R s m args below meth c H locs cells slots Q (F0 m 0 ls []) := by
  obtain ⟨hx, hb, hr, hml, hown, hts, hlocks, hRf, hRl⟩ := id C0
  obtain ⟨tms, hZms, hTms, tmg, hZmg, hTmg, hNW⟩ := id hST
  unfold f_Rule_changeBelow_0 at hf
  refine lv_aload_n hx hb d_Rule_changeBelow_0 rfl (lv_at hl 0 rfl) ?_
  refine va_get (D := (dC, dI)) (ci := 5) (v := .int ruHas) (C := RRule) (T := TRule) (N := 12) hx hb hts in_Rule hown hK hP 0 rfl rfl 3 (by decide) (hts (.fieldLink "ZoneFiles$Rule" 33 "ZoneFiles$Rule" "hasSummer" "Z") m_1_112) (fun _ h9 => h9) rfl d_Rule_changeBelow_1 ?_
  refine lv_if_eq (tgt := 14) hx hb d_Rule_changeBelow_4 (by decide) (fun c_1 => ?_) (fun c_1 => ?_)
  · have hf := it_t c_1 hf
    exact k_Rule_changeBelow_14 C0 hST hA hE hf hK hP hD hS hkc hks (lv_sub hl [] rfl)
  · have hf := it_f c_1 hf
    refine lv_aload_n hx hb d_Rule_changeBelow_7 rfl (lv_at hl 0 rfl) ?_
    refine va_get (D := (dC, dI)) (ci := 5) (v := .int w0_11) (C := RRule) (T := TRule) (N := 12) hx hb hts in_Rule hown hK hP 0 rfl rfl 11 (by decide) (hts (.fieldLink "ZoneFiles$Rule" 59 "ZoneFiles$Rule" "neverChanges" "Z") m_1_137) (fun _ h9 => h9) rfl d_Rule_changeBelow_8 ?_
    refine lv_if_eq (tgt := 18) hx hb d_Rule_changeBelow_11 (by decide) (fun c_2 => ?_) (fun c_2 => ?_)
    · have hf := it_t c_2 hf
      obtain ⟨kc, ks, hf, ekc, eks⟩ := oa hf
      refine va_new (ci := 2) (fs := [.null, .long 0, .long 0, .long 0, .long 0]) (C := REdgeWalk) (T := TEdgeWalk) (N := 5) hx hb hts in_EdgeWalk tyEdgeWalk ty_EdgeWalk hown (hts (.classLink "ZoneFiles$Rule" 74 "ZoneFiles$EdgeWalk") m_5_155) (hts (.instantiable "ZoneFiles$EdgeWalk" 5) m_5_156) (hts (.initialized "ZoneFiles$EdgeWalk") m_1_21) hK hP hD hS hA rfl (fun j hj => by match j, hj with | 0, _ => exact rfl | 1, _ => exact rfl | 2, _ => exact rfl | 3, _ => exact rfl | 4, _ => exact rfl | n + 5, h => exact absurd h (by omega)) (cb hkc ekc) (cb hks eks) d_Rule_changeBelow_18 (fun qn_3 H hP hD hS => ?_)
      have hP : va_P (dC, dI) classes [(h0, .inr (5, [.ref ruT, .ref ruB, .ref ruE, .int ruHas, .int ruWide, .int ruSo, .int ruUo, .int ruSp, .int ruSs, .int ruUp, .int ruUs, .int w0_11])), (ruB, .inr (1, [.int ebKind, .int ebMonth, .int ebWeek, .int ebDay, .int ebTime, .int ebClock])), (ruE, .inr (1, [.int eeKind, .int eeMonth, .int eeWeek, .int eeDay, .int eeTime, .int eeClock])), (qn_3, .inr (2, [.null, .long 0, .long 0, .long 0, .long 0]))] H := hP
      have hD : va_D A [(h0, .inr (5, [.ref ruT, .ref ruB, .ref ruE, .int ruHas, .int ruWide, .int ruSo, .int ruUo, .int ruSp, .int ruSs, .int ruUp, .int ruUs, .int w0_11])), (ruB, .inr (1, [.int ebKind, .int ebMonth, .int ebWeek, .int ebDay, .int ebTime, .int ebClock])), (ruE, .inr (1, [.int eeKind, .int eeMonth, .int eeWeek, .int eeDay, .int eeTime, .int eeClock])), (qn_3, .inr (2, [.null, .long 0, .long 0, .long 0, .long 0]))] := hD
      have hkc := ck hkc ekc
      have hks := ck hks eks
      generalize cells + 1 = cells at hkc ⊢
      generalize slots + 5 = slots at hks ⊢
      refine lv_dup hx hb d_Rule_changeBelow_21 rfl ?_
      refine lv_aload_n hx hb d_Rule_changeBelow_22 rfl (lv_at hl 0 rfl) ?_
      refine lv_lload_n hx hb d_Rule_changeBelow_23 rfl (lv_at hl 1 rfl) ?_
      refine lv_lconst (v := 1) hx hb d_Rule_changeBelow_24 (by decide) ?_
      refine lv_lsub hx hb d_Rule_changeBelow_25 ?_
      obtain ⟨⟨z_4, z_5, z_6, z_7⟩, hc, hf⟩ := ob hf
      have hPc := hP.sub (ws' := [(qn_3, .inr (2, [.null, .long 0, .long 0, .long 0, .long 0])), (h0, .inr (5, [.ref ruT, .ref ruB, .ref ruE, .int ruHas, .int ruWide, .int ruSo, .int ruUo, .int ruSp, .int ruSs, .int ruUp, .int ruUs, .int w0_11])), (ruB, .inr (1, [.int ebKind, .int ebMonth, .int ebWeek, .int ebDay, .int ebTime, .int ebClock])), (ruE, .inr (1, [.int eeKind, .int eeMonth, .int eeWeek, .int eeDay, .int eeTime, .int eeClock]))]) [3, 0, 1, 2] rfl
      have hDc := hD.sub (ws' := [(qn_3, .inr (2, [.null, .long 0, .long 0, .long 0, .long 0])), (h0, .inr (5, [.ref ruT, .ref ruB, .ref ruE, .int ruHas, .int ruWide, .int ruSo, .int ruUo, .int ruSp, .int ruSs, .int ruUp, .int ruUs, .int w0_11])), (ruB, .inr (1, [.int ebKind, .int ebMonth, .int ebWeek, .int ebDay, .int ebTime, .int ebClock])), (ruE, .inr (1, [.int eeKind, .int eeMonth, .int eeWeek, .int eeDay, .int eeTime, .int eeClock]))]) [3, 0, 1, 2] (by decide) rfl
      have hKc := hK.sub (tys' := []) [] rfl
      have hFc := va_free (wc := [(qn_3, .inr (2, [.null, .long 0, .long 0, .long 0, .long 0])), (h0, .inr (5, [.ref ruT, .ref ruB, .ref ruE, .int ruHas, .int ruWide, .int ruSo, .int ruUo, .int ruSp, .int ruSs, .int ruUp, .int ruUs, .int w0_11])), (ruB, .inr (1, [.int ebKind, .int ebMonth, .int ebWeek, .int ebDay, .int ebTime, .int ebClock])), (ruE, .inr (1, [.int eeKind, .int eeMonth, .int eeWeek, .int eeDay, .int eeTime, .int eeClock]))]) hD hS hA [3, 0, 1, 2] rfl
      refine cl_M (v := none) (st1 := [.ref qn_3]) (va_runI (As := [.ref h0, .long (x1 - 1)]) (rest := [.ref qn_3]) ⟨hx, hb, hml, hown, hts⟩ (c_Walk_init l dC dI qn_3 h0 ruT ruB ruE H.size nf (x1 - 1) ruHas ruWide ruSo ruUo ruSp ruSs ruUp ruUs w0_11 ebKind ebMonth ebWeek ebDay ebTime ebClock eeKind eeMonth eeWeek eeDay eeTime eeClock hc) (cwI 2 hts (gd_of m_5_159) rfl rfl rfl (hts (.initialized "ZoneFiles$EdgeWalk") m_1_21) (hts (.methodLink "ZoneFiles$Rule" 76 ⟨"ZoneFiles$EdgeWalk", "<init>", "(LZoneFiles$Rule;J)V"⟩) m_5_157) (hts (.instanceMethod ⟨"ZoneFiles$EdgeWalk", "<init>", "(LZoneFiles$Rule;J)V"⟩) m_5_158) rfl (by decide +kernel) ⟨Nat.le_trans (Nat.le_of_ble_eq_true rfl) hRf, Nat.le_trans (Nat.le_of_ble_eq_true rfl) hRl⟩) (MU.pre hPc hKc hDc (hST.mu hS hFc)).sta rfl rfl hl.1 rfl (lv_room (Nat.le_of_ble_eq_true rfl)) d_Rule_changeBelow_26 ⟨c0 hkc, c0 hks⟩) rfl hS (fun q _ h => hFc q h) hFc (fun t H1 locs ht hvm hB hz1 hk1 hS => ?_)
      obtain ⟨hP1, hK1, hD1⟩ := hB
      rw [ht] at hP1
      have hK1 := va_K.moved hvm.symm hK1
      obtain ⟨hP, hD⟩ := va_join (wr := []) (w1 := [(qn_3, .inr (2, [.ref h0, .long z_4, .long z_5, .long z_6, .long z_7])), (h0, .inr (5, [.ref ruT, .ref ruB, .ref ruE, .int ruHas, .int ruWide, .int ruSo, .int ruUo, .int ruSp, .int ruSs, .int ruUp, .int ruUs, .int w0_11])), (ruB, .inr (1, [.int ebKind, .int ebMonth, .int ebWeek, .int ebDay, .int ebTime, .int ebClock])), (ruE, .inr (1, [.int eeKind, .int eeMonth, .int eeWeek, .int eeDay, .int eeTime, .int eeClock]))]) hP hD [3, 0, 1, 2] [] rfl rfl (by decide) (by decide) hk1 hFc hP1 hD1
      have hK := (hK.sub (tys' := []) [] rfl).app hK1
      generalize H1 = H at hP hS ⊢
      have hP := hP.sub (ws' := [(h0, .inr (5, [.ref ruT, .ref ruB, .ref ruE, .int ruHas, .int ruWide, .int ruSo, .int ruUo, .int ruSp, .int ruSs, .int ruUp, .int ruUs, .int w0_11])), (ruB, .inr (1, [.int ebKind, .int ebMonth, .int ebWeek, .int ebDay, .int ebTime, .int ebClock])), (ruE, .inr (1, [.int eeKind, .int eeMonth, .int eeWeek, .int eeDay, .int eeTime, .int eeClock])), (qn_3, .inr (2, [.ref h0, .long z_4, .long z_5, .long z_6, .long z_7]))]) [1, 2, 3, 0] rfl
      have hD := hD.sub (ws' := [(h0, .inr (5, [.ref ruT, .ref ruB, .ref ruE, .int ruHas, .int ruWide, .int ruSo, .int ruUo, .int ruSp, .int ruSs, .int ruUp, .int ruUs, .int w0_11])), (ruB, .inr (1, [.int ebKind, .int ebMonth, .int ebWeek, .int ebDay, .int ebTime, .int ebClock])), (ruE, .inr (1, [.int eeKind, .int eeMonth, .int eeWeek, .int eeDay, .int eeTime, .int eeClock])), (qn_3, .inr (2, [.ref h0, .long z_4, .long z_5, .long z_6, .long z_7]))]) [1, 2, 3, 0] (by decide) rfl
      have hK := hK.sub (tys' := []) [] rfl
      refine lv_astore (lv' := [(5, .ref qn_3), (0, .ref h0), (1, .long x1), (3, .long x3)]) hx hb d_Rule_changeBelow_29 hl (by decide) rfl (fun ls hl => ?_)
      refine lv_iconst (v := 0) hx hb d_Rule_changeBelow_31 (by decide) ?_
      refine lv_istore (lv' := [(6, .int 0), (5, .ref qn_3), (0, .ref h0), (1, .long x1), (3, .long x3)]) hx hb d_Rule_changeBelow_32 hl (by decide) rfl (fun ls hl => ?_)
      exact k_Rule_changeBelow_34 C0 hST hA hE nf hf hK hP hD hS hkc hks (lv_sub hl [0, 1, 2, 4] rfl)
    · have hf := it_f c_2 hf
      exact k_Rule_changeBelow_14 C0 hST hA hE hf hK hP hD hS hkc hks (lv_sub hl [] rfl)
end
set_option maxHeartbeats 400000 in
set_option maxRecDepth 100000 in
theorem c_Rule_changeBelow (l : Launch) (dC : Nat → ClassId) (dI : Nat → Nat → Nat) (h0 : Nat) (ruT : Nat) (ruB : Nat) (ruE : Nat) (sz : Nat) (nf : Nat) (p0 : Int64) (p1 : Int64) (ruHas : Int32) (ruWide : Int32) (ruSo : Int32) (ruUo : Int32) (ruSp : Int32) (ruSs : Int32) (ruUp : Int32) (ruUs : Int32) (ruNev : Int32) (ebKind : Int32) (ebMonth : Int32) (ebWeek : Int32) (ebDay : Int32) (ebTime : Int32) (ebClock : Int32) (eeKind : Int32) (eeMonth : Int32) (eeWeek : Int32) (eeDay : Int32) (eeTime : Int32) (eeClock : Int32) {r0 : Int64} {v0_11 : Int32} {kc ks : Nat} (hf : f_Rule_changeBelow nf p0 p1 ruHas ruNev ebKind ebMonth ebWeek ebDay ebTime ebClock eeKind eeMonth eeWeek eeDay eeTime eeClock = some ((r0, v0_11), kc, ks)) : Met l y_Rule_changeBelow (wd y_Rule_changeBelow b_Rule_changeBelow 10 (some .long)) ({ frames := 5, cells := kc, slots := ks, locals := 126 }) (MU dC dI [(h0, .inr (5, [.ref ruT, .ref ruB, .ref ruE, .int ruHas, .int ruWide, .int ruSo, .int ruUo, .int ruSp, .int ruSs, .int ruUp, .int ruUs, .int ruNev])), (ruB, .inr (1, [.int ebKind, .int ebMonth, .int ebWeek, .int ebDay, .int ebTime, .int ebClock])), (ruE, .inr (1, [.int eeKind, .int eeMonth, .int eeWeek, .int eeDay, .int eeTime, .int eeClock]))] [] sz [.ref h0, .long p0, .long p1]) (MV (some (.long r0)) (fun t => va_P (dC, dI) classes [(h0, .inr (5, [.ref ruT, .ref ruB, .ref ruE, .int ruHas, .int ruWide, .int ruSo, .int ruUo, .int ruSp, .int ruSs, .int ruUp, .int ruUs, .int v0_11])), (ruB, .inr (1, [.int ebKind, .int ebMonth, .int ebWeek, .int ebDay, .int ebTime, .int ebClock])), (ruE, .inr (1, [.int eeKind, .int eeMonth, .int eeWeek, .int eeDay, .int eeTime, .int eeClock]))] t.heap ∧ va_K (dC, dI) classes [] t ∧ va_D (va_A [(h0, .inr (5, [.ref ruT, .ref ruB, .ref ruE, .int ruHas, .int ruWide, .int ruSo, .int ruUo, .int ruSp, .int ruSs, .int ruUp, .int ruUs, .int ruNev])), (ruB, .inr (1, [.int ebKind, .int ebMonth, .int ebWeek, .int ebDay, .int ebTime, .int ebClock])), (ruE, .inr (1, [.int eeKind, .int eeMonth, .int eeWeek, .int eeDay, .int eeTime, .int eeClock]))] sz) [(h0, .inr (5, [.ref ruT, .ref ruB, .ref ruE, .int ruHas, .int ruWide, .int ruSo, .int ruUo, .int ruSp, .int ruSs, .int ruUp, .int ruUs, .int v0_11])), (ruB, .inr (1, [.int ebKind, .int ebMonth, .int ebWeek, .int ebDay, .int ebTime, .int ebClock])), (ruE, .inr (1, [.int eeKind, .int eeMonth, .int eeWeek, .int eeDay, .int eeTime, .int eeClock]))]) (va_A [(h0, .inr (5, [.ref ruT, .ref ruB, .ref ruE, .int ruHas, .int ruWide, .int ruSo, .int ruUo, .int ruSp, .int ruSs, .int ruUp, .int ruUs, .int ruNev])), (ruB, .inr (1, [.int ebKind, .int ebMonth, .int ebWeek, .int ebDay, .int ebTime, .int ebClock])), (ruE, .inr (1, [.int eeKind, .int eeMonth, .int eeWeek, .int eeDay, .int eeTime, .int eeClock]))] sz)) kc ks (va_A [(h0, .inr (5, [.ref ruT, .ref ruB, .ref ruE, .int ruHas, .int ruWide, .int ruSo, .int ruUo, .int ruSp, .int ruSs, .int ruUp, .int ruUs, .int ruNev])), (ruB, .inr (1, [.int ebKind, .int ebMonth, .int ebWeek, .int ebDay, .int ebTime, .int ebClock])), (ruE, .inr (1, [.int eeKind, .int eeMonth, .int eeWeek, .int eeDay, .int eeTime, .int eeClock]))] sz) :=
  met_M (plainFor_of_name (by decide)) (Nat.le_of_ble_eq_true rfl) (fun p e R s m args below meth c ls hRc hRs hsz hin C0 hST hK hP hD hl => by
    obtain ⟨hx, hb, hr, hml, hown, hts, hlocks, hRf, hRl⟩ := id C0
    subst hRc; subst hRs
    subst hsz
    have hA : ∀ q : Nat, s.heap.size ≤ q → va_A [(h0, .inr (5, [.ref ruT, .ref ruB, .ref ruE, .int ruHas, .int ruWide, .int ruSo, .int ruUo, .int ruSp, .int ruSs, .int ruUp, .int ruUs, .int ruNev])), (ruB, .inr (1, [.int ebKind, .int ebMonth, .int ebWeek, .int ebDay, .int ebTime, .int ebClock])), (ruE, .inr (1, [.int eeKind, .int eeMonth, .int eeWeek, .int eeDay, .int eeTime, .int eeClock]))] s.heap.size q := fun q h => Or.inr h
    have hS : va_S (va_A [(h0, .inr (5, [.ref ruT, .ref ruB, .ref ruE, .int ruHas, .int ruWide, .int ruSo, .int ruUo, .int ruSp, .int ruSs, .int ruUp, .int ruUs, .int ruNev])), (ruB, .inr (1, [.int ebKind, .int ebMonth, .int ebWeek, .int ebDay, .int ebTime, .int ebClock])), (ruE, .inr (1, [.int eeKind, .int eeMonth, .int eeWeek, .int eeDay, .int eeTime, .int eeClock]))] s.heap.size) s.heap s.heap [] := va_S.rf
    have hkc := Nat.zero_add R.cells
    have hks := Nat.zero_add R.slots
    unfold f_Rule_changeBelow at hf
    exact k_Rule_changeBelow_0 C0 hST hA (fun pc ls H locs hd hP hD hS hK => W.lret hx hb hr (fun t ht hW => ⟨⟨rfl, ⟨by rw [ht]; exact hP, va_K.moved hW.alike hK, hD⟩⟩, hS.F ht⟩) hS.2.2 hd) hf hK hP hD hS hkc hks (lv_sub hl [0, 1, 2] rfl))
