theorem m_7_122 : Cond.methodLink "ZoneFilesModel" 286 ⟨"ZoneFilesModel", "file", "()Z"⟩ ∈ T0 := tb_7 122 rfl rfl
theorem m_7_124 : Cond.instanceMethod ⟨"ZoneFilesModel", "file", "()Z"⟩ ∈ T0 := tb_7 124 rfl rfl
theorem m_7_125 : Cond.code ⟨"ZoneFilesModel", "file", "()Z"⟩ prog_14_method_33_code 4 (some .boolean) ∈ T0 := tb_7 125 rfl rfl
theorem m_7_196 : Cond.methodLink "ZoneFilesModel" 289 ⟨"ZoneFilesModel", "isContinued", "()Z"⟩ ∈ T0 := tb_7 196 rfl rfl
theorem m_7_198 : Cond.instanceMethod ⟨"ZoneFilesModel", "isContinued", "()Z"⟩ ∈ T0 := tb_7 198 rfl rfl
theorem m_7_199 : Cond.code ⟨"ZoneFilesModel", "isContinued", "()Z"⟩ prog_14_method_54_code 3 (some .boolean) ∈ T0 := tb_7 199 rfl rfl
theorem m_7_200 : Cond.methodLink "ZoneFilesModel" 402 ⟨"ZoneFilesModel", "byType", "(II)V"⟩ ∈ T0 := tb_7 200 rfl rfl
theorem m_7_202 : Cond.instanceMethod ⟨"ZoneFilesModel", "byType", "(II)V"⟩ ∈ T0 := tb_7 202 rfl rfl
theorem m_7_203 : Cond.code ⟨"ZoneFilesModel", "byType", "(II)V"⟩ prog_14_method_49_code 4 none ∈ T0 := tb_7 203 rfl rfl
theorem m_7_204 : Cond.methodLink "ZoneFilesModel" 417 ⟨"ZoneFilesModel", "keep", "()V"⟩ ∈ T0 := tb_7 204 rfl rfl
theorem m_7_206 : Cond.instanceMethod ⟨"ZoneFilesModel", "keep", "()V"⟩ ∈ T0 := tb_7 206 rfl rfl
theorem m_7_207 : Cond.code ⟨"ZoneFilesModel", "keep", "()V"⟩ prog_14_method_52_code 2 none ∈ T0 := tb_7 207 rfl rfl
theorem m_7_208 : Cond.methodLink "ZoneFilesModel" 398 ⟨"ZoneFilesModel", "byRule", "(IJ)V"⟩ ∈ T0 := tb_7 208 rfl rfl
theorem m_7_210 : Cond.instanceMethod ⟨"ZoneFilesModel", "byRule", "(IJ)V"⟩ ∈ T0 := tb_7 210 rfl rfl
theorem m_7_211 : Cond.code ⟨"ZoneFilesModel", "byRule", "(IJ)V"⟩ prog_14_method_50_code 5 none ∈ T0 := tb_7 211 rfl rfl
theorem m_7_212 : Cond.methodLink "ZoneFilesModel" 391 ⟨"ZoneFilesModel", "nothing", "()V"⟩ ∈ T0 := tb_7 212 rfl rfl
theorem m_7_214 : Cond.instanceMethod ⟨"ZoneFilesModel", "nothing", "()V"⟩ ∈ T0 := tb_7 214 rfl rfl
theorem m_7_215 : Cond.code ⟨"ZoneFilesModel", "nothing", "()V"⟩ prog_14_method_48_code 1 none ∈ T0 := tb_7 215 rfl rfl
theorem m_7_216 : Cond.methodLink "ZoneFilesModel" 394 ⟨"ZoneFilesModel", "isSummer", "(IJ)Z"⟩ ∈ T0 := tb_7 216 rfl rfl
theorem m_7_218 : Cond.instanceMethod ⟨"ZoneFilesModel", "isSummer", "(IJ)Z"⟩ ∈ T0 := tb_7 218 rfl rfl
theorem m_7_219 : Cond.code ⟨"ZoneFilesModel", "isSummer", "(IJ)Z"⟩ prog_14_method_47_code 15 (some .boolean) ∈ T0 := tb_7 219 rfl rfl
theorem m_7_220 : Cond.methodLink "ZoneFilesModel" 366 ⟨"ZoneFilesModel", "about", "(J)J"⟩ ∈ T0 := tb_7 220 rfl rfl
theorem m_7_222 : Cond.instanceMethod ⟨"ZoneFilesModel", "about", "(J)J"⟩ ∈ T0 := tb_7 222 rfl rfl
theorem m_7_223 : Cond.code ⟨"ZoneFilesModel", "about", "(J)J"⟩ prog_14_method_46_code 3 (some .long) ∈ T0 := tb_7 223 rfl rfl
theorem m_8_2 : Cond.constantLong "ZoneFilesModel" 370 (-9223372036854775808) ∈ T0 := tb_8 2 rfl rfl
theorem m_8_3 : Cond.methodLink "ZoneFilesModel" 372 ⟨"ZoneFilesModel", "event", "(IJI)J"⟩ ∈ T0 := tb_8 3 rfl rfl
theorem m_8_5 : Cond.instanceMethod ⟨"ZoneFilesModel", "event", "(IJI)J"⟩ ∈ T0 := tb_8 5 rfl rfl
theorem m_8_6 : Cond.code ⟨"ZoneFilesModel", "event", "(IJI)J"⟩ prog_14_method_45_code 5 (some .long) ∈ T0 := tb_8 6 rfl rfl
theorem m_8_24 : Cond.methodLink "ZoneFilesModel" 420 ⟨"ZoneFilesModel", "isKept", "()Z"⟩ ∈ T0 := tb_8 24 rfl rfl
theorem m_8_26 : Cond.instanceMethod ⟨"ZoneFilesModel", "isKept", "()Z"⟩ ∈ T0 := tb_8 26 rfl rfl
theorem m_8_27 : Cond.code ⟨"ZoneFilesModel", "isKept", "()Z"⟩ prog_14_method_53_code 3 (some .boolean) ∈ T0 := tb_8 27 rfl rfl
theorem m_8_32 : Cond.constantLong "ZoneFilesModel" 341 3600 ∈ T0 := tb_8 32 rfl rfl
theorem m_8_33 : Cond.constantLong "ZoneFilesModel" 343 60 ∈ T0 := tb_8 33 rfl rfl
theorem m_8_38 : Cond.constantLong "ZoneFilesModel" 353 (-30000000000) ∈ T0 := tb_8 38 rfl rfl
theorem m_8_39 : Cond.constantLong "ZoneFilesModel" 355 30000000000 ∈ T0 := tb_8 39 rfl rfl
theorem m_8_40 : Cond.constant "ZoneFilesModel" 361 86400 ∈ T0 := tb_8 40 rfl rfl
theorem m_8_45 : Cond.methodLink "ZoneFilesModel" 423 ⟨"ZoneFilesModel", "noZone", "(I)Z"⟩ ∈ T0 := tb_8 45 rfl rfl
theorem m_8_47 : Cond.instanceMethod ⟨"ZoneFilesModel", "noZone", "(I)Z"⟩ ∈ T0 := tb_8 47 rfl rfl
theorem m_8_48 : Cond.code ⟨"ZoneFilesModel", "noZone", "(I)Z"⟩ prog_14_method_55_code 2 (some .boolean) ∈ T0 := tb_8 48 rfl rfl
theorem m_8_49 : Cond.methodLink "ZoneFilesModel" 426 ⟨"ZoneFilesModel", "state", "(IJ)V"⟩ ∈ T0 := tb_8 49 rfl rfl
theorem m_8_51 : Cond.instanceMethod ⟨"ZoneFilesModel", "state", "(IJ)V"⟩ ∈ T0 := tb_8 51 rfl rfl
theorem m_8_52 : Cond.code ⟨"ZoneFilesModel", "state", "(IJ)V"⟩ prog_14_method_51_code 6 none ∈ T0 := tb_8 52 rfl rfl
theorem m_8_53 : Cond.constant "ZoneFilesModel" 429 (-2147483648) ∈ T0 := tb_8 53 rfl rfl
theorem msel_58 : Cond.selects "ZoneFilesModel" ⟨"ZoneFilesModel", "file", "()Z"⟩ ⟨"ZoneFilesModel", "file", "()Z"⟩ ∈ T0 := ps_4 (q := (⟨"ZoneFilesModel", "file", "()Z"⟩, 72)) 10 rfl
theorem msel_72 : Cond.selects "ZoneFilesModel" ⟨"ZoneFilesModel", "isContinued", "()Z"⟩ ⟨"ZoneFilesModel", "isContinued", "()Z"⟩ ∈ T0 := ps_5 (q := (⟨"ZoneFilesModel", "isContinued", "()Z"⟩, 72)) 8 rfl
theorem msel_73 : Cond.selects "ZoneFilesModel" ⟨"ZoneFilesModel", "byType", "(II)V"⟩ ⟨"ZoneFilesModel", "byType", "(II)V"⟩ ∈ T0 := ps_5 (q := (⟨"ZoneFilesModel", "byType", "(II)V"⟩, 72)) 9 rfl
theorem msel_74 : Cond.selects "ZoneFilesModel" ⟨"ZoneFilesModel", "keep", "()V"⟩ ⟨"ZoneFilesModel", "keep", "()V"⟩ ∈ T0 := ps_5 (q := (⟨"ZoneFilesModel", "keep", "()V"⟩, 72)) 10 rfl
theorem msel_75 : Cond.selects "ZoneFilesModel" ⟨"ZoneFilesModel", "byRule", "(IJ)V"⟩ ⟨"ZoneFilesModel", "byRule", "(IJ)V"⟩ ∈ T0 := ps_5 (q := (⟨"ZoneFilesModel", "byRule", "(IJ)V"⟩, 72)) 11 rfl
theorem msel_76 : Cond.selects "ZoneFilesModel" ⟨"ZoneFilesModel", "nothing", "()V"⟩ ⟨"ZoneFilesModel", "nothing", "()V"⟩ ∈ T0 := ps_5 (q := (⟨"ZoneFilesModel", "nothing", "()V"⟩, 72)) 12 rfl
theorem msel_77 : Cond.selects "ZoneFilesModel" ⟨"ZoneFilesModel", "isSummer", "(IJ)Z"⟩ ⟨"ZoneFilesModel", "isSummer", "(IJ)Z"⟩ ∈ T0 := ps_5 (q := (⟨"ZoneFilesModel", "isSummer", "(IJ)Z"⟩, 72)) 13 rfl
theorem msel_78 : Cond.selects "ZoneFilesModel" ⟨"ZoneFilesModel", "about", "(J)J"⟩ ⟨"ZoneFilesModel", "about", "(J)J"⟩ ∈ T0 := ps_5 (q := (⟨"ZoneFilesModel", "about", "(J)J"⟩, 72)) 14 rfl
theorem msel_80 : Cond.selects "ZoneFilesModel" ⟨"ZoneFilesModel", "event", "(IJI)J"⟩ ⟨"ZoneFilesModel", "event", "(IJI)J"⟩ ∈ T0 := ps_6 (q := (⟨"ZoneFilesModel", "event", "(IJI)J"⟩, 72)) 0 rfl
theorem msel_82 : Cond.selects "ZoneFilesModel" ⟨"ZoneFilesModel", "isKept", "()Z"⟩ ⟨"ZoneFilesModel", "isKept", "()Z"⟩ ∈ T0 := ps_6 (q := (⟨"ZoneFilesModel", "isKept", "()Z"⟩, 72)) 2 rfl
theorem msel_83 : Cond.selects "ZoneFilesModel" ⟨"ZoneFilesModel", "noZone", "(I)Z"⟩ ⟨"ZoneFilesModel", "noZone", "(I)Z"⟩ ∈ T0 := ps_6 (q := (⟨"ZoneFilesModel", "noZone", "(I)Z"⟩, 72)) 3 rfl
theorem msel_84 : Cond.selects "ZoneFilesModel" ⟨"ZoneFilesModel", "state", "(IJ)V"⟩ ⟨"ZoneFilesModel", "state", "(IJ)V"⟩ ∈ T0 := ps_6 (q := (⟨"ZoneFilesModel", "state", "(IJ)V"⟩, 72)) 4 rfl
abbrev b_Mo_isSummer : ByteArray := prog_14_method_47_code
def y_Mo_isSummer : MethodName := ⟨"ZoneFilesModel", "isSummer", "(IJ)Z"⟩
theorem d_Mo_isSummer_0 : decode b_Mo_isSummer 0 = .ok (.aload_n 0, 1) := by decide +kernel
theorem d_Mo_isSummer_1 : decode b_Mo_isSummer 1 = .ok (.getfield 75, 3) := by decide +kernel
theorem d_Mo_isSummer_4 : decode b_Mo_isSummer 4 = .ok (.iload_n 1, 1) := by decide +kernel
theorem d_Mo_isSummer_5 : decode b_Mo_isSummer 5 = .ok (.iaload, 1) := by decide +kernel
theorem d_Mo_isSummer_6 : decode b_Mo_isSummer 6 = .ok (.iconst 2, 1) := by decide +kernel
theorem d_Mo_isSummer_7 : decode b_Mo_isSummer 7 = .ok (.if_icmp .ge 5, 3) := by decide +kernel
theorem d_Mo_isSummer_10 : decode b_Mo_isSummer 10 = .ok (.iconst 0, 1) := by decide +kernel
theorem d_Mo_isSummer_11 : decode b_Mo_isSummer 11 = .ok (.ireturn, 1) := by decide +kernel
theorem d_Mo_isSummer_12 : decode b_Mo_isSummer 12 = .ok (.aload_n 0, 1) := by decide +kernel
theorem d_Mo_isSummer_13 : decode b_Mo_isSummer 13 = .ok (.lload_n 2, 1) := by decide +kernel
theorem d_Mo_isSummer_14 : decode b_Mo_isSummer 14 = .ok (.invokevirtual 366, 3) := by decide +kernel
theorem d_Mo_isSummer_17 : decode b_Mo_isSummer 17 = .ok (.lstore 4, 2) := by decide +kernel
theorem d_Mo_isSummer_19 : decode b_Mo_isSummer 19 = .ok (.ldc2_w 370, 3) := by decide +kernel
theorem d_Mo_isSummer_22 : decode b_Mo_isSummer 22 = .ok (.lstore 6, 2) := by decide +kernel
theorem d_Mo_isSummer_24 : decode b_Mo_isSummer 24 = .ok (.iconst 0, 1) := by decide +kernel
theorem d_Mo_isSummer_25 : decode b_Mo_isSummer 25 = .ok (.istore 8, 2) := by decide +kernel
theorem d_Mo_isSummer_27 : decode b_Mo_isSummer 27 = .ok (.lload 4, 2) := by decide +kernel
theorem d_Mo_isSummer_29 : decode b_Mo_isSummer 29 = .ok (.ldc2_w 305, 3) := by decide +kernel
theorem d_Mo_isSummer_32 : decode b_Mo_isSummer 32 = .ok (.lsub, 1) := by decide +kernel
theorem d_Mo_isSummer_33 : decode b_Mo_isSummer 33 = .ok (.lstore 9, 2) := by decide +kernel
theorem d_Mo_isSummer_35 : decode b_Mo_isSummer 35 = .ok (.lload 9, 2) := by decide +kernel
theorem d_Mo_isSummer_37 : decode b_Mo_isSummer 37 = .ok (.lload 4, 2) := by decide +kernel
theorem d_Mo_isSummer_39 : decode b_Mo_isSummer 39 = .ok (.ldc2_w 305, 3) := by decide +kernel
theorem d_Mo_isSummer_42 : decode b_Mo_isSummer 42 = .ok (.ladd, 1) := by decide +kernel
theorem d_Mo_isSummer_43 : decode b_Mo_isSummer 43 = .ok (.lcmp, 1) := by decide +kernel
theorem d_Mo_isSummer_44 : decode b_Mo_isSummer 44 = .ok (.ifCond .gt 76, 3) := by decide +kernel
theorem d_Mo_isSummer_47 : decode b_Mo_isSummer 47 = .ok (.aload_n 0, 1) := by decide +kernel
theorem d_Mo_isSummer_48 : decode b_Mo_isSummer 48 = .ok (.iload_n 1, 1) := by decide +kernel
theorem d_Mo_isSummer_49 : decode b_Mo_isSummer 49 = .ok (.lload 9, 2) := by decide +kernel
theorem d_Mo_isSummer_51 : decode b_Mo_isSummer 51 = .ok (.iconst 0, 1) := by decide +kernel
theorem d_Mo_isSummer_52 : decode b_Mo_isSummer 52 = .ok (.invokevirtual 372, 3) := by decide +kernel
theorem d_Mo_isSummer_55 : decode b_Mo_isSummer 55 = .ok (.lstore 11, 2) := by decide +kernel
theorem d_Mo_isSummer_57 : decode b_Mo_isSummer 57 = .ok (.aload_n 0, 1) := by decide +kernel
theorem d_Mo_isSummer_58 : decode b_Mo_isSummer 58 = .ok (.iload_n 1, 1) := by decide +kernel
theorem d_Mo_isSummer_59 : decode b_Mo_isSummer 59 = .ok (.lload 9, 2) := by decide +kernel
theorem d_Mo_isSummer_61 : decode b_Mo_isSummer 61 = .ok (.iconst 1, 1) := by decide +kernel
theorem d_Mo_isSummer_62 : decode b_Mo_isSummer 62 = .ok (.invokevirtual 372, 3) := by decide +kernel
theorem d_Mo_isSummer_65 : decode b_Mo_isSummer 65 = .ok (.lstore 13, 2) := by decide +kernel
theorem d_Mo_isSummer_67 : decode b_Mo_isSummer 67 = .ok (.lload 13, 2) := by decide +kernel
theorem d_Mo_isSummer_69 : decode b_Mo_isSummer 69 = .ok (.lload_n 2, 1) := by decide +kernel
theorem d_Mo_isSummer_70 : decode b_Mo_isSummer 70 = .ok (.lcmp, 1) := by decide +kernel
theorem d_Mo_isSummer_71 : decode b_Mo_isSummer 71 = .ok (.ifCond .gt 18, 3) := by decide +kernel
theorem d_Mo_isSummer_74 : decode b_Mo_isSummer 74 = .ok (.lload 13, 2) := by decide +kernel
theorem d_Mo_isSummer_76 : decode b_Mo_isSummer 76 = .ok (.lload 6, 2) := by decide +kernel
theorem d_Mo_isSummer_78 : decode b_Mo_isSummer 78 = .ok (.lcmp, 1) := by decide +kernel
theorem d_Mo_isSummer_79 : decode b_Mo_isSummer 79 = .ok (.ifCond .le 10, 3) := by decide +kernel
theorem d_Mo_isSummer_82 : decode b_Mo_isSummer 82 = .ok (.lload 13, 2) := by decide +kernel
theorem d_Mo_isSummer_84 : decode b_Mo_isSummer 84 = .ok (.lstore 6, 2) := by decide +kernel
theorem d_Mo_isSummer_86 : decode b_Mo_isSummer 86 = .ok (.iconst 0, 1) := by decide +kernel
theorem d_Mo_isSummer_87 : decode b_Mo_isSummer 87 = .ok (.istore 8, 2) := by decide +kernel
theorem d_Mo_isSummer_89 : decode b_Mo_isSummer 89 = .ok (.lload 11, 2) := by decide +kernel
theorem d_Mo_isSummer_91 : decode b_Mo_isSummer 91 = .ok (.lload_n 2, 1) := by decide +kernel
theorem d_Mo_isSummer_92 : decode b_Mo_isSummer 92 = .ok (.lcmp, 1) := by decide +kernel
theorem d_Mo_isSummer_93 : decode b_Mo_isSummer 93 = .ok (.ifCond .gt 18, 3) := by decide +kernel
theorem d_Mo_isSummer_96 : decode b_Mo_isSummer 96 = .ok (.lload 11, 2) := by decide +kernel
theorem d_Mo_isSummer_98 : decode b_Mo_isSummer 98 = .ok (.lload 6, 2) := by decide +kernel
theorem d_Mo_isSummer_100 : decode b_Mo_isSummer 100 = .ok (.lcmp, 1) := by decide +kernel
theorem d_Mo_isSummer_101 : decode b_Mo_isSummer 101 = .ok (.ifCond .lt 10, 3) := by decide +kernel
theorem d_Mo_isSummer_104 : decode b_Mo_isSummer 104 = .ok (.lload 11, 2) := by decide +kernel
theorem d_Mo_isSummer_106 : decode b_Mo_isSummer 106 = .ok (.lstore 6, 2) := by decide +kernel
theorem d_Mo_isSummer_108 : decode b_Mo_isSummer 108 = .ok (.iconst 1, 1) := by decide +kernel
theorem d_Mo_isSummer_109 : decode b_Mo_isSummer 109 = .ok (.istore 8, 2) := by decide +kernel
theorem d_Mo_isSummer_111 : decode b_Mo_isSummer 111 = .ok (.lload 9, 2) := by decide +kernel
theorem d_Mo_isSummer_113 : decode b_Mo_isSummer 113 = .ok (.lconst 1, 1) := by decide +kernel
theorem d_Mo_isSummer_114 : decode b_Mo_isSummer 114 = .ok (.ladd, 1) := by decide +kernel
theorem d_Mo_isSummer_115 : decode b_Mo_isSummer 115 = .ok (.lstore 9, 2) := by decide +kernel
theorem d_Mo_isSummer_117 : decode b_Mo_isSummer 117 = .ok (.goto (-82), 3) := by decide +kernel
theorem d_Mo_isSummer_120 : decode b_Mo_isSummer 120 = .ok (.iload 8, 2) := by decide +kernel
theorem d_Mo_isSummer_122 : decode b_Mo_isSummer 122 = .ok (.ireturn, 1) := by decide +kernel
abbrev b_Mo_nothing : ByteArray := prog_14_method_48_code
def y_Mo_nothing : MethodName := ⟨"ZoneFilesModel", "nothing", "()V"⟩
theorem d_Mo_nothing_0 : decode b_Mo_nothing 0 = .ok (.aload_n 0, 1) := by decide +kernel
theorem d_Mo_nothing_1 : decode b_Mo_nothing 1 = .ok (.iconst 2, 1) := by decide +kernel
theorem d_Mo_nothing_2 : decode b_Mo_nothing 2 = .ok (.putfield 376, 3) := by decide +kernel
theorem d_Mo_nothing_5 : decode b_Mo_nothing 5 = .ok (.aload_n 0, 1) := by decide +kernel
theorem d_Mo_nothing_6 : decode b_Mo_nothing 6 = .ok (.iconst 0, 1) := by decide +kernel
theorem d_Mo_nothing_7 : decode b_Mo_nothing 7 = .ok (.putfield 379, 3) := by decide +kernel
theorem d_Mo_nothing_10 : decode b_Mo_nothing 10 = .ok (.aload_n 0, 1) := by decide +kernel
theorem d_Mo_nothing_11 : decode b_Mo_nothing 11 = .ok (.iconst 0, 1) := by decide +kernel
theorem d_Mo_nothing_12 : decode b_Mo_nothing 12 = .ok (.putfield 382, 3) := by decide +kernel
theorem d_Mo_nothing_15 : decode b_Mo_nothing 15 = .ok (.aload_n 0, 1) := by decide +kernel
theorem d_Mo_nothing_16 : decode b_Mo_nothing 16 = .ok (.iconst 0, 1) := by decide +kernel
theorem d_Mo_nothing_17 : decode b_Mo_nothing 17 = .ok (.putfield 385, 3) := by decide +kernel
theorem d_Mo_nothing_20 : decode b_Mo_nothing 20 = .ok (.return_, 1) := by decide +kernel
abbrev b_Mo_byRule : ByteArray := prog_14_method_50_code
def y_Mo_byRule : MethodName := ⟨"ZoneFilesModel", "byRule", "(IJ)V"⟩
theorem d_Mo_byRule_0 : decode b_Mo_byRule 0 = .ok (.aload_n 0, 1) := by decide +kernel
theorem d_Mo_byRule_1 : decode b_Mo_byRule 1 = .ok (.getfield 75, 3) := by decide +kernel
theorem d_Mo_byRule_4 : decode b_Mo_byRule 4 = .ok (.iload_n 1, 1) := by decide +kernel
theorem d_Mo_byRule_5 : decode b_Mo_byRule 5 = .ok (.iaload, 1) := by decide +kernel
theorem d_Mo_byRule_6 : decode b_Mo_byRule 6 = .ok (.ifCond .ne 8, 3) := by decide +kernel
theorem d_Mo_byRule_9 : decode b_Mo_byRule 9 = .ok (.aload_n 0, 1) := by decide +kernel
theorem d_Mo_byRule_10 : decode b_Mo_byRule 10 = .ok (.invokevirtual 391, 3) := by decide +kernel
theorem d_Mo_byRule_13 : decode b_Mo_byRule 13 = .ok (.return_, 1) := by decide +kernel
theorem d_Mo_byRule_14 : decode b_Mo_byRule 14 = .ok (.aload_n 0, 1) := by decide +kernel
theorem d_Mo_byRule_15 : decode b_Mo_byRule 15 = .ok (.iconst 1, 1) := by decide +kernel
theorem d_Mo_byRule_16 : decode b_Mo_byRule 16 = .ok (.putfield 376, 3) := by decide +kernel
theorem d_Mo_byRule_19 : decode b_Mo_byRule 19 = .ok (.aload_n 0, 1) := by decide +kernel
theorem d_Mo_byRule_20 : decode b_Mo_byRule 20 = .ok (.iconst (-1), 1) := by decide +kernel
theorem d_Mo_byRule_21 : decode b_Mo_byRule 21 = .ok (.putfield 388, 3) := by decide +kernel
theorem d_Mo_byRule_24 : decode b_Mo_byRule 24 = .ok (.aload_n 0, 1) := by decide +kernel
theorem d_Mo_byRule_25 : decode b_Mo_byRule 25 = .ok (.aload_n 0, 1) := by decide +kernel
theorem d_Mo_byRule_26 : decode b_Mo_byRule 26 = .ok (.iload_n 1, 1) := by decide +kernel
theorem d_Mo_byRule_27 : decode b_Mo_byRule 27 = .ok (.lload_n 2, 1) := by decide +kernel
theorem d_Mo_byRule_28 : decode b_Mo_byRule 28 = .ok (.invokevirtual 394, 3) := by decide +kernel
theorem d_Mo_byRule_31 : decode b_Mo_byRule 31 = .ok (.ifCond .eq 7, 3) := by decide +kernel
theorem d_Mo_byRule_34 : decode b_Mo_byRule 34 = .ok (.iconst 1, 1) := by decide +kernel
theorem d_Mo_byRule_35 : decode b_Mo_byRule 35 = .ok (.goto 4, 3) := by decide +kernel
theorem d_Mo_byRule_38 : decode b_Mo_byRule 38 = .ok (.iconst 0, 1) := by decide +kernel
theorem d_Mo_byRule_39 : decode b_Mo_byRule 39 = .ok (.putfield 382, 3) := by decide +kernel
theorem d_Mo_byRule_42 : decode b_Mo_byRule 42 = .ok (.aload_n 0, 1) := by decide +kernel
theorem d_Mo_byRule_43 : decode b_Mo_byRule 43 = .ok (.aload_n 0, 1) := by decide +kernel
theorem d_Mo_byRule_44 : decode b_Mo_byRule 44 = .ok (.getfield 78, 3) := by decide +kernel
theorem d_Mo_byRule_47 : decode b_Mo_byRule 47 = .ok (.iconst 2, 1) := by decide +kernel
theorem d_Mo_byRule_48 : decode b_Mo_byRule 48 = .ok (.iload_n 1, 1) := by decide +kernel
theorem d_Mo_byRule_49 : decode b_Mo_byRule 49 = .ok (.imul, 1) := by decide +kernel
theorem d_Mo_byRule_50 : decode b_Mo_byRule 50 = .ok (.aload_n 0, 1) := by decide +kernel
theorem d_Mo_byRule_51 : decode b_Mo_byRule 51 = .ok (.getfield 382, 3) := by decide +kernel
theorem d_Mo_byRule_54 : decode b_Mo_byRule 54 = .ok (.iadd, 1) := by decide +kernel
theorem d_Mo_byRule_55 : decode b_Mo_byRule 55 = .ok (.iaload, 1) := by decide +kernel
theorem d_Mo_byRule_56 : decode b_Mo_byRule 56 = .ok (.putfield 379, 3) := by decide +kernel
theorem d_Mo_byRule_59 : decode b_Mo_byRule 59 = .ok (.aload_n 0, 1) := by decide +kernel
theorem d_Mo_byRule_60 : decode b_Mo_byRule 60 = .ok (.aload_n 0, 1) := by decide +kernel
theorem d_Mo_byRule_61 : decode b_Mo_byRule 61 = .ok (.getfield 81, 3) := by decide +kernel
theorem d_Mo_byRule_64 : decode b_Mo_byRule 64 = .ok (.iconst 2, 1) := by decide +kernel
theorem d_Mo_byRule_65 : decode b_Mo_byRule 65 = .ok (.iload_n 1, 1) := by decide +kernel
theorem d_Mo_byRule_66 : decode b_Mo_byRule 66 = .ok (.imul, 1) := by decide +kernel
theorem d_Mo_byRule_67 : decode b_Mo_byRule 67 = .ok (.aload_n 0, 1) := by decide +kernel
theorem d_Mo_byRule_68 : decode b_Mo_byRule 68 = .ok (.getfield 382, 3) := by decide +kernel
theorem d_Mo_byRule_71 : decode b_Mo_byRule 71 = .ok (.iadd, 1) := by decide +kernel
theorem d_Mo_byRule_72 : decode b_Mo_byRule 72 = .ok (.iaload, 1) := by decide +kernel
theorem d_Mo_byRule_73 : decode b_Mo_byRule 73 = .ok (.putfield 385, 3) := by decide +kernel
theorem d_Mo_byRule_76 : decode b_Mo_byRule 76 = .ok (.iconst 0, 1) := by decide +kernel
theorem d_Mo_byRule_77 : decode b_Mo_byRule 77 = .ok (.istore 4, 2) := by decide +kernel
theorem d_Mo_byRule_79 : decode b_Mo_byRule 79 = .ok (.iload 4, 2) := by decide +kernel
theorem d_Mo_byRule_81 : decode b_Mo_byRule 81 = .ok (.aload_n 0, 1) := by decide +kernel
theorem d_Mo_byRule_82 : decode b_Mo_byRule 82 = .ok (.getfield 385, 3) := by decide +kernel
theorem d_Mo_byRule_85 : decode b_Mo_byRule 85 = .ok (.if_icmp .ge 36, 3) := by decide +kernel
theorem d_Mo_byRule_88 : decode b_Mo_byRule 88 = .ok (.aload_n 0, 1) := by decide +kernel
theorem d_Mo_byRule_89 : decode b_Mo_byRule 89 = .ok (.getfield 105, 3) := by decide +kernel
theorem d_Mo_byRule_92 : decode b_Mo_byRule 92 = .ok (.iload 4, 2) := by decide +kernel
theorem d_Mo_byRule_94 : decode b_Mo_byRule 94 = .ok (.aload_n 0, 1) := by decide +kernel
theorem d_Mo_byRule_95 : decode b_Mo_byRule 95 = .ok (.getfield 84, 3) := by decide +kernel
theorem d_Mo_byRule_98 : decode b_Mo_byRule 98 = .ok (.bipush 20, 2) := by decide +kernel
theorem d_Mo_byRule_100 : decode b_Mo_byRule 100 = .ok (.iload_n 1, 1) := by decide +kernel
theorem d_Mo_byRule_101 : decode b_Mo_byRule 101 = .ok (.imul, 1) := by decide +kernel
theorem d_Mo_byRule_102 : decode b_Mo_byRule 102 = .ok (.bipush 10, 2) := by decide +kernel
theorem d_Mo_byRule_104 : decode b_Mo_byRule 104 = .ok (.aload_n 0, 1) := by decide +kernel
theorem d_Mo_byRule_105 : decode b_Mo_byRule 105 = .ok (.getfield 382, 3) := by decide +kernel
theorem d_Mo_byRule_108 : decode b_Mo_byRule 108 = .ok (.imul, 1) := by decide +kernel
theorem d_Mo_byRule_109 : decode b_Mo_byRule 109 = .ok (.iadd, 1) := by decide +kernel
theorem d_Mo_byRule_110 : decode b_Mo_byRule 110 = .ok (.iload 4, 2) := by decide +kernel
theorem d_Mo_byRule_112 : decode b_Mo_byRule 112 = .ok (.iadd, 1) := by decide +kernel
theorem d_Mo_byRule_113 : decode b_Mo_byRule 113 = .ok (.iaload, 1) := by decide +kernel
theorem d_Mo_byRule_114 : decode b_Mo_byRule 114 = .ok (.iastore, 1) := by decide +kernel
theorem d_Mo_byRule_115 : decode b_Mo_byRule 115 = .ok (.iinc 4 1, 3) := by decide +kernel
theorem d_Mo_byRule_118 : decode b_Mo_byRule 118 = .ok (.goto (-39), 3) := by decide +kernel
theorem d_Mo_byRule_121 : decode b_Mo_byRule 121 = .ok (.return_, 1) := by decide +kernel
abbrev b_Mo_byType : ByteArray := prog_14_method_49_code
def y_Mo_byType : MethodName := ⟨"ZoneFilesModel", "byType", "(II)V"⟩
theorem d_Mo_byType_0 : decode b_Mo_byType 0 = .ok (.aload_n 0, 1) := by decide +kernel
theorem d_Mo_byType_1 : decode b_Mo_byType 1 = .ok (.iconst 0, 1) := by decide +kernel
theorem d_Mo_byType_2 : decode b_Mo_byType 2 = .ok (.putfield 376, 3) := by decide +kernel
theorem d_Mo_byType_5 : decode b_Mo_byType 5 = .ok (.aload_n 0, 1) := by decide +kernel
theorem d_Mo_byType_6 : decode b_Mo_byType 6 = .ok (.iload_n 2, 1) := by decide +kernel
theorem d_Mo_byType_7 : decode b_Mo_byType 7 = .ok (.putfield 388, 3) := by decide +kernel
theorem d_Mo_byType_10 : decode b_Mo_byType 10 = .ok (.aload_n 0, 1) := by decide +kernel
theorem d_Mo_byType_11 : decode b_Mo_byType 11 = .ok (.aload_n 0, 1) := by decide +kernel
theorem d_Mo_byType_12 : decode b_Mo_byType 12 = .ok (.getfield 48, 3) := by decide +kernel
theorem d_Mo_byType_15 : decode b_Mo_byType 15 = .ok (.bipush 40, 2) := by decide +kernel
theorem d_Mo_byType_17 : decode b_Mo_byType 17 = .ok (.iload_n 1, 1) := by decide +kernel
theorem d_Mo_byType_18 : decode b_Mo_byType 18 = .ok (.imul, 1) := by decide +kernel
theorem d_Mo_byType_19 : decode b_Mo_byType 19 = .ok (.iload_n 2, 1) := by decide +kernel
theorem d_Mo_byType_20 : decode b_Mo_byType 20 = .ok (.iadd, 1) := by decide +kernel
theorem d_Mo_byType_21 : decode b_Mo_byType 21 = .ok (.iaload, 1) := by decide +kernel
theorem d_Mo_byType_22 : decode b_Mo_byType 22 = .ok (.putfield 379, 3) := by decide +kernel
theorem d_Mo_byType_25 : decode b_Mo_byType 25 = .ok (.aload_n 0, 1) := by decide +kernel
theorem d_Mo_byType_26 : decode b_Mo_byType 26 = .ok (.aload_n 0, 1) := by decide +kernel
theorem d_Mo_byType_27 : decode b_Mo_byType 27 = .ok (.getfield 51, 3) := by decide +kernel
theorem d_Mo_byType_30 : decode b_Mo_byType 30 = .ok (.bipush 40, 2) := by decide +kernel
theorem d_Mo_byType_32 : decode b_Mo_byType 32 = .ok (.iload_n 1, 1) := by decide +kernel
theorem d_Mo_byType_33 : decode b_Mo_byType 33 = .ok (.imul, 1) := by decide +kernel
theorem d_Mo_byType_34 : decode b_Mo_byType 34 = .ok (.iload_n 2, 1) := by decide +kernel
theorem d_Mo_byType_35 : decode b_Mo_byType 35 = .ok (.iadd, 1) := by decide +kernel
theorem d_Mo_byType_36 : decode b_Mo_byType 36 = .ok (.iaload, 1) := by decide +kernel
theorem d_Mo_byType_37 : decode b_Mo_byType 37 = .ok (.putfield 382, 3) := by decide +kernel
theorem d_Mo_byType_40 : decode b_Mo_byType 40 = .ok (.aload_n 0, 1) := by decide +kernel
theorem d_Mo_byType_41 : decode b_Mo_byType 41 = .ok (.aload_n 0, 1) := by decide +kernel
theorem d_Mo_byType_42 : decode b_Mo_byType 42 = .ok (.iload_n 1, 1) := by decide +kernel
theorem d_Mo_byType_43 : decode b_Mo_byType 43 = .ok (.iload_n 2, 1) := by decide +kernel
theorem d_Mo_byType_44 : decode b_Mo_byType 44 = .ok (.invokevirtual 260, 3) := by decide +kernel
theorem d_Mo_byType_47 : decode b_Mo_byType 47 = .ok (.putfield 385, 3) := by decide +kernel
theorem d_Mo_byType_50 : decode b_Mo_byType 50 = .ok (.iconst 0, 1) := by decide +kernel
theorem d_Mo_byType_51 : decode b_Mo_byType 51 = .ok (.istore_n 3, 1) := by decide +kernel
theorem d_Mo_byType_52 : decode b_Mo_byType 52 = .ok (.iload_n 3, 1) := by decide +kernel
theorem d_Mo_byType_53 : decode b_Mo_byType 53 = .ok (.aload_n 0, 1) := by decide +kernel
theorem d_Mo_byType_54 : decode b_Mo_byType 54 = .ok (.getfield 385, 3) := by decide +kernel
theorem d_Mo_byType_57 : decode b_Mo_byType 57 = .ok (.if_icmp .ge 39, 3) := by decide +kernel
theorem d_Mo_byType_60 : decode b_Mo_byType 60 = .ok (.aload_n 0, 1) := by decide +kernel
theorem d_Mo_byType_61 : decode b_Mo_byType 61 = .ok (.getfield 105, 3) := by decide +kernel
theorem d_Mo_byType_64 : decode b_Mo_byType 64 = .ok (.iload_n 3, 1) := by decide +kernel
theorem d_Mo_byType_65 : decode b_Mo_byType 65 = .ok (.aload_n 0, 1) := by decide +kernel
theorem d_Mo_byType_66 : decode b_Mo_byType 66 = .ok (.getfield 57, 3) := by decide +kernel
theorem d_Mo_byType_69 : decode b_Mo_byType 69 = .ok (.sipush 200, 3) := by decide +kernel
theorem d_Mo_byType_72 : decode b_Mo_byType 72 = .ok (.iload_n 1, 1) := by decide +kernel
theorem d_Mo_byType_73 : decode b_Mo_byType 73 = .ok (.imul, 1) := by decide +kernel
theorem d_Mo_byType_74 : decode b_Mo_byType 74 = .ok (.aload_n 0, 1) := by decide +kernel
theorem d_Mo_byType_75 : decode b_Mo_byType 75 = .ok (.getfield 54, 3) := by decide +kernel
theorem d_Mo_byType_78 : decode b_Mo_byType 78 = .ok (.bipush 40, 2) := by decide +kernel
theorem d_Mo_byType_80 : decode b_Mo_byType 80 = .ok (.iload_n 1, 1) := by decide +kernel
theorem d_Mo_byType_81 : decode b_Mo_byType 81 = .ok (.imul, 1) := by decide +kernel
theorem d_Mo_byType_82 : decode b_Mo_byType 82 = .ok (.iload_n 2, 1) := by decide +kernel
theorem d_Mo_byType_83 : decode b_Mo_byType 83 = .ok (.iadd, 1) := by decide +kernel
theorem d_Mo_byType_84 : decode b_Mo_byType 84 = .ok (.iaload, 1) := by decide +kernel
theorem d_Mo_byType_85 : decode b_Mo_byType 85 = .ok (.iadd, 1) := by decide +kernel
theorem d_Mo_byType_86 : decode b_Mo_byType 86 = .ok (.iload_n 3, 1) := by decide +kernel
theorem d_Mo_byType_87 : decode b_Mo_byType 87 = .ok (.iadd, 1) := by decide +kernel
theorem d_Mo_byType_88 : decode b_Mo_byType 88 = .ok (.iaload, 1) := by decide +kernel
theorem d_Mo_byType_89 : decode b_Mo_byType 89 = .ok (.iastore, 1) := by decide +kernel
theorem d_Mo_byType_90 : decode b_Mo_byType 90 = .ok (.iinc 3 1, 3) := by decide +kernel
theorem d_Mo_byType_93 : decode b_Mo_byType 93 = .ok (.goto (-41), 3) := by decide +kernel
theorem d_Mo_byType_96 : decode b_Mo_byType 96 = .ok (.return_, 1) := by decide +kernel
abbrev b_Mo_isKept : ByteArray := prog_14_method_53_code
def y_Mo_isKept : MethodName := ⟨"ZoneFilesModel", "isKept", "()Z"⟩
theorem d_Mo_isKept_0 : decode b_Mo_isKept 0 = .ok (.aload_n 0, 1) := by decide +kernel
theorem d_Mo_isKept_1 : decode b_Mo_isKept 1 = .ok (.getfield 408, 3) := by decide +kernel
theorem d_Mo_isKept_4 : decode b_Mo_isKept 4 = .ok (.aload_n 0, 1) := by decide +kernel
theorem d_Mo_isKept_5 : decode b_Mo_isKept 5 = .ok (.getfield 379, 3) := by decide +kernel
theorem d_Mo_isKept_8 : decode b_Mo_isKept 8 = .ok (.if_icmp .ne 58, 3) := by decide +kernel
theorem d_Mo_isKept_11 : decode b_Mo_isKept 11 = .ok (.aload_n 0, 1) := by decide +kernel
theorem d_Mo_isKept_12 : decode b_Mo_isKept 12 = .ok (.getfield 411, 3) := by decide +kernel
theorem d_Mo_isKept_15 : decode b_Mo_isKept 15 = .ok (.aload_n 0, 1) := by decide +kernel
theorem d_Mo_isKept_16 : decode b_Mo_isKept 16 = .ok (.getfield 382, 3) := by decide +kernel
theorem d_Mo_isKept_19 : decode b_Mo_isKept 19 = .ok (.if_icmp .ne 47, 3) := by decide +kernel
theorem d_Mo_isKept_22 : decode b_Mo_isKept 22 = .ok (.aload_n 0, 1) := by decide +kernel
theorem d_Mo_isKept_23 : decode b_Mo_isKept 23 = .ok (.getfield 414, 3) := by decide +kernel
theorem d_Mo_isKept_26 : decode b_Mo_isKept 26 = .ok (.aload_n 0, 1) := by decide +kernel
theorem d_Mo_isKept_27 : decode b_Mo_isKept 27 = .ok (.getfield 385, 3) := by decide +kernel
theorem d_Mo_isKept_30 : decode b_Mo_isKept 30 = .ok (.if_icmp .ne 36, 3) := by decide +kernel
theorem d_Mo_isKept_33 : decode b_Mo_isKept 33 = .ok (.aload_n 0, 1) := by decide +kernel
theorem d_Mo_isKept_34 : decode b_Mo_isKept 34 = .ok (.getfield 405, 3) := by decide +kernel
theorem d_Mo_isKept_37 : decode b_Mo_isKept 37 = .ok (.iconst 2, 1) := by decide +kernel
theorem d_Mo_isKept_38 : decode b_Mo_isKept 38 = .ok (.if_icmp .ne 7, 3) := by decide +kernel
theorem d_Mo_isKept_41 : decode b_Mo_isKept 41 = .ok (.iconst 1, 1) := by decide +kernel
theorem d_Mo_isKept_42 : decode b_Mo_isKept 42 = .ok (.goto 4, 3) := by decide +kernel
theorem d_Mo_isKept_45 : decode b_Mo_isKept 45 = .ok (.iconst 0, 1) := by decide +kernel
theorem d_Mo_isKept_46 : decode b_Mo_isKept 46 = .ok (.aload_n 0, 1) := by decide +kernel
theorem d_Mo_isKept_47 : decode b_Mo_isKept 47 = .ok (.getfield 376, 3) := by decide +kernel
theorem d_Mo_isKept_50 : decode b_Mo_isKept 50 = .ok (.iconst 2, 1) := by decide +kernel
theorem d_Mo_isKept_51 : decode b_Mo_isKept 51 = .ok (.if_icmp .ne 7, 3) := by decide +kernel
theorem d_Mo_isKept_54 : decode b_Mo_isKept 54 = .ok (.iconst 1, 1) := by decide +kernel
theorem d_Mo_isKept_55 : decode b_Mo_isKept 55 = .ok (.goto 4, 3) := by decide +kernel
theorem d_Mo_isKept_58 : decode b_Mo_isKept 58 = .ok (.iconst 0, 1) := by decide +kernel
theorem d_Mo_isKept_59 : decode b_Mo_isKept 59 = .ok (.if_icmp .ne 7, 3) := by decide +kernel
theorem d_Mo_isKept_62 : decode b_Mo_isKept 62 = .ok (.iconst 1, 1) := by decide +kernel
theorem d_Mo_isKept_63 : decode b_Mo_isKept 63 = .ok (.goto 4, 3) := by decide +kernel
theorem d_Mo_isKept_66 : decode b_Mo_isKept 66 = .ok (.iconst 0, 1) := by decide +kernel
theorem d_Mo_isKept_67 : decode b_Mo_isKept 67 = .ok (.istore_n 1, 1) := by decide +kernel
theorem d_Mo_isKept_68 : decode b_Mo_isKept 68 = .ok (.iconst 0, 1) := by decide +kernel
theorem d_Mo_isKept_69 : decode b_Mo_isKept 69 = .ok (.istore_n 2, 1) := by decide +kernel
theorem d_Mo_isKept_70 : decode b_Mo_isKept 70 = .ok (.iload_n 2, 1) := by decide +kernel
theorem d_Mo_isKept_71 : decode b_Mo_isKept 71 = .ok (.aload_n 0, 1) := by decide +kernel
theorem d_Mo_isKept_72 : decode b_Mo_isKept 72 = .ok (.getfield 385, 3) := by decide +kernel
theorem d_Mo_isKept_75 : decode b_Mo_isKept 75 = .ok (.if_icmp .ge 34, 3) := by decide +kernel
theorem d_Mo_isKept_78 : decode b_Mo_isKept 78 = .ok (.iload_n 1, 1) := by decide +kernel
theorem d_Mo_isKept_79 : decode b_Mo_isKept 79 = .ok (.ifCond .eq 30, 3) := by decide +kernel
theorem d_Mo_isKept_82 : decode b_Mo_isKept 82 = .ok (.aload_n 0, 1) := by decide +kernel
theorem d_Mo_isKept_83 : decode b_Mo_isKept 83 = .ok (.getfield 108, 3) := by decide +kernel
theorem d_Mo_isKept_86 : decode b_Mo_isKept 86 = .ok (.iload_n 2, 1) := by decide +kernel
theorem d_Mo_isKept_87 : decode b_Mo_isKept 87 = .ok (.iaload, 1) := by decide +kernel
theorem d_Mo_isKept_88 : decode b_Mo_isKept 88 = .ok (.aload_n 0, 1) := by decide +kernel
theorem d_Mo_isKept_89 : decode b_Mo_isKept 89 = .ok (.getfield 105, 3) := by decide +kernel
theorem d_Mo_isKept_92 : decode b_Mo_isKept 92 = .ok (.iload_n 2, 1) := by decide +kernel
theorem d_Mo_isKept_93 : decode b_Mo_isKept 93 = .ok (.iaload, 1) := by decide +kernel
theorem d_Mo_isKept_94 : decode b_Mo_isKept 94 = .ok (.if_icmp .ne 7, 3) := by decide +kernel
theorem d_Mo_isKept_97 : decode b_Mo_isKept 97 = .ok (.iconst 1, 1) := by decide +kernel
theorem d_Mo_isKept_98 : decode b_Mo_isKept 98 = .ok (.goto 4, 3) := by decide +kernel
theorem d_Mo_isKept_101 : decode b_Mo_isKept 101 = .ok (.iconst 0, 1) := by decide +kernel
theorem d_Mo_isKept_102 : decode b_Mo_isKept 102 = .ok (.istore_n 1, 1) := by decide +kernel
theorem d_Mo_isKept_103 : decode b_Mo_isKept 103 = .ok (.iinc 2 1, 3) := by decide +kernel
theorem d_Mo_isKept_106 : decode b_Mo_isKept 106 = .ok (.goto (-36), 3) := by decide +kernel
theorem d_Mo_isKept_109 : decode b_Mo_isKept 109 = .ok (.iload_n 1, 1) := by decide +kernel
theorem d_Mo_isKept_110 : decode b_Mo_isKept 110 = .ok (.ireturn, 1) := by decide +kernel
abbrev b_Mo_keep : ByteArray := prog_14_method_52_code
def y_Mo_keep : MethodName := ⟨"ZoneFilesModel", "keep", "()V"⟩
theorem d_Mo_keep_0 : decode b_Mo_keep 0 = .ok (.aload_n 0, 1) := by decide +kernel
theorem d_Mo_keep_1 : decode b_Mo_keep 1 = .ok (.aload_n 0, 1) := by decide +kernel
theorem d_Mo_keep_2 : decode b_Mo_keep 2 = .ok (.getfield 376, 3) := by decide +kernel
theorem d_Mo_keep_5 : decode b_Mo_keep 5 = .ok (.putfield 405, 3) := by decide +kernel
theorem d_Mo_keep_8 : decode b_Mo_keep 8 = .ok (.aload_n 0, 1) := by decide +kernel
theorem d_Mo_keep_9 : decode b_Mo_keep 9 = .ok (.aload_n 0, 1) := by decide +kernel
theorem d_Mo_keep_10 : decode b_Mo_keep 10 = .ok (.getfield 379, 3) := by decide +kernel
theorem d_Mo_keep_13 : decode b_Mo_keep 13 = .ok (.putfield 408, 3) := by decide +kernel
theorem d_Mo_keep_16 : decode b_Mo_keep 16 = .ok (.aload_n 0, 1) := by decide +kernel
theorem d_Mo_keep_17 : decode b_Mo_keep 17 = .ok (.aload_n 0, 1) := by decide +kernel
theorem d_Mo_keep_18 : decode b_Mo_keep 18 = .ok (.getfield 382, 3) := by decide +kernel
theorem d_Mo_keep_21 : decode b_Mo_keep 21 = .ok (.putfield 411, 3) := by decide +kernel
theorem d_Mo_keep_24 : decode b_Mo_keep 24 = .ok (.aload_n 0, 1) := by decide +kernel
theorem d_Mo_keep_25 : decode b_Mo_keep 25 = .ok (.aload_n 0, 1) := by decide +kernel
theorem d_Mo_keep_26 : decode b_Mo_keep 26 = .ok (.getfield 385, 3) := by decide +kernel
theorem d_Mo_keep_29 : decode b_Mo_keep 29 = .ok (.putfield 414, 3) := by decide +kernel
theorem d_Mo_keep_32 : decode b_Mo_keep 32 = .ok (.iconst 0, 1) := by decide +kernel
theorem d_Mo_keep_33 : decode b_Mo_keep 33 = .ok (.istore_n 1, 1) := by decide +kernel
theorem d_Mo_keep_34 : decode b_Mo_keep 34 = .ok (.iload_n 1, 1) := by decide +kernel
theorem d_Mo_keep_35 : decode b_Mo_keep 35 = .ok (.aload_n 0, 1) := by decide +kernel
theorem d_Mo_keep_36 : decode b_Mo_keep 36 = .ok (.getfield 385, 3) := by decide +kernel
theorem d_Mo_keep_39 : decode b_Mo_keep 39 = .ok (.if_icmp .ge 21, 3) := by decide +kernel
theorem d_Mo_keep_42 : decode b_Mo_keep 42 = .ok (.aload_n 0, 1) := by decide +kernel
theorem d_Mo_keep_43 : decode b_Mo_keep 43 = .ok (.getfield 108, 3) := by decide +kernel
theorem d_Mo_keep_46 : decode b_Mo_keep 46 = .ok (.iload_n 1, 1) := by decide +kernel
theorem d_Mo_keep_47 : decode b_Mo_keep 47 = .ok (.aload_n 0, 1) := by decide +kernel
theorem d_Mo_keep_48 : decode b_Mo_keep 48 = .ok (.getfield 105, 3) := by decide +kernel
theorem d_Mo_keep_51 : decode b_Mo_keep 51 = .ok (.iload_n 1, 1) := by decide +kernel
theorem d_Mo_keep_52 : decode b_Mo_keep 52 = .ok (.iaload, 1) := by decide +kernel
theorem d_Mo_keep_53 : decode b_Mo_keep 53 = .ok (.iastore, 1) := by decide +kernel
theorem d_Mo_keep_54 : decode b_Mo_keep 54 = .ok (.iinc 1 1, 3) := by decide +kernel
theorem d_Mo_keep_57 : decode b_Mo_keep 57 = .ok (.goto (-23), 3) := by decide +kernel
theorem d_Mo_keep_60 : decode b_Mo_keep 60 = .ok (.return_, 1) := by decide +kernel
abbrev b_Mo_isContinued : ByteArray := prog_14_method_54_code
def y_Mo_isContinued : MethodName := ⟨"ZoneFilesModel", "isContinued", "()Z"⟩
theorem d_Mo_isContinued_0 : decode b_Mo_isContinued 0 = .ok (.iconst 4, 1) := by decide +kernel
theorem d_Mo_isContinued_1 : decode b_Mo_isContinued 1 = .ok (.istore_n 1, 1) := by decide +kernel
theorem d_Mo_isContinued_2 : decode b_Mo_isContinued 2 = .ok (.sipush 200, 3) := by decide +kernel
theorem d_Mo_isContinued_5 : decode b_Mo_isContinued 5 = .ok (.iload_n 1, 1) := by decide +kernel
theorem d_Mo_isContinued_6 : decode b_Mo_isContinued 6 = .ok (.imul, 1) := by decide +kernel
theorem d_Mo_isContinued_7 : decode b_Mo_isContinued 7 = .ok (.aload_n 0, 1) := by decide +kernel
theorem d_Mo_isContinued_8 : decode b_Mo_isContinued 8 = .ok (.getfield 20, 3) := by decide +kernel
theorem d_Mo_isContinued_11 : decode b_Mo_isContinued 11 = .ok (.iload_n 1, 1) := by decide +kernel
theorem d_Mo_isContinued_12 : decode b_Mo_isContinued 12 = .ok (.iaload, 1) := by decide +kernel
theorem d_Mo_isContinued_13 : decode b_Mo_isContinued 13 = .ok (.iadd, 1) := by decide +kernel
theorem d_Mo_isContinued_14 : decode b_Mo_isContinued 14 = .ok (.iconst 1, 1) := by decide +kernel
theorem d_Mo_isContinued_15 : decode b_Mo_isContinued 15 = .ok (.isub, 1) := by decide +kernel
theorem d_Mo_isContinued_16 : decode b_Mo_isContinued 16 = .ok (.istore_n 2, 1) := by decide +kernel
theorem d_Mo_isContinued_17 : decode b_Mo_isContinued 17 = .ok (.aload_n 0, 1) := by decide +kernel
theorem d_Mo_isContinued_18 : decode b_Mo_isContinued 18 = .ok (.iload_n 1, 1) := by decide +kernel
theorem d_Mo_isContinued_19 : decode b_Mo_isContinued 19 = .ok (.aload_n 0, 1) := by decide +kernel
theorem d_Mo_isContinued_20 : decode b_Mo_isContinued 20 = .ok (.getfield 45, 3) := by decide +kernel
theorem d_Mo_isContinued_23 : decode b_Mo_isContinued 23 = .ok (.iload_n 2, 1) := by decide +kernel
theorem d_Mo_isContinued_24 : decode b_Mo_isContinued 24 = .ok (.iaload, 1) := by decide +kernel
theorem d_Mo_isContinued_25 : decode b_Mo_isContinued 25 = .ok (.invokevirtual 402, 3) := by decide +kernel
theorem d_Mo_isContinued_28 : decode b_Mo_isContinued 28 = .ok (.aload_n 0, 1) := by decide +kernel
theorem d_Mo_isContinued_29 : decode b_Mo_isContinued 29 = .ok (.invokevirtual 417, 3) := by decide +kernel
theorem d_Mo_isContinued_32 : decode b_Mo_isContinued 32 = .ok (.aload_n 0, 1) := by decide +kernel
theorem d_Mo_isContinued_33 : decode b_Mo_isContinued 33 = .ok (.iload_n 1, 1) := by decide +kernel
theorem d_Mo_isContinued_34 : decode b_Mo_isContinued 34 = .ok (.aload_n 0, 1) := by decide +kernel
theorem d_Mo_isContinued_35 : decode b_Mo_isContinued 35 = .ok (.getfield 41, 3) := by decide +kernel
theorem d_Mo_isContinued_38 : decode b_Mo_isContinued 38 = .ok (.iload_n 2, 1) := by decide +kernel
theorem d_Mo_isContinued_39 : decode b_Mo_isContinued 39 = .ok (.laload, 1) := by decide +kernel
theorem d_Mo_isContinued_40 : decode b_Mo_isContinued 40 = .ok (.invokevirtual 398, 3) := by decide +kernel
theorem d_Mo_isContinued_43 : decode b_Mo_isContinued 43 = .ok (.aload_n 0, 1) := by decide +kernel
theorem d_Mo_isContinued_44 : decode b_Mo_isContinued 44 = .ok (.invokevirtual 420, 3) := by decide +kernel
theorem d_Mo_isContinued_47 : decode b_Mo_isContinued 47 = .ok (.ireturn, 1) := by decide +kernel
abbrev b_Mo_read : ByteArray := prog_14_method_34_code
def y_Mo_read : MethodName := ⟨"ZoneFilesModel", "read", "(I)I"⟩
theorem d_Mo_read_0 : decode b_Mo_read 0 = .ok (.aload_n 0, 1) := by decide +kernel
theorem d_Mo_read_1 : decode b_Mo_read 1 = .ok (.iload_n 1, 1) := by decide +kernel
theorem d_Mo_read_2 : decode b_Mo_read 2 = .ok (.ifCond .lt 8, 3) := by decide +kernel
theorem d_Mo_read_5 : decode b_Mo_read 5 = .ok (.iload_n 1, 1) := by decide +kernel
theorem d_Mo_read_6 : decode b_Mo_read 6 = .ok (.iconst 4, 1) := by decide +kernel
theorem d_Mo_read_7 : decode b_Mo_read 7 = .ok (.if_icmp .lt 7, 3) := by decide +kernel
theorem d_Mo_read_10 : decode b_Mo_read 10 = .ok (.iconst 1, 1) := by decide +kernel
theorem d_Mo_read_11 : decode b_Mo_read 11 = .ok (.goto 4, 3) := by decide +kernel
theorem d_Mo_read_14 : decode b_Mo_read 14 = .ok (.iconst 0, 1) := by decide +kernel
theorem d_Mo_read_15 : decode b_Mo_read 15 = .ok (.putfield 150, 3) := by decide +kernel
theorem d_Mo_read_18 : decode b_Mo_read 18 = .ok (.aload_n 0, 1) := by decide +kernel
theorem d_Mo_read_19 : decode b_Mo_read 19 = .ok (.getfield 150, 3) := by decide +kernel
theorem d_Mo_read_22 : decode b_Mo_read 22 = .ok (.ifCond .le 5, 3) := by decide +kernel
theorem d_Mo_read_25 : decode b_Mo_read 25 = .ok (.iconst 0, 1) := by decide +kernel
theorem d_Mo_read_26 : decode b_Mo_read 26 = .ok (.ireturn, 1) := by decide +kernel
theorem d_Mo_read_27 : decode b_Mo_read 27 = .ok (.aload_n 0, 1) := by decide +kernel
theorem d_Mo_read_28 : decode b_Mo_read 28 = .ok (.iconst 0, 1) := by decide +kernel
theorem d_Mo_read_29 : decode b_Mo_read 29 = .ok (.putfield 206, 3) := by decide +kernel
theorem d_Mo_read_32 : decode b_Mo_read 32 = .ok (.aload_n 0, 1) := by decide +kernel
theorem d_Mo_read_33 : decode b_Mo_read 33 = .ok (.invokevirtual 286, 3) := by decide +kernel
theorem d_Mo_read_36 : decode b_Mo_read 36 = .ok (.istore_n 2, 1) := by decide +kernel
theorem d_Mo_read_37 : decode b_Mo_read 37 = .ok (.iload_n 2, 1) := by decide +kernel
theorem d_Mo_read_38 : decode b_Mo_read 38 = .ok (.ifCond .eq 39, 3) := by decide +kernel
theorem d_Mo_read_41 : decode b_Mo_read 41 = .ok (.aload_n 0, 1) := by decide +kernel
theorem d_Mo_read_42 : decode b_Mo_read 42 = .ok (.getfield 20, 3) := by decide +kernel
theorem d_Mo_read_45 : decode b_Mo_read 45 = .ok (.iconst 4, 1) := by decide +kernel
theorem d_Mo_read_46 : decode b_Mo_read 46 = .ok (.iaload, 1) := by decide +kernel
theorem d_Mo_read_47 : decode b_Mo_read 47 = .ok (.ifCond .le 30, 3) := by decide +kernel
theorem d_Mo_read_50 : decode b_Mo_read 50 = .ok (.aload_n 0, 1) := by decide +kernel
theorem d_Mo_read_51 : decode b_Mo_read 51 = .ok (.getfield 75, 3) := by decide +kernel
theorem d_Mo_read_54 : decode b_Mo_read 54 = .ok (.iconst 4, 1) := by decide +kernel
theorem d_Mo_read_55 : decode b_Mo_read 55 = .ok (.iaload, 1) := by decide +kernel
theorem d_Mo_read_56 : decode b_Mo_read 56 = .ok (.ifCond .le 21, 3) := by decide +kernel
theorem d_Mo_read_59 : decode b_Mo_read 59 = .ok (.aload_n 0, 1) := by decide +kernel
theorem d_Mo_read_60 : decode b_Mo_read 60 = .ok (.invokevirtual 289, 3) := by decide +kernel
theorem d_Mo_read_63 : decode b_Mo_read 63 = .ok (.ifCond .ne 14, 3) := by decide +kernel
theorem d_Mo_read_66 : decode b_Mo_read 66 = .ok (.aload_n 0, 1) := by decide +kernel
theorem d_Mo_read_67 : decode b_Mo_read 67 = .ok (.bipush 17, 2) := by decide +kernel
theorem d_Mo_read_69 : decode b_Mo_read 69 = .ok (.aload_n 0, 1) := by decide +kernel
theorem d_Mo_read_70 : decode b_Mo_read 70 = .ok (.getfield 269, 3) := by decide +kernel
theorem d_Mo_read_73 : decode b_Mo_read 73 = .ok (.invokevirtual 217, 3) := by decide +kernel
theorem d_Mo_read_76 : decode b_Mo_read 76 = .ok (.istore_n 2, 1) := by decide +kernel
theorem d_Mo_read_77 : decode b_Mo_read 77 = .ok (.aload_n 0, 1) := by decide +kernel
theorem d_Mo_read_78 : decode b_Mo_read 78 = .ok (.iconst 0, 1) := by decide +kernel
theorem d_Mo_read_79 : decode b_Mo_read 79 = .ok (.putfield 135, 3) := by decide +kernel
theorem d_Mo_read_82 : decode b_Mo_read 82 = .ok (.iload_n 2, 1) := by decide +kernel
theorem d_Mo_read_83 : decode b_Mo_read 83 = .ok (.ifCond .eq 9, 3) := by decide +kernel
theorem d_Mo_read_86 : decode b_Mo_read 86 = .ok (.aload_n 0, 1) := by decide +kernel
theorem d_Mo_read_87 : decode b_Mo_read 87 = .ok (.iload_n 1, 1) := by decide +kernel
theorem d_Mo_read_88 : decode b_Mo_read 88 = .ok (.iconst 4, 1) := by decide +kernel
theorem d_Mo_read_89 : decode b_Mo_read 89 = .ok (.invokevirtual 146, 3) := by decide +kernel
theorem d_Mo_read_92 : decode b_Mo_read 92 = .ok (.aload_n 0, 1) := by decide +kernel
theorem d_Mo_read_93 : decode b_Mo_read 93 = .ok (.getfield 206, 3) := by decide +kernel
theorem d_Mo_read_96 : decode b_Mo_read 96 = .ok (.ireturn, 1) := by decide +kernel
abbrev b_Mo_clock : ByteArray := prog_14_method_42_code
def y_Mo_clock : MethodName := ⟨"ZoneFilesModel", "clock", "(JI)J"⟩
theorem d_Mo_clock_0 : decode b_Mo_clock 0 = .ok (.aload_n 0, 1) := by decide +kernel
theorem d_Mo_clock_1 : decode b_Mo_clock 1 = .ok (.iload_n 3, 1) := by decide +kernel
theorem d_Mo_clock_2 : decode b_Mo_clock 2 = .ok (.ifCond .lt 9, 3) := by decide +kernel
theorem d_Mo_clock_5 : decode b_Mo_clock 5 = .ok (.iload_n 3, 1) := by decide +kernel
theorem d_Mo_clock_6 : decode b_Mo_clock 6 = .ok (.bipush 7, 2) := by decide +kernel
theorem d_Mo_clock_8 : decode b_Mo_clock 8 = .ok (.if_icmp .le 7, 3) := by decide +kernel
theorem d_Mo_clock_11 : decode b_Mo_clock 11 = .ok (.iconst 1, 1) := by decide +kernel
theorem d_Mo_clock_12 : decode b_Mo_clock 12 = .ok (.goto 15, 3) := by decide +kernel
theorem d_Mo_clock_15 : decode b_Mo_clock 15 = .ok (.lload_n 1, 1) := by decide +kernel
theorem d_Mo_clock_16 : decode b_Mo_clock 16 = .ok (.invokestatic 251, 3) := by decide +kernel
theorem d_Mo_clock_19 : decode b_Mo_clock 19 = .ok (.ifCond .ne 7, 3) := by decide +kernel
theorem d_Mo_clock_22 : decode b_Mo_clock 22 = .ok (.iconst 2, 1) := by decide +kernel
theorem d_Mo_clock_23 : decode b_Mo_clock 23 = .ok (.goto 4, 3) := by decide +kernel
theorem d_Mo_clock_26 : decode b_Mo_clock 26 = .ok (.iconst 0, 1) := by decide +kernel
theorem d_Mo_clock_27 : decode b_Mo_clock 27 = .ok (.putfield 150, 3) := by decide +kernel
theorem d_Mo_clock_30 : decode b_Mo_clock 30 = .ok (.aload_n 0, 1) := by decide +kernel
theorem d_Mo_clock_31 : decode b_Mo_clock 31 = .ok (.getfield 150, 3) := by decide +kernel
theorem d_Mo_clock_34 : decode b_Mo_clock 34 = .ok (.ifCond .le 5, 3) := by decide +kernel
theorem d_Mo_clock_37 : decode b_Mo_clock 37 = .ok (.lconst 0, 1) := by decide +kernel
theorem d_Mo_clock_38 : decode b_Mo_clock 38 = .ok (.lreturn, 1) := by decide +kernel
theorem d_Mo_clock_39 : decode b_Mo_clock 39 = .ok (.lload_n 1, 1) := by decide +kernel
theorem d_Mo_clock_40 : decode b_Mo_clock 40 = .ok (.ldc2_w 335, 3) := by decide +kernel
theorem d_Mo_clock_43 : decode b_Mo_clock 43 = .ok (.invokestatic 292, 3) := by decide +kernel
theorem d_Mo_clock_46 : decode b_Mo_clock 46 = .ok (.lstore 4, 2) := by decide +kernel
theorem d_Mo_clock_48 : decode b_Mo_clock 48 = .ok (.lload_n 1, 1) := by decide +kernel
theorem d_Mo_clock_49 : decode b_Mo_clock 49 = .ok (.lload 4, 2) := by decide +kernel
theorem d_Mo_clock_51 : decode b_Mo_clock 51 = .ok (.ldc2_w 335, 3) := by decide +kernel
theorem d_Mo_clock_54 : decode b_Mo_clock 54 = .ok (.lmul, 1) := by decide +kernel
theorem d_Mo_clock_55 : decode b_Mo_clock 55 = .ok (.lsub, 1) := by decide +kernel
theorem d_Mo_clock_56 : decode b_Mo_clock 56 = .ok (.lstore 6, 2) := by decide +kernel
theorem d_Mo_clock_58 : decode b_Mo_clock 58 = .ok (.aload_n 0, 1) := by decide +kernel
theorem d_Mo_clock_59 : decode b_Mo_clock 59 = .ok (.lload 4, 2) := by decide +kernel
theorem d_Mo_clock_61 : decode b_Mo_clock 61 = .ok (.invokevirtual 337, 3) := by decide +kernel
theorem d_Mo_clock_64 : decode b_Mo_clock 64 = .ok (.iload_n 3, 1) := by decide +kernel
theorem d_Mo_clock_65 : decode b_Mo_clock 65 = .ok (.tableswitch 92 0 6 #[43, 48, 54, 60, 67, 78, 85], 43) := by decide +kernel
theorem d_Mo_clock_108 : decode b_Mo_clock 108 = .ok (.aload_n 0, 1) := by decide +kernel
theorem d_Mo_clock_109 : decode b_Mo_clock 109 = .ok (.getfield 325, 3) := by decide +kernel
theorem d_Mo_clock_112 : decode b_Mo_clock 112 = .ok (.lreturn, 1) := by decide +kernel
theorem d_Mo_clock_113 : decode b_Mo_clock 113 = .ok (.aload_n 0, 1) := by decide +kernel
theorem d_Mo_clock_114 : decode b_Mo_clock 114 = .ok (.getfield 322, 3) := by decide +kernel
theorem d_Mo_clock_117 : decode b_Mo_clock 117 = .ok (.i2l, 1) := by decide +kernel
theorem d_Mo_clock_118 : decode b_Mo_clock 118 = .ok (.lreturn, 1) := by decide +kernel
theorem d_Mo_clock_119 : decode b_Mo_clock 119 = .ok (.aload_n 0, 1) := by decide +kernel
theorem d_Mo_clock_120 : decode b_Mo_clock 120 = .ok (.getfield 319, 3) := by decide +kernel
theorem d_Mo_clock_123 : decode b_Mo_clock 123 = .ok (.i2l, 1) := by decide +kernel
theorem d_Mo_clock_124 : decode b_Mo_clock 124 = .ok (.lreturn, 1) := by decide +kernel
theorem d_Mo_clock_125 : decode b_Mo_clock 125 = .ok (.lload 6, 2) := by decide +kernel
theorem d_Mo_clock_127 : decode b_Mo_clock 127 = .ok (.ldc2_w 341, 3) := by decide +kernel
theorem d_Mo_clock_130 : decode b_Mo_clock 130 = .ok (.ldiv, 1) := by decide +kernel
theorem d_Mo_clock_131 : decode b_Mo_clock 131 = .ok (.lreturn, 1) := by decide +kernel
theorem d_Mo_clock_132 : decode b_Mo_clock 132 = .ok (.lload 6, 2) := by decide +kernel
theorem d_Mo_clock_134 : decode b_Mo_clock 134 = .ok (.ldc2_w 343, 3) := by decide +kernel
theorem d_Mo_clock_137 : decode b_Mo_clock 137 = .ok (.ldiv, 1) := by decide +kernel
theorem d_Mo_clock_138 : decode b_Mo_clock 138 = .ok (.ldc2_w 343, 3) := by decide +kernel
theorem d_Mo_clock_141 : decode b_Mo_clock 141 = .ok (.lrem, 1) := by decide +kernel
theorem d_Mo_clock_142 : decode b_Mo_clock 142 = .ok (.lreturn, 1) := by decide +kernel
theorem d_Mo_clock_143 : decode b_Mo_clock 143 = .ok (.lload 6, 2) := by decide +kernel
theorem d_Mo_clock_145 : decode b_Mo_clock 145 = .ok (.ldc2_w 343, 3) := by decide +kernel
theorem d_Mo_clock_148 : decode b_Mo_clock 148 = .ok (.lrem, 1) := by decide +kernel
theorem d_Mo_clock_149 : decode b_Mo_clock 149 = .ok (.lreturn, 1) := by decide +kernel
theorem d_Mo_clock_150 : decode b_Mo_clock 150 = .ok (.lload 4, 2) := by decide +kernel
theorem d_Mo_clock_152 : decode b_Mo_clock 152 = .ok (.invokestatic 345, 3) := by decide +kernel
theorem d_Mo_clock_155 : decode b_Mo_clock 155 = .ok (.i2l, 1) := by decide +kernel
theorem d_Mo_clock_156 : decode b_Mo_clock 156 = .ok (.lreturn, 1) := by decide +kernel
theorem d_Mo_clock_157 : decode b_Mo_clock 157 = .ok (.lload 4, 2) := by decide +kernel
theorem d_Mo_clock_159 : decode b_Mo_clock 159 = .ok (.aload_n 0, 1) := by decide +kernel
theorem d_Mo_clock_160 : decode b_Mo_clock 160 = .ok (.getfield 325, 3) := by decide +kernel
theorem d_Mo_clock_163 : decode b_Mo_clock 163 = .ok (.iconst 1, 1) := by decide +kernel
theorem d_Mo_clock_164 : decode b_Mo_clock 164 = .ok (.iconst 1, 1) := by decide +kernel
theorem d_Mo_clock_165 : decode b_Mo_clock 165 = .ok (.invokestatic 349, 3) := by decide +kernel
theorem d_Mo_clock_168 : decode b_Mo_clock 168 = .ok (.lsub, 1) := by decide +kernel
theorem d_Mo_clock_169 : decode b_Mo_clock 169 = .ok (.lconst 1, 1) := by decide +kernel
theorem d_Mo_clock_170 : decode b_Mo_clock 170 = .ok (.ladd, 1) := by decide +kernel
theorem d_Mo_clock_171 : decode b_Mo_clock 171 = .ok (.lreturn, 1) := by decide +kernel
abbrev b_Mo_seconds : ByteArray := prog_14_method_43_code
def y_Mo_seconds : MethodName := ⟨"ZoneFilesModel", "seconds", "(JIII)J"⟩
theorem d_Mo_seconds_0 : decode b_Mo_seconds 0 = .ok (.lload_n 1, 1) := by decide +kernel
theorem d_Mo_seconds_1 : decode b_Mo_seconds 1 = .ok (.ldc2_w 353, 3) := by decide +kernel
theorem d_Mo_seconds_4 : decode b_Mo_seconds 4 = .ok (.lcmp, 1) := by decide +kernel
theorem d_Mo_seconds_5 : decode b_Mo_seconds 5 = .ok (.ifCond .lt 26, 3) := by decide +kernel
theorem d_Mo_seconds_8 : decode b_Mo_seconds 8 = .ok (.lload_n 1, 1) := by decide +kernel
theorem d_Mo_seconds_9 : decode b_Mo_seconds 9 = .ok (.ldc2_w 355, 3) := by decide +kernel
theorem d_Mo_seconds_12 : decode b_Mo_seconds 12 = .ok (.lcmp, 1) := by decide +kernel
theorem d_Mo_seconds_13 : decode b_Mo_seconds 13 = .ok (.ifCond .gt 18, 3) := by decide +kernel
theorem d_Mo_seconds_16 : decode b_Mo_seconds 16 = .ok (.iload_n 3, 1) := by decide +kernel
theorem d_Mo_seconds_17 : decode b_Mo_seconds 17 = .ok (.iconst 1, 1) := by decide +kernel
theorem d_Mo_seconds_18 : decode b_Mo_seconds 18 = .ok (.if_icmp .lt 13, 3) := by decide +kernel
theorem d_Mo_seconds_21 : decode b_Mo_seconds 21 = .ok (.iload_n 3, 1) := by decide +kernel
theorem d_Mo_seconds_22 : decode b_Mo_seconds 22 = .ok (.bipush 12, 2) := by decide +kernel
theorem d_Mo_seconds_24 : decode b_Mo_seconds 24 = .ok (.if_icmp .gt 7, 3) := by decide +kernel
theorem d_Mo_seconds_27 : decode b_Mo_seconds 27 = .ok (.iconst 1, 1) := by decide +kernel
theorem d_Mo_seconds_28 : decode b_Mo_seconds 28 = .ok (.goto 4, 3) := by decide +kernel
theorem d_Mo_seconds_31 : decode b_Mo_seconds 31 = .ok (.iconst 0, 1) := by decide +kernel
theorem d_Mo_seconds_32 : decode b_Mo_seconds 32 = .ok (.istore 6, 2) := by decide +kernel
theorem d_Mo_seconds_34 : decode b_Mo_seconds 34 = .ok (.iload 6, 2) := by decide +kernel
theorem d_Mo_seconds_36 : decode b_Mo_seconds 36 = .ok (.ifCond .eq 36, 3) := by decide +kernel
theorem d_Mo_seconds_39 : decode b_Mo_seconds 39 = .ok (.iload 4, 2) := by decide +kernel
theorem d_Mo_seconds_41 : decode b_Mo_seconds 41 = .ok (.iconst 1, 1) := by decide +kernel
theorem d_Mo_seconds_42 : decode b_Mo_seconds 42 = .ok (.if_icmp .lt 30, 3) := by decide +kernel
theorem d_Mo_seconds_45 : decode b_Mo_seconds 45 = .ok (.iload 4, 2) := by decide +kernel
theorem d_Mo_seconds_47 : decode b_Mo_seconds 47 = .ok (.lload_n 1, 1) := by decide +kernel
theorem d_Mo_seconds_48 : decode b_Mo_seconds 48 = .ok (.iload_n 3, 1) := by decide +kernel
theorem d_Mo_seconds_49 : decode b_Mo_seconds 49 = .ok (.invokestatic 357, 3) := by decide +kernel
theorem d_Mo_seconds_52 : decode b_Mo_seconds 52 = .ok (.if_icmp .gt 20, 3) := by decide +kernel
theorem d_Mo_seconds_55 : decode b_Mo_seconds 55 = .ok (.iload 5, 2) := by decide +kernel
theorem d_Mo_seconds_57 : decode b_Mo_seconds 57 = .ok (.ifCond .lt 15, 3) := by decide +kernel
theorem d_Mo_seconds_60 : decode b_Mo_seconds 60 = .ok (.iload 5, 2) := by decide +kernel
theorem d_Mo_seconds_62 : decode b_Mo_seconds 62 = .ok (.ldc_w 361, 3) := by decide +kernel
theorem d_Mo_seconds_65 : decode b_Mo_seconds 65 = .ok (.if_icmp .ge 7, 3) := by decide +kernel
theorem d_Mo_seconds_68 : decode b_Mo_seconds 68 = .ok (.iconst 1, 1) := by decide +kernel
theorem d_Mo_seconds_69 : decode b_Mo_seconds 69 = .ok (.goto 4, 3) := by decide +kernel
theorem d_Mo_seconds_72 : decode b_Mo_seconds 72 = .ok (.iconst 0, 1) := by decide +kernel
theorem d_Mo_seconds_73 : decode b_Mo_seconds 73 = .ok (.istore 6, 2) := by decide +kernel
theorem d_Mo_seconds_75 : decode b_Mo_seconds 75 = .ok (.aload_n 0, 1) := by decide +kernel
theorem d_Mo_seconds_76 : decode b_Mo_seconds 76 = .ok (.iload 6, 2) := by decide +kernel
theorem d_Mo_seconds_78 : decode b_Mo_seconds 78 = .ok (.ifCond .eq 7, 3) := by decide +kernel
theorem d_Mo_seconds_81 : decode b_Mo_seconds 81 = .ok (.iconst 0, 1) := by decide +kernel
theorem d_Mo_seconds_82 : decode b_Mo_seconds 82 = .ok (.goto 4, 3) := by decide +kernel
theorem d_Mo_seconds_85 : decode b_Mo_seconds 85 = .ok (.iconst 1, 1) := by decide +kernel
theorem d_Mo_seconds_86 : decode b_Mo_seconds 86 = .ok (.putfield 150, 3) := by decide +kernel
theorem d_Mo_seconds_89 : decode b_Mo_seconds 89 = .ok (.iload 6, 2) := by decide +kernel
theorem d_Mo_seconds_91 : decode b_Mo_seconds 91 = .ok (.ifCond .eq 21, 3) := by decide +kernel
theorem d_Mo_seconds_94 : decode b_Mo_seconds 94 = .ok (.lload_n 1, 1) := by decide +kernel
theorem d_Mo_seconds_95 : decode b_Mo_seconds 95 = .ok (.iload_n 3, 1) := by decide +kernel
theorem d_Mo_seconds_96 : decode b_Mo_seconds 96 = .ok (.iload 4, 2) := by decide +kernel
theorem d_Mo_seconds_98 : decode b_Mo_seconds 98 = .ok (.invokestatic 349, 3) := by decide +kernel
theorem d_Mo_seconds_101 : decode b_Mo_seconds 101 = .ok (.ldc2_w 335, 3) := by decide +kernel
theorem d_Mo_seconds_104 : decode b_Mo_seconds 104 = .ok (.lmul, 1) := by decide +kernel
theorem d_Mo_seconds_105 : decode b_Mo_seconds 105 = .ok (.iload 5, 2) := by decide +kernel
theorem d_Mo_seconds_107 : decode b_Mo_seconds 107 = .ok (.i2l, 1) := by decide +kernel
theorem d_Mo_seconds_108 : decode b_Mo_seconds 108 = .ok (.ladd, 1) := by decide +kernel
theorem d_Mo_seconds_109 : decode b_Mo_seconds 109 = .ok (.goto 4, 3) := by decide +kernel
theorem d_Mo_seconds_112 : decode b_Mo_seconds 112 = .ok (.lconst 0, 1) := by decide +kernel
theorem d_Mo_seconds_113 : decode b_Mo_seconds 113 = .ok (.lreturn, 1) := by decide +kernel
abbrev b_Mo_state : ByteArray := prog_14_method_51_code
def y_Mo_state : MethodName := ⟨"ZoneFilesModel", "state", "(IJ)V"⟩
theorem d_Mo_state_0 : decode b_Mo_state 0 = .ok (.aload_n 0, 1) := by decide +kernel
theorem d_Mo_state_1 : decode b_Mo_state 1 = .ok (.getfield 20, 3) := by decide +kernel
theorem d_Mo_state_4 : decode b_Mo_state 4 = .ok (.iload_n 1, 1) := by decide +kernel
theorem d_Mo_state_5 : decode b_Mo_state 5 = .ok (.iaload, 1) := by decide +kernel
theorem d_Mo_state_6 : decode b_Mo_state 6 = .ok (.istore 4, 2) := by decide +kernel
theorem d_Mo_state_8 : decode b_Mo_state 8 = .ok (.iload 4, 2) := by decide +kernel
theorem d_Mo_state_10 : decode b_Mo_state 10 = .ok (.ifCond .ne 30, 3) := by decide +kernel
theorem d_Mo_state_13 : decode b_Mo_state 13 = .ok (.aload_n 0, 1) := by decide +kernel
theorem d_Mo_state_14 : decode b_Mo_state 14 = .ok (.getfield 75, 3) := by decide +kernel
theorem d_Mo_state_17 : decode b_Mo_state 17 = .ok (.iload_n 1, 1) := by decide +kernel
theorem d_Mo_state_18 : decode b_Mo_state 18 = .ok (.iaload, 1) := by decide +kernel
theorem d_Mo_state_19 : decode b_Mo_state 19 = .ok (.ifCond .le 12, 3) := by decide +kernel
theorem d_Mo_state_22 : decode b_Mo_state 22 = .ok (.aload_n 0, 1) := by decide +kernel
theorem d_Mo_state_23 : decode b_Mo_state 23 = .ok (.iload_n 1, 1) := by decide +kernel
theorem d_Mo_state_24 : decode b_Mo_state 24 = .ok (.lload_n 2, 1) := by decide +kernel
theorem d_Mo_state_25 : decode b_Mo_state 25 = .ok (.invokevirtual 398, 3) := by decide +kernel
theorem d_Mo_state_28 : decode b_Mo_state 28 = .ok (.goto 112, 3) := by decide +kernel
theorem d_Mo_state_31 : decode b_Mo_state 31 = .ok (.aload_n 0, 1) := by decide +kernel
theorem d_Mo_state_32 : decode b_Mo_state 32 = .ok (.iload_n 1, 1) := by decide +kernel
theorem d_Mo_state_33 : decode b_Mo_state 33 = .ok (.iconst 0, 1) := by decide +kernel
theorem d_Mo_state_34 : decode b_Mo_state 34 = .ok (.invokevirtual 402, 3) := by decide +kernel
theorem d_Mo_state_37 : decode b_Mo_state 37 = .ok (.goto 103, 3) := by decide +kernel
theorem d_Mo_state_40 : decode b_Mo_state 40 = .ok (.lload_n 2, 1) := by decide +kernel
theorem d_Mo_state_41 : decode b_Mo_state 41 = .ok (.aload_n 0, 1) := by decide +kernel
theorem d_Mo_state_42 : decode b_Mo_state 42 = .ok (.getfield 41, 3) := by decide +kernel
theorem d_Mo_state_45 : decode b_Mo_state 45 = .ok (.sipush 200, 3) := by decide +kernel
theorem d_Mo_state_48 : decode b_Mo_state 48 = .ok (.iload_n 1, 1) := by decide +kernel
theorem d_Mo_state_49 : decode b_Mo_state 49 = .ok (.imul, 1) := by decide +kernel
theorem d_Mo_state_50 : decode b_Mo_state 50 = .ok (.laload, 1) := by decide +kernel
theorem d_Mo_state_51 : decode b_Mo_state 51 = .ok (.lcmp, 1) := by decide +kernel
theorem d_Mo_state_52 : decode b_Mo_state 52 = .ok (.ifCond .ge 12, 3) := by decide +kernel
theorem d_Mo_state_55 : decode b_Mo_state 55 = .ok (.aload_n 0, 1) := by decide +kernel
theorem d_Mo_state_56 : decode b_Mo_state 56 = .ok (.iload_n 1, 1) := by decide +kernel
theorem d_Mo_state_57 : decode b_Mo_state 57 = .ok (.iconst 0, 1) := by decide +kernel
theorem d_Mo_state_58 : decode b_Mo_state 58 = .ok (.invokevirtual 402, 3) := by decide +kernel
theorem d_Mo_state_61 : decode b_Mo_state 61 = .ok (.goto 79, 3) := by decide +kernel
theorem d_Mo_state_64 : decode b_Mo_state 64 = .ok (.lload_n 2, 1) := by decide +kernel
theorem d_Mo_state_65 : decode b_Mo_state 65 = .ok (.aload_n 0, 1) := by decide +kernel
theorem d_Mo_state_66 : decode b_Mo_state 66 = .ok (.getfield 41, 3) := by decide +kernel
theorem d_Mo_state_69 : decode b_Mo_state 69 = .ok (.sipush 200, 3) := by decide +kernel
theorem d_Mo_state_72 : decode b_Mo_state 72 = .ok (.iload_n 1, 1) := by decide +kernel
theorem d_Mo_state_73 : decode b_Mo_state 73 = .ok (.imul, 1) := by decide +kernel
theorem d_Mo_state_74 : decode b_Mo_state 74 = .ok (.iload 4, 2) := by decide +kernel
theorem d_Mo_state_76 : decode b_Mo_state 76 = .ok (.iadd, 1) := by decide +kernel
theorem d_Mo_state_77 : decode b_Mo_state 77 = .ok (.iconst 1, 1) := by decide +kernel
theorem d_Mo_state_78 : decode b_Mo_state 78 = .ok (.isub, 1) := by decide +kernel
theorem d_Mo_state_79 : decode b_Mo_state 79 = .ok (.laload, 1) := by decide +kernel
theorem d_Mo_state_80 : decode b_Mo_state 80 = .ok (.lcmp, 1) := by decide +kernel
theorem d_Mo_state_81 : decode b_Mo_state 81 = .ok (.ifCond .lt 12, 3) := by decide +kernel
theorem d_Mo_state_84 : decode b_Mo_state 84 = .ok (.aload_n 0, 1) := by decide +kernel
theorem d_Mo_state_85 : decode b_Mo_state 85 = .ok (.iload_n 1, 1) := by decide +kernel
theorem d_Mo_state_86 : decode b_Mo_state 86 = .ok (.lload_n 2, 1) := by decide +kernel
theorem d_Mo_state_87 : decode b_Mo_state 87 = .ok (.invokevirtual 398, 3) := by decide +kernel
theorem d_Mo_state_90 : decode b_Mo_state 90 = .ok (.goto 50, 3) := by decide +kernel
theorem d_Mo_state_93 : decode b_Mo_state 93 = .ok (.iconst 0, 1) := by decide +kernel
theorem d_Mo_state_94 : decode b_Mo_state 94 = .ok (.istore 5, 2) := by decide +kernel
theorem d_Mo_state_96 : decode b_Mo_state 96 = .ok (.aload_n 0, 1) := by decide +kernel
theorem d_Mo_state_97 : decode b_Mo_state 97 = .ok (.getfield 41, 3) := by decide +kernel
theorem d_Mo_state_100 : decode b_Mo_state 100 = .ok (.sipush 200, 3) := by decide +kernel
theorem d_Mo_state_103 : decode b_Mo_state 103 = .ok (.iload_n 1, 1) := by decide +kernel
theorem d_Mo_state_104 : decode b_Mo_state 104 = .ok (.imul, 1) := by decide +kernel
theorem d_Mo_state_105 : decode b_Mo_state 105 = .ok (.iload 5, 2) := by decide +kernel
theorem d_Mo_state_107 : decode b_Mo_state 107 = .ok (.iadd, 1) := by decide +kernel
theorem d_Mo_state_108 : decode b_Mo_state 108 = .ok (.iconst 1, 1) := by decide +kernel
theorem d_Mo_state_109 : decode b_Mo_state 109 = .ok (.iadd, 1) := by decide +kernel
theorem d_Mo_state_110 : decode b_Mo_state 110 = .ok (.laload, 1) := by decide +kernel
theorem d_Mo_state_111 : decode b_Mo_state 111 = .ok (.lload_n 2, 1) := by decide +kernel
theorem d_Mo_state_112 : decode b_Mo_state 112 = .ok (.lcmp, 1) := by decide +kernel
theorem d_Mo_state_113 : decode b_Mo_state 113 = .ok (.ifCond .gt 9, 3) := by decide +kernel
theorem d_Mo_state_116 : decode b_Mo_state 116 = .ok (.iinc 5 1, 3) := by decide +kernel
theorem d_Mo_state_119 : decode b_Mo_state 119 = .ok (.goto (-23), 3) := by decide +kernel
theorem d_Mo_state_122 : decode b_Mo_state 122 = .ok (.aload_n 0, 1) := by decide +kernel
theorem d_Mo_state_123 : decode b_Mo_state 123 = .ok (.iload_n 1, 1) := by decide +kernel
theorem d_Mo_state_124 : decode b_Mo_state 124 = .ok (.aload_n 0, 1) := by decide +kernel
theorem d_Mo_state_125 : decode b_Mo_state 125 = .ok (.getfield 45, 3) := by decide +kernel
theorem d_Mo_state_128 : decode b_Mo_state 128 = .ok (.sipush 200, 3) := by decide +kernel
theorem d_Mo_state_131 : decode b_Mo_state 131 = .ok (.iload_n 1, 1) := by decide +kernel
theorem d_Mo_state_132 : decode b_Mo_state 132 = .ok (.imul, 1) := by decide +kernel
theorem d_Mo_state_133 : decode b_Mo_state 133 = .ok (.iload 5, 2) := by decide +kernel
theorem d_Mo_state_135 : decode b_Mo_state 135 = .ok (.iadd, 1) := by decide +kernel
theorem d_Mo_state_136 : decode b_Mo_state 136 = .ok (.iaload, 1) := by decide +kernel
theorem d_Mo_state_137 : decode b_Mo_state 137 = .ok (.invokevirtual 402, 3) := by decide +kernel
theorem d_Mo_state_140 : decode b_Mo_state 140 = .ok (.return_, 1) := by decide +kernel
abbrev b_Mo_noZone : ByteArray := prog_14_method_55_code
def y_Mo_noZone : MethodName := ⟨"ZoneFilesModel", "noZone", "(I)Z"⟩
theorem d_Mo_noZone_0 : decode b_Mo_noZone 0 = .ok (.iload_n 1, 1) := by decide +kernel
theorem d_Mo_noZone_1 : decode b_Mo_noZone 1 = .ok (.ifCond .lt 8, 3) := by decide +kernel
theorem d_Mo_noZone_4 : decode b_Mo_noZone 4 = .ok (.iload_n 1, 1) := by decide +kernel
theorem d_Mo_noZone_5 : decode b_Mo_noZone 5 = .ok (.iconst 4, 1) := by decide +kernel
theorem d_Mo_noZone_6 : decode b_Mo_noZone 6 = .ok (.if_icmp .lt 7, 3) := by decide +kernel
theorem d_Mo_noZone_9 : decode b_Mo_noZone 9 = .ok (.iconst 1, 1) := by decide +kernel
theorem d_Mo_noZone_10 : decode b_Mo_noZone 10 = .ok (.goto 4, 3) := by decide +kernel
theorem d_Mo_noZone_13 : decode b_Mo_noZone 13 = .ok (.iconst 0, 1) := by decide +kernel
theorem d_Mo_noZone_14 : decode b_Mo_noZone 14 = .ok (.ireturn, 1) := by decide +kernel
abbrev b_Mo_at : ByteArray := prog_14_method_56_code
def y_Mo_at : MethodName := ⟨"ZoneFilesModel", "at", "(IJI)I"⟩
theorem d_Mo_at_0 : decode b_Mo_at 0 = .ok (.aload_n 0, 1) := by decide +kernel
theorem d_Mo_at_1 : decode b_Mo_at 1 = .ok (.aload_n 0, 1) := by decide +kernel
theorem d_Mo_at_2 : decode b_Mo_at 2 = .ok (.iload_n 1, 1) := by decide +kernel
theorem d_Mo_at_3 : decode b_Mo_at 3 = .ok (.invokevirtual 423, 3) := by decide +kernel
theorem d_Mo_at_6 : decode b_Mo_at 6 = .ok (.ifCond .ne 14, 3) := by decide +kernel
theorem d_Mo_at_9 : decode b_Mo_at 9 = .ok (.iload 4, 2) := by decide +kernel
theorem d_Mo_at_11 : decode b_Mo_at 11 = .ok (.ifCond .lt 9, 3) := by decide +kernel
theorem d_Mo_at_14 : decode b_Mo_at 14 = .ok (.iload 4, 2) := by decide +kernel
theorem d_Mo_at_16 : decode b_Mo_at 16 = .ok (.iconst 3, 1) := by decide +kernel
theorem d_Mo_at_17 : decode b_Mo_at 17 = .ok (.if_icmp .le 7, 3) := by decide +kernel
theorem d_Mo_at_20 : decode b_Mo_at 20 = .ok (.iconst 1, 1) := by decide +kernel
theorem d_Mo_at_21 : decode b_Mo_at 21 = .ok (.goto 15, 3) := by decide +kernel
theorem d_Mo_at_24 : decode b_Mo_at 24 = .ok (.lload_n 2, 1) := by decide +kernel
theorem d_Mo_at_25 : decode b_Mo_at 25 = .ok (.invokestatic 251, 3) := by decide +kernel
theorem d_Mo_at_28 : decode b_Mo_at 28 = .ok (.ifCond .ne 7, 3) := by decide +kernel
theorem d_Mo_at_31 : decode b_Mo_at 31 = .ok (.iconst 2, 1) := by decide +kernel
theorem d_Mo_at_32 : decode b_Mo_at 32 = .ok (.goto 4, 3) := by decide +kernel
theorem d_Mo_at_35 : decode b_Mo_at 35 = .ok (.iconst 0, 1) := by decide +kernel
theorem d_Mo_at_36 : decode b_Mo_at 36 = .ok (.putfield 150, 3) := by decide +kernel
theorem d_Mo_at_39 : decode b_Mo_at 39 = .ok (.aload_n 0, 1) := by decide +kernel
theorem d_Mo_at_40 : decode b_Mo_at 40 = .ok (.getfield 150, 3) := by decide +kernel
theorem d_Mo_at_43 : decode b_Mo_at 43 = .ok (.ifCond .le 5, 3) := by decide +kernel
theorem d_Mo_at_46 : decode b_Mo_at 46 = .ok (.iconst 0, 1) := by decide +kernel
theorem d_Mo_at_47 : decode b_Mo_at 47 = .ok (.ireturn, 1) := by decide +kernel
theorem d_Mo_at_48 : decode b_Mo_at 48 = .ok (.aload_n 0, 1) := by decide +kernel
theorem d_Mo_at_49 : decode b_Mo_at 49 = .ok (.iload_n 1, 1) := by decide +kernel
theorem d_Mo_at_50 : decode b_Mo_at 50 = .ok (.lload_n 2, 1) := by decide +kernel
theorem d_Mo_at_51 : decode b_Mo_at 51 = .ok (.invokevirtual 426, 3) := by decide +kernel
theorem d_Mo_at_54 : decode b_Mo_at 54 = .ok (.aload_n 0, 1) := by decide +kernel
theorem d_Mo_at_55 : decode b_Mo_at 55 = .ok (.getfield 376, 3) := by decide +kernel
theorem d_Mo_at_58 : decode b_Mo_at 58 = .ok (.iconst 2, 1) := by decide +kernel
theorem d_Mo_at_59 : decode b_Mo_at 59 = .ok (.if_icmp .ne 9, 3) := by decide +kernel
theorem d_Mo_at_62 : decode b_Mo_at 62 = .ok (.ldc_w 429, 3) := by decide +kernel
theorem d_Mo_at_65 : decode b_Mo_at 65 = .ok (.goto 45, 3) := by decide +kernel
theorem d_Mo_at_68 : decode b_Mo_at 68 = .ok (.iload 4, 2) := by decide +kernel
theorem d_Mo_at_70 : decode b_Mo_at 70 = .ok (.ifCond .ne 10, 3) := by decide +kernel
theorem d_Mo_at_73 : decode b_Mo_at 73 = .ok (.aload_n 0, 1) := by decide +kernel
theorem d_Mo_at_74 : decode b_Mo_at 74 = .ok (.getfield 379, 3) := by decide +kernel
theorem d_Mo_at_77 : decode b_Mo_at 77 = .ok (.goto 33, 3) := by decide +kernel
theorem d_Mo_at_80 : decode b_Mo_at 80 = .ok (.iload 4, 2) := by decide +kernel
theorem d_Mo_at_82 : decode b_Mo_at 82 = .ok (.iconst 1, 1) := by decide +kernel
theorem d_Mo_at_83 : decode b_Mo_at 83 = .ok (.if_icmp .ne 10, 3) := by decide +kernel
theorem d_Mo_at_86 : decode b_Mo_at 86 = .ok (.aload_n 0, 1) := by decide +kernel
theorem d_Mo_at_87 : decode b_Mo_at 87 = .ok (.getfield 382, 3) := by decide +kernel
theorem d_Mo_at_90 : decode b_Mo_at 90 = .ok (.goto 20, 3) := by decide +kernel
theorem d_Mo_at_93 : decode b_Mo_at 93 = .ok (.iload 4, 2) := by decide +kernel
theorem d_Mo_at_95 : decode b_Mo_at 95 = .ok (.iconst 2, 1) := by decide +kernel
theorem d_Mo_at_96 : decode b_Mo_at 96 = .ok (.if_icmp .ne 10, 3) := by decide +kernel
theorem d_Mo_at_99 : decode b_Mo_at 99 = .ok (.aload_n 0, 1) := by decide +kernel
theorem d_Mo_at_100 : decode b_Mo_at 100 = .ok (.getfield 385, 3) := by decide +kernel
theorem d_Mo_at_103 : decode b_Mo_at 103 = .ok (.goto 7, 3) := by decide +kernel
theorem d_Mo_at_106 : decode b_Mo_at 106 = .ok (.aload_n 0, 1) := by decide +kernel
theorem d_Mo_at_107 : decode b_Mo_at 107 = .ok (.getfield 388, 3) := by decide +kernel
theorem d_Mo_at_110 : decode b_Mo_at 110 = .ok (.ireturn, 1) := by decide +kernel
abbrev b_Mo_name : ByteArray := prog_14_method_57_code
def y_Mo_name : MethodName := ⟨"ZoneFilesModel", "name", "(IJI)I"⟩
theorem d_Mo_name_0 : decode b_Mo_name 0 = .ok (.aload_n 0, 1) := by decide +kernel
theorem d_Mo_name_1 : decode b_Mo_name 1 = .ok (.aload_n 0, 1) := by decide +kernel
theorem d_Mo_name_2 : decode b_Mo_name 2 = .ok (.iload_n 1, 1) := by decide +kernel
theorem d_Mo_name_3 : decode b_Mo_name 3 = .ok (.invokevirtual 423, 3) := by decide +kernel
theorem d_Mo_name_6 : decode b_Mo_name 6 = .ok (.ifCond .eq 7, 3) := by decide +kernel
theorem d_Mo_name_9 : decode b_Mo_name 9 = .ok (.iconst 1, 1) := by decide +kernel
theorem d_Mo_name_10 : decode b_Mo_name 10 = .ok (.goto 15, 3) := by decide +kernel
theorem d_Mo_name_13 : decode b_Mo_name 13 = .ok (.lload_n 2, 1) := by decide +kernel
theorem d_Mo_name_14 : decode b_Mo_name 14 = .ok (.invokestatic 251, 3) := by decide +kernel
theorem d_Mo_name_17 : decode b_Mo_name 17 = .ok (.ifCond .ne 7, 3) := by decide +kernel
theorem d_Mo_name_20 : decode b_Mo_name 20 = .ok (.iconst 2, 1) := by decide +kernel
theorem d_Mo_name_21 : decode b_Mo_name 21 = .ok (.goto 4, 3) := by decide +kernel
theorem d_Mo_name_24 : decode b_Mo_name 24 = .ok (.iconst 0, 1) := by decide +kernel
theorem d_Mo_name_25 : decode b_Mo_name 25 = .ok (.putfield 150, 3) := by decide +kernel
theorem d_Mo_name_28 : decode b_Mo_name 28 = .ok (.aload_n 0, 1) := by decide +kernel
theorem d_Mo_name_29 : decode b_Mo_name 29 = .ok (.getfield 150, 3) := by decide +kernel
theorem d_Mo_name_32 : decode b_Mo_name 32 = .ok (.ifCond .le 5, 3) := by decide +kernel
theorem d_Mo_name_35 : decode b_Mo_name 35 = .ok (.iconst 0, 1) := by decide +kernel
theorem d_Mo_name_36 : decode b_Mo_name 36 = .ok (.ireturn, 1) := by decide +kernel
theorem d_Mo_name_37 : decode b_Mo_name 37 = .ok (.aload_n 0, 1) := by decide +kernel
theorem d_Mo_name_38 : decode b_Mo_name 38 = .ok (.iload_n 1, 1) := by decide +kernel
theorem d_Mo_name_39 : decode b_Mo_name 39 = .ok (.lload_n 2, 1) := by decide +kernel
theorem d_Mo_name_40 : decode b_Mo_name 40 = .ok (.invokevirtual 426, 3) := by decide +kernel
theorem d_Mo_name_43 : decode b_Mo_name 43 = .ok (.aload_n 0, 1) := by decide +kernel
theorem d_Mo_name_44 : decode b_Mo_name 44 = .ok (.iload 4, 2) := by decide +kernel
theorem d_Mo_name_46 : decode b_Mo_name 46 = .ok (.ifCond .lt 12, 3) := by decide +kernel
theorem d_Mo_name_49 : decode b_Mo_name 49 = .ok (.iload 4, 2) := by decide +kernel
theorem d_Mo_name_51 : decode b_Mo_name 51 = .ok (.aload_n 0, 1) := by decide +kernel
theorem d_Mo_name_52 : decode b_Mo_name 52 = .ok (.getfield 385, 3) := by decide +kernel
theorem d_Mo_name_55 : decode b_Mo_name 55 = .ok (.if_icmp .lt 7, 3) := by decide +kernel
theorem d_Mo_name_58 : decode b_Mo_name 58 = .ok (.iconst 3, 1) := by decide +kernel
theorem d_Mo_name_59 : decode b_Mo_name 59 = .ok (.goto 4, 3) := by decide +kernel
theorem d_Mo_name_62 : decode b_Mo_name 62 = .ok (.iconst 0, 1) := by decide +kernel
theorem d_Mo_name_63 : decode b_Mo_name 63 = .ok (.putfield 150, 3) := by decide +kernel
theorem d_Mo_name_66 : decode b_Mo_name 66 = .ok (.aload_n 0, 1) := by decide +kernel
theorem d_Mo_name_67 : decode b_Mo_name 67 = .ok (.getfield 150, 3) := by decide +kernel
theorem d_Mo_name_70 : decode b_Mo_name 70 = .ok (.ifCond .le 7, 3) := by decide +kernel
theorem d_Mo_name_73 : decode b_Mo_name 73 = .ok (.iconst 0, 1) := by decide +kernel
theorem d_Mo_name_74 : decode b_Mo_name 74 = .ok (.goto 10, 3) := by decide +kernel
theorem d_Mo_name_77 : decode b_Mo_name 77 = .ok (.aload_n 0, 1) := by decide +kernel
theorem d_Mo_name_78 : decode b_Mo_name 78 = .ok (.getfield 105, 3) := by decide +kernel
theorem d_Mo_name_81 : decode b_Mo_name 81 = .ok (.iload 4, 2) := by decide +kernel
theorem d_Mo_name_83 : decode b_Mo_name 83 = .ok (.iaload, 1) := by decide +kernel
theorem d_Mo_name_84 : decode b_Mo_name 84 = .ok (.ireturn, 1) := by decide +kernel
-- ZoneFilesModel.isSummer(IJ)Z
def f_Mo_isSummer_111 (nf : Nat) (K35 : Int64 → Int32 → Int64 → Int64 → Int32 → Int64 → (Nat → Int32) → (Nat → Int64) → (Nat → Nat → Int32) → (Nat → Nat → Int64) → Option (Int32 × (Nat → Int32) × (Nat → Int64) × (Nat → Nat → Int32) × (Nat → Nat → Int64))) (x9 : Int64) (x8 : Int32) (x6 : Int64) (x4 : Int64) (x1 : Int32) (x2 : Int64) (si : Nat → Int32) (sj : Nat → Int64) (sa : Nat → Nat → Int32) (sb : Nat → Nat → Int64) : Option (Int32 × (Nat → Int32) × (Nat → Int64) × (Nat → Nat → Int32) × (Nat → Nat → Int64)) :=
  K35 (x9 + 1) x8 x6 x4 x1 x2 si sj sa sb
def f_Mo_isSummer_89 (nf : Nat) (K35 : Int64 → Int32 → Int64 → Int64 → Int32 → Int64 → (Nat → Int32) → (Nat → Int64) → (Nat → Nat → Int32) → (Nat → Nat → Int64) → Option (Int32 × (Nat → Int32) × (Nat → Int64) × (Nat → Nat → Int32) × (Nat → Nat → Int64))) (x11 : Int64) (x9 : Int64) (x8 : Int32) (x6 : Int64) (x4 : Int64) (x1 : Int32) (x2 : Int64) (si : Nat → Int32) (sj : Nat → Int64) (sa : Nat → Nat → Int32) (sb : Nat → Nat → Int64) : Option (Int32 × (Nat → Int32) × (Nat → Int64) × (Nat → Nat → Int32) × (Nat → Nat → Int64)) :=
  if x2 < x11 then
  f_Mo_isSummer_111 nf K35 x9 x8 x6 x4 x1 x2 si sj sa sb
  else
  if x11 < x6 then
    f_Mo_isSummer_111 nf K35 x9 x8 x6 x4 x1 x2 si sj sa sb
    else
    f_Mo_isSummer_111 nf K35 x9 1 x11 x4 x1 x2 si sj sa sb
def f_Mo_isSummer_35 (nf : Nat) : Nat → Int64 → Int32 → Int64 → Int64 → Int32 → Int64 → (Nat → Int32) → (Nat → Int64) → (Nat → Nat → Int32) → (Nat → Nat → Int64) → Option (Int32 × (Nat → Int32) × (Nat → Int64) × (Nat → Nat → Int32) × (Nat → Nat → Int64))
  | 0, _, _, _, _, _, _, _, _, _, _ => none
  | n + 1, x9, x8, x6, x4, x1, x2, si, sj, sa, sb =>
    if (x4 + 2) < x9 then
    if x8 = 0 ∨ x8 = 1 then some (x8, si, sj, sa, sb) else none
    else
    (f_Mo_event nf x1 x9 0 si sj sa sb).bind fun r_10 =>
      (f_Mo_event nf x1 x9 1 si sj sa sb).bind fun r_11 =>
      if x2 < r_11 then
      f_Mo_isSummer_89 nf (f_Mo_isSummer_35 nf n) r_10 x9 x8 x6 x4 x1 x2 si sj sa sb
      else
      if r_11 ≤ x6 then
        f_Mo_isSummer_89 nf (f_Mo_isSummer_35 nf n) r_10 x9 x8 x6 x4 x1 x2 si sj sa sb
        else
        f_Mo_isSummer_89 nf (f_Mo_isSummer_35 nf n) r_10 x9 0 r_11 x4 x1 x2 si sj sa sb
def f_Mo_isSummer_0 (nf : Nat) (x1 : Int32) (x2 : Int64) (si : Nat → Int32) (sj : Nat → Int64) (sa : Nat → Nat → Int32) (sb : Nat → Nat → Int64) : Option (Int32 × (Nat → Int32) × (Nat → Int64) × (Nat → Nat → Int32) × (Nat → Nat → Int64)) :=
  if x1 < 0 ∨ 5 ≤ x1.toNatClampNeg then none else
  if (2 : Int32) ≤ (sa 23 x1.toNatClampNeg) then
  (f_Mo_about nf x2 si sj sa sb).bind fun (z_7, i_3, j_4, a_5, b_6) =>
    f_Mo_isSummer_35 nf nf (z_7 - 2) 0 (-9223372036854775808) z_7 x1 x2 i_3 j_4 a_5 b_6
  else
  some (0, si, sj, sa, sb)
def f_Mo_isSummer (nf : Nat) (p0 : Int32) (p1 : Int64) (si : Nat → Int32) (sj : Nat → Int64) (sa : Nat → Nat → Int32) (sb : Nat → Nat → Int64) : Option (Int32 × (Nat → Int32) × (Nat → Int64) × (Nat → Nat → Int32) × (Nat → Nat → Int64)) :=
  f_Mo_isSummer_0 nf p0 p1 si sj sa sb
section
variable {p : Program} {l : Launch} {e : Env} {R : Room} {s : State} {m : MethodId} {args : Array Value} {below : List Frame} {meth : Method} {c : Code} {Q : State → Prop} {dC : Nat → ClassId} {dI : Nat → Nat → Nat} {nf : Nat} {A : Nat → Prop} {h0 : Nat} {r : Nat → Nat} {cA : Nat → ClassId}
variable {r0 : Int32} {vi : Nat → Int32} {vj : Nat → Int64} {va : Nat → Nat → Int32} {vb : Nat → Nat → Int64}
set_option maxHeartbeats 400000 in
set_option maxRecDepth 100000 in
theorem k_Mo_isSummer_111 (C0 : Cx p s m meth c args R b_Mo_isSummer "ZoneFilesModel" 15 (some .boolean) 5 121) (hST : ST A s s.heap) (hA : ∀ q, s.heap.size ≤ q → A q) (hK : va_K (dC, dI) classes (moT cA) s) (hE : ∀ (pc : Nat) (ls : Array Slot) (H : Heap) (locs : List Loc), decode b_Mo_isSummer pc = .ok (.ireturn, 1) → narrow .boolean (.int r0) = .int r0 → va_P (dC, dI) classes (moW h0 r cA vi vj va vb) H → va_D A (moW h0 r cA vi vj va vb) → va_S A s.heap H locs → W p l e R s m args below meth c H locs 0 0 Q (F0 m pc ls [.int r0])) {K35 : Int64 → Int32 → Int64 → Int64 → Int32 → Int64 → (Nat → Int32) → (Nat → Int64) → (Nat → Nat → Int32) → (Nat → Nat → Int64) → Option (Int32 × (Nat → Int32) × (Nat → Int64) × (Nat → Nat → Int32) × (Nat → Nat → Int64))} (hK35 : ∀ {x9 : Int64} {x8 : Int32} {x6 : Int64} {x4 : Int64} {x1 : Int32} {x2 : Int64} {si : Nat → Int32} {sj : Nat → Int64} {sa : Nat → Nat → Int32} {sb : Nat → Nat → Int64}, K35 x9 x8 x6 x4 x1 x2 si sj sa sb = some (r0, vi, vj, va, vb) → ∀ {H : Heap} {locs : List Loc} {ls : Array Slot}, va_P (dC, dI) classes (moW h0 r cA si sj sa sb) H → va_D A (moW h0 r cA si sj sa sb) → va_S A s.heap H locs → lv_has ls 15 [(9, .long x9), (8, .int x8), (6, .long x6), (4, .long x4), (0, .ref h0), (1, .int x1), (2, .long x2)] → W p l e R s m args below meth c H locs 0 0 Q (F0 m 35 ls [])) {x9 : Int64} {x8 : Int32} {x6 : Int64} {x4 : Int64} {x1 : Int32} {x2 : Int64} {si : Nat → Int32} {sj : Nat → Int64} {sa : Nat → Nat → Int32} {sb : Nat → Nat → Int64} (hf : f_Mo_isSummer_111 nf K35 x9 x8 x6 x4 x1 x2 si sj sa sb = some (r0, vi, vj, va, vb)) {H : Heap} {locs : List Loc} {ls : Array Slot} (hP : va_P (dC, dI) classes (moW h0 r cA si sj sa sb) H) (hD : va_D A (moW h0 r cA si sj sa sb)) (hS : va_S A s.heap H locs) (hl : lv_has ls 15 [(9, .long x9), (8, .int x8), (6, .long x6), (4, .long x4), (0, .ref h0), (1, .int x1), (2, .long x2)]) : W p l e R s m args below meth c H locs 0 0 Q (F0 m 111 ls []) := by
  obtain ⟨hx, hb, hr, hml, hown, hts, hlocks, hRf, hRl⟩ := id C0
  unfold f_Mo_isSummer_111 at hf
  refine lv_lload hx hb d_Mo_isSummer_111 (lv_at hl 0 rfl) ?_
  refine lv_lconst (v := 1) hx hb d_Mo_isSummer_113 (by decide) ?_
  refine lv_ladd hx hb d_Mo_isSummer_114 ?_
  refine lv_lstore (lv' := [(9, .long (x9 + 1)), (8, .int x8), (6, .long x6), (4, .long x4), (0, .ref h0), (1, .int x1), (2, .long x2)]) hx hb d_Mo_isSummer_115 hl (by decide) rfl (fun ls hl => ?_)
  refine lv_goto (tgt := 35) hx hb d_Mo_isSummer_117 (by decide) ?_
  exact hK35 hf hP hD hS (lv_sub hl [0, 1, 2, 3, 4, 5, 6] rfl)
set_option maxHeartbeats 400000 in
set_option maxRecDepth 100000 in
theorem k_Mo_isSummer_89 (C0 : Cx p s m meth c args R b_Mo_isSummer "ZoneFilesModel" 15 (some .boolean) 5 121) (hST : ST A s s.heap) (hA : ∀ q, s.heap.size ≤ q → A q) (hK : va_K (dC, dI) classes (moT cA) s) (hE : ∀ (pc : Nat) (ls : Array Slot) (H : Heap) (locs : List Loc), decode b_Mo_isSummer pc = .ok (.ireturn, 1) → narrow .boolean (.int r0) = .int r0 → va_P (dC, dI) classes (moW h0 r cA vi vj va vb) H → va_D A (moW h0 r cA vi vj va vb) → va_S A s.heap H locs → W p l e R s m args below meth c H locs 0 0 Q (F0 m pc ls [.int r0])) {K35 : Int64 → Int32 → Int64 → Int64 → Int32 → Int64 → (Nat → Int32) → (Nat → Int64) → (Nat → Nat → Int32) → (Nat → Nat → Int64) → Option (Int32 × (Nat → Int32) × (Nat → Int64) × (Nat → Nat → Int32) × (Nat → Nat → Int64))} (hK35 : ∀ {x9 : Int64} {x8 : Int32} {x6 : Int64} {x4 : Int64} {x1 : Int32} {x2 : Int64} {si : Nat → Int32} {sj : Nat → Int64} {sa : Nat → Nat → Int32} {sb : Nat → Nat → Int64}, K35 x9 x8 x6 x4 x1 x2 si sj sa sb = some (r0, vi, vj, va, vb) → ∀ {H : Heap} {locs : List Loc} {ls : Array Slot}, va_P (dC, dI) classes (moW h0 r cA si sj sa sb) H → va_D A (moW h0 r cA si sj sa sb) → va_S A s.heap H locs → lv_has ls 15 [(9, .long x9), (8, .int x8), (6, .long x6), (4, .long x4), (0, .ref h0), (1, .int x1), (2, .long x2)] → W p l e R s m args below meth c H locs 0 0 Q (F0 m 35 ls [])) {x11 : Int64} {x9 : Int64} {x8 : Int32} {x6 : Int64} {x4 : Int64} {x1 : Int32} {x2 : Int64} {si : Nat → Int32} {sj : Nat → Int64} {sa : Nat → Nat → Int32} {sb : Nat → Nat → Int64} (hf : f_Mo_isSummer_89 nf K35 x11 x9 x8 x6 x4 x1 x2 si sj sa sb = some (r0, vi, vj, va, vb)) {H : Heap} {locs : List Loc} {ls : Array Slot} (hP : va_P (dC, dI) classes (moW h0 r cA si sj sa sb) H) (hD : va_D A (moW h0 r cA si sj sa sb)) (hS : va_S A s.heap H locs) (hl : lv_has ls 15 [(11, .long x11), (9, .long x9), (8, .int x8), (6, .long x6), (4, .long x4), (0, .ref h0), (1, .int x1), (2, .long x2)]) : W p l e R s m args below meth c H locs 0 0 Q (F0 m 89 ls []) := by
  obtain ⟨hx, hb, hr, hml, hown, hts, hlocks, hRf, hRl⟩ := id C0
  unfold f_Mo_isSummer_89 at hf
  refine lv_lload hx hb d_Mo_isSummer_89 (lv_at hl 0 rfl) ?_
  refine lv_lload_n hx hb d_Mo_isSummer_91 rfl (lv_at hl 7 rfl) ?_
  refine lc_gt (tgt := 111) hx hb d_Mo_isSummer_92 d_Mo_isSummer_93 (by decide) (fun c_13 => ?_) (fun c_13 => ?_)
  · have hf := it_t c_13 hf
    exact k_Mo_isSummer_111 C0 hST hA hK hE hK35 hf hP hD hS (lv_sub hl [1, 2, 3, 4, 5, 6, 7] rfl)
  · have hf := it_f c_13 hf
    refine lv_lload hx hb d_Mo_isSummer_96 (lv_at hl 0 rfl) ?_
    refine lv_lload hx hb d_Mo_isSummer_98 (lv_at hl 3 rfl) ?_
    refine lc_lt (tgt := 111) hx hb d_Mo_isSummer_100 d_Mo_isSummer_101 (by decide) (fun c_14 => ?_) (fun c_14 => ?_)
    · have hf := it_t c_14 hf
      exact k_Mo_isSummer_111 C0 hST hA hK hE hK35 hf hP hD hS (lv_sub hl [1, 2, 3, 4, 5, 6, 7] rfl)
    · have hf := it_f c_14 hf
      refine lv_lload hx hb d_Mo_isSummer_104 (lv_at hl 0 rfl) ?_
      refine lv_lstore (lv' := [(6, .long x11), (11, .long x11), (9, .long x9), (8, .int x8), (4, .long x4), (0, .ref h0), (1, .int x1), (2, .long x2)]) hx hb d_Mo_isSummer_106 hl (by decide) rfl (fun ls hl => ?_)
      refine lv_iconst (v := 1) hx hb d_Mo_isSummer_108 (by decide) ?_
      refine lv_istore (lv' := [(8, .int 1), (6, .long x11), (11, .long x11), (9, .long x9), (4, .long x4), (0, .ref h0), (1, .int x1), (2, .long x2)]) hx hb d_Mo_isSummer_109 hl (by decide) rfl (fun ls hl => ?_)
      exact k_Mo_isSummer_111 C0 hST hA hK hE hK35 hf hP hD hS (lv_sub hl [3, 0, 1, 4, 5, 6, 7] rfl)
set_option maxHeartbeats 400000 in
set_option maxRecDepth 100000 in
theorem k_Mo_isSummer_35 (C0 : Cx p s m meth c args R b_Mo_isSummer "ZoneFilesModel" 15 (some .boolean) 5 121) (hST : ST A s s.heap) (hA : ∀ q, s.heap.size ≤ q → A q) (hK : va_K (dC, dI) classes (moT cA) s) (hE : ∀ (pc : Nat) (ls : Array Slot) (H : Heap) (locs : List Loc), decode b_Mo_isSummer pc = .ok (.ireturn, 1) → narrow .boolean (.int r0) = .int r0 → va_P (dC, dI) classes (moW h0 r cA vi vj va vb) H → va_D A (moW h0 r cA vi vj va vb) → va_S A s.heap H locs → W p l e R s m args below meth c H locs 0 0 Q (F0 m pc ls [.int r0])) : ∀ (n : Nat) {x9 : Int64} {x8 : Int32} {x6 : Int64} {x4 : Int64} {x1 : Int32} {x2 : Int64} {si : Nat → Int32} {sj : Nat → Int64} {sa : Nat → Nat → Int32} {sb : Nat → Nat → Int64}, f_Mo_isSummer_35 nf n x9 x8 x6 x4 x1 x2 si sj sa sb = some (r0, vi, vj, va, vb) → ∀ {H : Heap} {locs : List Loc} {ls : Array Slot}, va_P (dC, dI) classes (moW h0 r cA si sj sa sb) H → va_D A (moW h0 r cA si sj sa sb) → va_S A s.heap H locs → lv_has ls 15 [(9, .long x9), (8, .int x8), (6, .long x6), (4, .long x4), (0, .ref h0), (1, .int x1), (2, .long x2)] → W p l e R s m args below meth c H locs 0 0 Q (F0 m 35 ls []) := by
  obtain ⟨hx, hb, hr, hml, hown, hts, hlocks, hRf, hRl⟩ := id C0
  intro n
  induction n with
  | zero =>
    intro x9 x8 x6 x4 x1 x2 si sj sa sb hf
    exact absurd hf (by simp [f_Mo_isSummer_35])
  | succ n ih =>
    intro x9 x8 x6 x4 x1 x2 si sj sa sb hf H locs ls hP hD hS hl
    unfold f_Mo_isSummer_35 at hf
    refine lv_lload hx hb d_Mo_isSummer_35 (lv_at hl 0 rfl) ?_
    refine lv_lload hx hb d_Mo_isSummer_37 (lv_at hl 3 rfl) ?_
    refine lv_ldc2 (v := 2) hx hb hown (hts (.constantLong "ZoneFilesModel" 305 2) m_7_239) d_Mo_isSummer_39 ?_
    refine lv_ladd hx hb d_Mo_isSummer_42 ?_
    refine lc_gt (tgt := 120) hx hb d_Mo_isSummer_43 d_Mo_isSummer_44 (by decide) (fun c_8 => ?_) (fun c_8 => ?_)
    · have hf := it_t c_8 hf
      refine lv_iload hx hb d_Mo_isSummer_120 (lv_at hl 1 rfl) ?_
      obtain ⟨c_9, hf⟩ := it_g hf
      cases rs hf
      exact hE _ _ _ _ d_Mo_isSummer_122 (nb_of c_9) hP hD hS
    · have hf := it_f c_8 hf
      refine lv_aload_n hx hb d_Mo_isSummer_47 rfl (lv_at hl 4 rfl) ?_
      refine lv_iload_n hx hb d_Mo_isSummer_48 rfl (lv_at hl 5 rfl) ?_
      refine lv_lload hx hb d_Mo_isSummer_49 (lv_at hl 0 rfl) ?_
      refine lv_iconst (v := 0) hx hb d_Mo_isSummer_51 (by decide) ?_
      obtain ⟨r_10, hc, hf⟩ := ob hf
      refine cl_S (v := (some (.long r_10))) (st1 := [.long r_10]) (va_runV (As := [.int x1, .long x9, .int 0]) (rest := []) ⟨hx, hb, hml, hown, hts⟩ (c_Mo_event l dC dI h0 r cA nf x1 x9 0 si sj sa sb hc) (cwV 3 hts (gdV m_8_3 m_8_5 msel_80 m_1_10 m_8_6) rfl rfl rfl (by decide +kernel) ⟨Nat.le_trans (Nat.le_of_ble_eq_true rfl) hRf, Nat.le_trans (Nat.le_of_ble_eq_true rfl) hRl⟩) ((RO.pre hP hK (hST.ro hS)).vir (va_recv hK hP (ci := 10) (q0 := 0) rfl rfl)) rfl rfl hl.1 rfl (lv_room (Nat.le_of_ble_eq_true rfl)) d_Mo_isSummer_52 ⟨Nat.zero_le _, Nat.zero_le _⟩) rfl ?_
      refine lv_lstore (lv' := [(11, .long r_10), (9, .long x9), (8, .int x8), (6, .long x6), (4, .long x4), (0, .ref h0), (1, .int x1), (2, .long x2)]) hx hb d_Mo_isSummer_55 hl (by decide) rfl (fun ls hl => ?_)
      refine lv_aload_n hx hb d_Mo_isSummer_57 rfl (lv_at hl 5 rfl) ?_
      refine lv_iload_n hx hb d_Mo_isSummer_58 rfl (lv_at hl 6 rfl) ?_
      refine lv_lload hx hb d_Mo_isSummer_59 (lv_at hl 1 rfl) ?_
      refine lv_iconst (v := 1) hx hb d_Mo_isSummer_61 (by decide) ?_
      obtain ⟨r_11, hc, hf⟩ := ob hf
      refine cl_S (v := (some (.long r_11))) (st1 := [.long r_11]) (va_runV (As := [.int x1, .long x9, .int 1]) (rest := []) ⟨hx, hb, hml, hown, hts⟩ (c_Mo_event l dC dI h0 r cA nf x1 x9 1 si sj sa sb hc) (cwV 3 hts (gdV m_8_3 m_8_5 msel_80 m_1_10 m_8_6) rfl rfl rfl (by decide +kernel) ⟨Nat.le_trans (Nat.le_of_ble_eq_true rfl) hRf, Nat.le_trans (Nat.le_of_ble_eq_true rfl) hRl⟩) ((RO.pre hP hK (hST.ro hS)).vir (va_recv hK hP (ci := 10) (q0 := 0) rfl rfl)) rfl rfl hl.1 rfl (lv_room (Nat.le_of_ble_eq_true rfl)) d_Mo_isSummer_62 ⟨Nat.zero_le _, Nat.zero_le _⟩) rfl ?_
      refine lv_lstore (lv' := [(13, .long r_11), (11, .long r_10), (9, .long x9), (8, .int x8), (6, .long x6), (4, .long x4), (0, .ref h0), (1, .int x1), (2, .long x2)]) hx hb d_Mo_isSummer_65 hl (by decide) rfl (fun ls hl => ?_)
      refine lv_lload hx hb d_Mo_isSummer_67 (lv_at hl 0 rfl) ?_
      refine lv_lload_n hx hb d_Mo_isSummer_69 rfl (lv_at hl 8 rfl) ?_
      refine lc_gt (tgt := 89) hx hb d_Mo_isSummer_70 d_Mo_isSummer_71 (by decide) (fun c_12 => ?_) (fun c_12 => ?_)
      · have hf := it_t c_12 hf
        exact k_Mo_isSummer_89 C0 hST hA hK hE (fun hf => ih hf) hf hP hD hS (lv_sub hl [1, 2, 3, 4, 5, 6, 7, 8] rfl)
      · have hf := it_f c_12 hf
        refine lv_lload hx hb d_Mo_isSummer_74 (lv_at hl 0 rfl) ?_
        refine lv_lload hx hb d_Mo_isSummer_76 (lv_at hl 4 rfl) ?_
        refine lc_le (tgt := 89) hx hb d_Mo_isSummer_78 d_Mo_isSummer_79 (by decide) (fun c_15 => ?_) (fun c_15 => ?_)
        · have hf := it_t c_15 hf
          exact k_Mo_isSummer_89 C0 hST hA hK hE (fun hf => ih hf) hf hP hD hS (lv_sub hl [1, 2, 3, 4, 5, 6, 7, 8] rfl)
        · have hf := it_f c_15 hf
          refine lv_lload hx hb d_Mo_isSummer_82 (lv_at hl 0 rfl) ?_
          refine lv_lstore (lv' := [(6, .long r_11), (13, .long r_11), (11, .long r_10), (9, .long x9), (8, .int x8), (4, .long x4), (0, .ref h0), (1, .int x1), (2, .long x2)]) hx hb d_Mo_isSummer_84 hl (by decide) rfl (fun ls hl => ?_)
          refine lv_iconst (v := 0) hx hb d_Mo_isSummer_86 (by decide) ?_
          refine lv_istore (lv' := [(8, .int 0), (6, .long r_11), (13, .long r_11), (11, .long r_10), (9, .long x9), (4, .long x4), (0, .ref h0), (1, .int x1), (2, .long x2)]) hx hb d_Mo_isSummer_87 hl (by decide) rfl (fun ls hl => ?_)
          exact k_Mo_isSummer_89 C0 hST hA hK hE (fun hf => ih hf) hf hP hD hS (lv_sub hl [3, 4, 0, 1, 5, 6, 7, 8] rfl)
set_option maxHeartbeats 400000 in
set_option maxRecDepth 100000 in
theorem k_Mo_isSummer_0 (C0 : Cx p s m meth c args R b_Mo_isSummer "ZoneFilesModel" 15 (some .boolean) 5 121) (hST : ST A s s.heap) (hA : ∀ q, s.heap.size ≤ q → A q) (hK : va_K (dC, dI) classes (moT cA) s) (hE : ∀ (pc : Nat) (ls : Array Slot) (H : Heap) (locs : List Loc), decode b_Mo_isSummer pc = .ok (.ireturn, 1) → narrow .boolean (.int r0) = .int r0 → va_P (dC, dI) classes (moW h0 r cA vi vj va vb) H → va_D A (moW h0 r cA vi vj va vb) → va_S A s.heap H locs → W p l e R s m args below meth c H locs 0 0 Q (F0 m pc ls [.int r0])) {x1 : Int32} {x2 : Int64} {si : Nat → Int32} {sj : Nat → Int64} {sa : Nat → Nat → Int32} {sb : Nat → Nat → Int64} (hf : f_Mo_isSummer_0 nf x1 x2 si sj sa sb = some (r0, vi, vj, va, vb)) {H : Heap} {locs : List Loc} {ls : Array Slot} (hP : va_P (dC, dI) classes (moW h0 r cA si sj sa sb) H) (hD : va_D A (moW h0 r cA si sj sa sb)) (hS : va_S A s.heap H locs) (hl : lv_has ls 15 [(0, .ref h0), (1, .int x1), (2, .long x2)]) : W p l e R s m args below meth c H locs 0 0 Q (F0 m 0 ls []) := by
  obtain ⟨hx, hb, hr, hml, hown, hts, hlocks, hRf, hRl⟩ := id C0
  unfold f_Mo_isSummer_0 at hf
  refine lv_aload_n hx hb d_Mo_isSummer_0 rfl (lv_at hl 0 rfl) ?_
  refine mg_23 hx hb hts hown hK hP d_Mo_isSummer_1 ?_
  refine lv_iload_n hx hb d_Mo_isSummer_4 rfl (lv_at hl 1 rfl) ?_
  obtain ⟨c_1, hf⟩ := it_n hf
  refine ma_23 (v := sa 23 x1.toNatClampNeg) hx hb hK hP c_1 rfl d_Mo_isSummer_5 ?_
  refine lv_iconst (v := 2) hx hb d_Mo_isSummer_6 (by decide) ?_
  refine lv_icmp_ge (tgt := 12) hx hb d_Mo_isSummer_7 (by decide) (fun c_2 => ?_) (fun c_2 => ?_)
  · have hf := it_t c_2 hf
    refine lv_aload_n hx hb d_Mo_isSummer_12 rfl (lv_at hl 0 rfl) ?_
    refine lv_lload_n hx hb d_Mo_isSummer_13 rfl (lv_at hl 2 rfl) ?_
    obtain ⟨⟨z_7, i_3, j_4, a_5, b_6⟩, hc, hf⟩ := ob hf
    have hFc := mo_free hD hS hA
    refine cl_M (v := (some (.long z_7))) (st1 := [.long z_7]) (va_runV (As := [.long x2]) (rest := []) ⟨hx, hb, hml, hown, hts⟩ (c_Mo_about l dC dI h0 r cA H.size nf x2 si sj sa sb hc) (cwV 1 hts (gdV m_7_220 m_7_222 msel_78 m_1_10 m_7_223) rfl rfl rfl (by decide +kernel) ⟨Nat.le_trans (Nat.le_of_ble_eq_true rfl) hRf, Nat.le_trans (Nat.le_of_ble_eq_true rfl) hRl⟩) ((MU.pre hP hK hD (hST.mu hS hFc)).vir (va_recv hK hP (ci := 10) (q0 := 0) rfl rfl)) rfl rfl hl.1 rfl (lv_room (Nat.le_of_ble_eq_true rfl)) d_Mo_isSummer_14 ⟨Nat.zero_le _, Nat.zero_le _⟩) rfl hS (fun q _ h => hFc q h) hFc (fun t H1 locs ht hvm hB hz1 hk1 hS => ?_)
    obtain ⟨hP, hD⟩ := mo_back ht hD hB
    generalize H1 = H at hP hS ⊢
    refine lv_lstore (lv' := [(4, .long z_7), (0, .ref h0), (1, .int x1), (2, .long x2)]) hx hb d_Mo_isSummer_17 hl (by decide) rfl (fun ls hl => ?_)
    refine lv_ldc2 (v := (-9223372036854775808)) hx hb hown (hts (.constantLong "ZoneFilesModel" 370 (-9223372036854775808)) m_8_2) d_Mo_isSummer_19 ?_
    refine lv_lstore (lv' := [(6, .long (-9223372036854775808)), (4, .long z_7), (0, .ref h0), (1, .int x1), (2, .long x2)]) hx hb d_Mo_isSummer_22 hl (by decide) rfl (fun ls hl => ?_)
    refine lv_iconst (v := 0) hx hb d_Mo_isSummer_24 (by decide) ?_
    refine lv_istore (lv' := [(8, .int 0), (6, .long (-9223372036854775808)), (4, .long z_7), (0, .ref h0), (1, .int x1), (2, .long x2)]) hx hb d_Mo_isSummer_25 hl (by decide) rfl (fun ls hl => ?_)
    refine lv_lload hx hb d_Mo_isSummer_27 (lv_at hl 2 rfl) ?_
    refine lv_ldc2 (v := 2) hx hb hown (hts (.constantLong "ZoneFilesModel" 305 2) m_7_239) d_Mo_isSummer_29 ?_
    refine lv_lsub hx hb d_Mo_isSummer_32 ?_
    refine lv_lstore (lv' := [(9, .long (z_7 - 2)), (8, .int 0), (6, .long (-9223372036854775808)), (4, .long z_7), (0, .ref h0), (1, .int x1), (2, .long x2)]) hx hb d_Mo_isSummer_33 hl (by decide) rfl (fun ls hl => ?_)
    exact k_Mo_isSummer_35 C0 hST hA hK hE nf hf hP hD hS (lv_sub hl [0, 1, 2, 3, 4, 5, 6] rfl)
  · have hf := it_f c_2 hf
    refine lv_iconst (v := 0) hx hb d_Mo_isSummer_10 (by decide) ?_
    cases rs hf
    exact hE _ _ _ _ d_Mo_isSummer_11 rfl hP hD hS
end
set_option maxHeartbeats 400000 in
set_option maxRecDepth 100000 in
theorem c_Mo_isSummer (l : Launch) (dC : Nat → ClassId) (dI : Nat → Nat → Nat) (h0 : Nat) (r : Nat → Nat) (cA : Nat → ClassId) (sz : Nat) (nf : Nat) (p0 : Int32) (p1 : Int64) (si : Nat → Int32) (sj : Nat → Int64) (sa : Nat → Nat → Int32) (sb : Nat → Nat → Int64) {r0 : Int32} {vi : Nat → Int32} {vj : Nat → Int64} {va : Nat → Nat → Int32} {vb : Nat → Nat → Int64} (hf : f_Mo_isSummer nf p0 p1 si sj sa sb = some (r0, vi, vj, va, vb)) : Met l y_Mo_isSummer (wd y_Mo_isSummer b_Mo_isSummer 15 (some .boolean)) ({ frames := 5, cells := 0, slots := 0, locals := 121 }) (MU dC dI (moW h0 r cA si sj sa sb) (moT cA) sz [.ref h0, .int p0, .long p1]) (MV (some (.int r0)) (fun t => va_P (dC, dI) classes (moW h0 r cA vi vj va vb) t.heap) (va_A (moW h0 r cA si sj sa sb) sz)) 0 0 (va_A (moW h0 r cA si sj sa sb) sz) :=
  met_M (plainFor_of_name (by decide)) (Nat.le_of_ble_eq_true rfl) (fun p e R s m args below meth c ls hRc hRs hsz hin C0 hST hK hP hD hl => by
    obtain ⟨hx, hb, hr, hml, hown, hts, hlocks, hRf, hRl⟩ := id C0
    subst hsz
    have hA : ∀ q : Nat, s.heap.size ≤ q → va_A (moW h0 r cA si sj sa sb) s.heap.size q := fun q h => Or.inr h
    have hS : va_S (va_A (moW h0 r cA si sj sa sb) s.heap.size) s.heap s.heap [] := va_S.rf
    unfold f_Mo_isSummer at hf
    exact k_Mo_isSummer_0 C0 hST hA hK (fun pc ls H locs hd hn hP hD hS => W.zret hx hb hr hn (fun t ht hW => ⟨⟨rfl, mo_end ht hP⟩, hS.F ht⟩) hS.2.2 hd) hf hP hD hS (lv_sub hl [0, 1, 2] rfl))
-- ZoneFilesModel.nothing()V
def f_Mo_nothing_0 (nf : Nat) (si : Nat → Int32) (sj : Nat → Int64) (sa : Nat → Nat → Int32) (sb : Nat → Nat → Int64) : Option ((Nat → Int32) × (Nat → Int64) × (Nat → Nat → Int32) × (Nat → Nat → Int64)) :=
  some (va_up (va_up (va_up (va_up si 43 2) 45 0) 46 0) 47 0, sj, sa, sb)
def f_Mo_nothing (nf : Nat) (si : Nat → Int32) (sj : Nat → Int64) (sa : Nat → Nat → Int32) (sb : Nat → Nat → Int64) : Option ((Nat → Int32) × (Nat → Int64) × (Nat → Nat → Int32) × (Nat → Nat → Int64)) :=
  f_Mo_nothing_0 nf si sj sa sb
section
variable {p : Program} {l : Launch} {e : Env} {R : Room} {s : State} {m : MethodId} {args : Array Value} {below : List Frame} {meth : Method} {c : Code} {Q : State → Prop} {dC : Nat → ClassId} {dI : Nat → Nat → Nat} {nf : Nat} {A : Nat → Prop} {h0 : Nat} {r : Nat → Nat} {cA : Nat → ClassId}
variable {vi : Nat → Int32} {vj : Nat → Int64} {va : Nat → Nat → Int32} {vb : Nat → Nat → Int64}
set_option maxHeartbeats 400000 in
set_option maxRecDepth 100000 in
theorem k_Mo_nothing_0 (C0 : Cx p s m meth c args R b_Mo_nothing "ZoneFilesModel" 1 none 0 0) (hST : ST A s s.heap) (hA : ∀ q, s.heap.size ≤ q → A q) (hK : va_K (dC, dI) classes (moT cA) s) (hE : ∀ (pc : Nat) (ls : Array Slot) (H : Heap) (locs : List Loc), decode b_Mo_nothing pc = .ok (.return_, 1) → va_P (dC, dI) classes (moW h0 r cA vi vj va vb) H → va_D A (moW h0 r cA vi vj va vb) → va_S A s.heap H locs → W p l e R s m args below meth c H locs 0 0 Q (F0 m pc ls [])) {si : Nat → Int32} {sj : Nat → Int64} {sa : Nat → Nat → Int32} {sb : Nat → Nat → Int64} (hf : f_Mo_nothing_0 nf si sj sa sb = some (vi, vj, va, vb)) {H : Heap} {locs : List Loc} {ls : Array Slot} (hP : va_P (dC, dI) classes (moW h0 r cA si sj sa sb) H) (hD : va_D A (moW h0 r cA si sj sa sb)) (hS : va_S A s.heap H locs) (hl : lv_has ls 1 [(0, .ref h0)]) : W p l e R s m args below meth c H locs 0 0 Q (F0 m 0 ls []) := by
  obtain ⟨hx, hb, hr, hml, hown, hts, hlocks, hRf, hRl⟩ := id C0
  unfold f_Mo_nothing_0 at hf
  refine lv_aload_n hx hb d_Mo_nothing_0 rfl (lv_at hl 0 rfl) ?_
  refine lv_iconst (v := 2) hx hb d_Mo_nothing_1 (by decide) ?_
  refine mp_43 hx hb hts hown hK hP hD hS d_Mo_nothing_2 (fun H locs hP hD hS => ?_)
  refine lv_aload_n hx hb d_Mo_nothing_5 rfl (lv_at hl 0 rfl) ?_
  refine lv_iconst (v := 0) hx hb d_Mo_nothing_6 (by decide) ?_
  refine mp_45 hx hb hts hown hK hP hD hS d_Mo_nothing_7 (fun H locs hP hD hS => ?_)
  refine lv_aload_n hx hb d_Mo_nothing_10 rfl (lv_at hl 0 rfl) ?_
  refine lv_iconst (v := 0) hx hb d_Mo_nothing_11 (by decide) ?_
  refine mp_46 hx hb hts hown hK hP hD hS d_Mo_nothing_12 (fun H locs hP hD hS => ?_)
  refine lv_aload_n hx hb d_Mo_nothing_15 rfl (lv_at hl 0 rfl) ?_
  refine lv_iconst (v := 0) hx hb d_Mo_nothing_16 (by decide) ?_
  refine mp_47 hx hb hts hown hK hP hD hS d_Mo_nothing_17 (fun H locs hP hD hS => ?_)
  cases rs hf
  exact hE _ _ _ _ d_Mo_nothing_20 hP hD hS
end
set_option maxHeartbeats 400000 in
set_option maxRecDepth 100000 in
theorem c_Mo_nothing (l : Launch) (dC : Nat → ClassId) (dI : Nat → Nat → Nat) (h0 : Nat) (r : Nat → Nat) (cA : Nat → ClassId) (sz : Nat) (nf : Nat) (si : Nat → Int32) (sj : Nat → Int64) (sa : Nat → Nat → Int32) (sb : Nat → Nat → Int64) {vi : Nat → Int32} {vj : Nat → Int64} {va : Nat → Nat → Int32} {vb : Nat → Nat → Int64} (hf : f_Mo_nothing nf si sj sa sb = some (vi, vj, va, vb)) : Met l y_Mo_nothing (wd y_Mo_nothing b_Mo_nothing 1 none) ({ frames := 0, cells := 0, slots := 0, locals := 0 }) (MU dC dI (moW h0 r cA si sj sa sb) (moT cA) sz [.ref h0]) (MV none (fun t => va_P (dC, dI) classes (moW h0 r cA vi vj va vb) t.heap) (va_A (moW h0 r cA si sj sa sb) sz)) 0 0 (va_A (moW h0 r cA si sj sa sb) sz) :=
  met_M (plainFor_of_name (by decide)) (Nat.le_of_ble_eq_true rfl) (fun p e R s m args below meth c ls hRc hRs hsz hin C0 hST hK hP hD hl => by
    obtain ⟨hx, hb, hr, hml, hown, hts, hlocks, hRf, hRl⟩ := id C0
    subst hsz
    have hA : ∀ q : Nat, s.heap.size ≤ q → va_A (moW h0 r cA si sj sa sb) s.heap.size q := fun q h => Or.inr h
    have hS : va_S (va_A (moW h0 r cA si sj sa sb) s.heap.size) s.heap s.heap [] := va_S.rf
    unfold f_Mo_nothing at hf
    exact k_Mo_nothing_0 C0 hST hA hK (fun pc ls H locs hd hP hD hS => W.vret hx hb hr (fun t ht hW => ⟨⟨rfl, mo_end ht hP⟩, hS.F ht⟩) hS.2.2 hd) hf hP hD hS (lv_sub hl [0] rfl))
-- ZoneFilesModel.byRule(IJ)V
def f_Mo_byRule_79 (nf : Nat) : Nat → Int32 → Int32 → (Nat → Int32) → (Nat → Int64) → (Nat → Nat → Int32) → (Nat → Nat → Int64) → Option ((Nat → Int32) × (Nat → Int64) × (Nat → Nat → Int32) × (Nat → Nat → Int64))
  | 0, _, _, _, _, _, _ => none
  | n + 1, x4, x1, si, sj, sa, sb =>
    if (si 47) ≤ x4 then
    some (si, sj, sa, sb)
    else
    if (((20 * x1) + (10 * (si 46))) + x4) < 0 ∨ 100 ≤ (((20 * x1) + (10 * (si 46))) + x4).toNatClampNeg then none else
      if x4 < 0 ∨ 10 ≤ x4.toNatClampNeg then none else
      f_Mo_byRule_79 nf n (x4 + 1) x1 si sj (va_up sa 48 (upd (sa 48) x4.toNatClampNeg (sa 26 (((20 * x1) + (10 * (si 46))) + x4).toNatClampNeg))) sb
def f_Mo_byRule_39 (nf : Nat) (x1 : Int32) (s0 : Int32) (si : Nat → Int32) (sj : Nat → Int64) (sa : Nat → Nat → Int32) (sb : Nat → Nat → Int64) : Option ((Nat → Int32) × (Nat → Int64) × (Nat → Nat → Int32) × (Nat → Nat → Int64)) :=
  if ((2 * x1) + s0) < 0 ∨ 10 ≤ ((2 * x1) + s0).toNatClampNeg then none else
  if ((2 * x1) + s0) < 0 ∨ 10 ≤ ((2 * x1) + s0).toNatClampNeg then none else
  f_Mo_byRule_79 nf nf 0 x1 (va_up (va_up (va_up si 46 s0) 45 (sa 24 ((2 * x1) + s0).toNatClampNeg)) 47 (sa 25 ((2 * x1) + s0).toNatClampNeg)) sj sa sb
def f_Mo_byRule_0 (nf : Nat) (x1 : Int32) (x2 : Int64) (si : Nat → Int32) (sj : Nat → Int64) (sa : Nat → Nat → Int32) (sb : Nat → Nat → Int64) : Option ((Nat → Int32) × (Nat → Int64) × (Nat → Nat → Int32) × (Nat → Nat → Int64)) :=
  if x1 < 0 ∨ 5 ≤ x1.toNatClampNeg then none else
  if (sa 23 x1.toNatClampNeg) = 0 then
  (f_Mo_nothing nf si sj sa sb).bind fun (i_14, j_15, a_16, b_17) =>
    some (i_14, j_15, a_16, b_17)
  else
  (f_Mo_isSummer nf x1 x2 (va_up (va_up si 43 1) 44 (-1)) sj sa sb).bind fun (z_7, i_3, j_4, a_5, b_6) =>
    if z_7 = 0 then
    f_Mo_byRule_39 nf x1 0 i_3 j_4 a_5 b_6
    else
    f_Mo_byRule_39 nf x1 1 i_3 j_4 a_5 b_6
def f_Mo_byRule (nf : Nat) (p0 : Int32) (p1 : Int64) (si : Nat → Int32) (sj : Nat → Int64) (sa : Nat → Nat → Int32) (sb : Nat → Nat → Int64) : Option ((Nat → Int32) × (Nat → Int64) × (Nat → Nat → Int32) × (Nat → Nat → Int64)) :=
  f_Mo_byRule_0 nf p0 p1 si sj sa sb
section
variable {p : Program} {l : Launch} {e : Env} {R : Room} {s : State} {m : MethodId} {args : Array Value} {below : List Frame} {meth : Method} {c : Code} {Q : State → Prop} {dC : Nat → ClassId} {dI : Nat → Nat → Nat} {nf : Nat} {A : Nat → Prop} {h0 : Nat} {r : Nat → Nat} {cA : Nat → ClassId}
variable {vi : Nat → Int32} {vj : Nat → Int64} {va : Nat → Nat → Int32} {vb : Nat → Nat → Int64}
set_option maxHeartbeats 400000 in
set_option maxRecDepth 100000 in
theorem k_Mo_byRule_79 (C0 : Cx p s m meth c args R b_Mo_byRule "ZoneFilesModel" 5 none 6 155) (hST : ST A s s.heap) (hA : ∀ q, s.heap.size ≤ q → A q) (hK : va_K (dC, dI) classes (moT cA) s) (hE : ∀ (pc : Nat) (ls : Array Slot) (H : Heap) (locs : List Loc), decode b_Mo_byRule pc = .ok (.return_, 1) → va_P (dC, dI) classes (moW h0 r cA vi vj va vb) H → va_D A (moW h0 r cA vi vj va vb) → va_S A s.heap H locs → W p l e R s m args below meth c H locs 0 0 Q (F0 m pc ls [])) : ∀ (n : Nat) {x4 : Int32} {x1 : Int32} {si : Nat → Int32} {sj : Nat → Int64} {sa : Nat → Nat → Int32} {sb : Nat → Nat → Int64}, f_Mo_byRule_79 nf n x4 x1 si sj sa sb = some (vi, vj, va, vb) → ∀ {H : Heap} {locs : List Loc} {ls : Array Slot}, va_P (dC, dI) classes (moW h0 r cA si sj sa sb) H → va_D A (moW h0 r cA si sj sa sb) → va_S A s.heap H locs → lv_has ls 5 [(4, .int x4), (0, .ref h0), (1, .int x1)] → W p l e R s m args below meth c H locs 0 0 Q (F0 m 79 ls []) := by
  obtain ⟨hx, hb, hr, hml, hown, hts, hlocks, hRf, hRl⟩ := id C0
  intro n
  induction n with
  | zero =>
    intro x4 x1 si sj sa sb hf
    exact absurd hf (by simp [f_Mo_byRule_79])
  | succ n ih =>
    intro x4 x1 si sj sa sb hf H locs ls hP hD hS hl
    unfold f_Mo_byRule_79 at hf
    refine lv_iload hx hb d_Mo_byRule_79 (lv_at hl 0 rfl) ?_
    refine lv_aload_n hx hb d_Mo_byRule_81 rfl (lv_at hl 1 rfl) ?_
    refine mg_47 (v := si 47) hx hb hts hown hK hP rfl d_Mo_byRule_82 ?_
    refine lv_icmp_ge (tgt := 121) hx hb d_Mo_byRule_85 (by decide) (fun c_11 => ?_) (fun c_11 => ?_)
    · have hf := it_t c_11 hf
      cases rs hf
      exact hE _ _ _ _ d_Mo_byRule_121 hP hD hS
    · have hf := it_f c_11 hf
      refine lv_aload_n hx hb d_Mo_byRule_88 rfl (lv_at hl 1 rfl) ?_
      refine mg_48 hx hb hts hown hK hP d_Mo_byRule_89 ?_
      refine lv_iload hx hb d_Mo_byRule_92 (lv_at hl 0 rfl) ?_
      refine lv_aload_n hx hb d_Mo_byRule_94 rfl (lv_at hl 1 rfl) ?_
      refine mg_26 hx hb hts hown hK hP d_Mo_byRule_95 ?_
      refine lv_bipush (v := 20) hx hb d_Mo_byRule_98 (by decide) ?_
      refine lv_iload_n hx hb d_Mo_byRule_100 rfl (lv_at hl 2 rfl) ?_
      refine lv_imul hx hb d_Mo_byRule_101 ?_
      refine lv_bipush (v := 10) hx hb d_Mo_byRule_102 (by decide) ?_
      refine lv_aload_n hx hb d_Mo_byRule_104 rfl (lv_at hl 1 rfl) ?_
      refine mg_46 (v := si 46) hx hb hts hown hK hP rfl d_Mo_byRule_105 ?_
      refine lv_imul hx hb d_Mo_byRule_108 ?_
      refine lv_iadd hx hb d_Mo_byRule_109 ?_
      refine lv_iload hx hb d_Mo_byRule_110 (lv_at hl 0 rfl) ?_
      refine lv_iadd hx hb d_Mo_byRule_112 ?_
      obtain ⟨c_12, hf⟩ := it_n hf
      refine ma_26 (v := sa 26 (((20 * x1) + (10 * (si 46))) + x4).toNatClampNeg) hx hb hK hP c_12 rfl d_Mo_byRule_113 ?_
      obtain ⟨c_13, hf⟩ := it_n hf
      refine mz_48 hx hb hK hP hD hS c_13 d_Mo_byRule_114 (fun H locs hP hD hS => ?_)
      refine lv_iinc (v := x4 + 1) (lv' := [(4, .int (x4 + 1)), (0, .ref h0), (1, .int x1)]) hx hb d_Mo_byRule_115 hl (k := 0) rfl rfl (by decide) rfl (fun ls hl => ?_)
      refine lv_goto (tgt := 79) hx hb d_Mo_byRule_118 (by decide) ?_
      exact ih hf hP hD hS (lv_sub hl [0, 1, 2] rfl)
set_option maxHeartbeats 400000 in
set_option maxRecDepth 100000 in
theorem k_Mo_byRule_39 (C0 : Cx p s m meth c args R b_Mo_byRule "ZoneFilesModel" 5 none 6 155) (hST : ST A s s.heap) (hA : ∀ q, s.heap.size ≤ q → A q) (hK : va_K (dC, dI) classes (moT cA) s) (hE : ∀ (pc : Nat) (ls : Array Slot) (H : Heap) (locs : List Loc), decode b_Mo_byRule pc = .ok (.return_, 1) → va_P (dC, dI) classes (moW h0 r cA vi vj va vb) H → va_D A (moW h0 r cA vi vj va vb) → va_S A s.heap H locs → W p l e R s m args below meth c H locs 0 0 Q (F0 m pc ls [])) {x1 : Int32} {s0 : Int32} {si : Nat → Int32} {sj : Nat → Int64} {sa : Nat → Nat → Int32} {sb : Nat → Nat → Int64} (hf : f_Mo_byRule_39 nf x1 s0 si sj sa sb = some (vi, vj, va, vb)) {H : Heap} {locs : List Loc} {ls : Array Slot} (hP : va_P (dC, dI) classes (moW h0 r cA si sj sa sb) H) (hD : va_D A (moW h0 r cA si sj sa sb)) (hS : va_S A s.heap H locs) (hl : lv_has ls 5 [(0, .ref h0), (1, .int x1)]) : W p l e R s m args below meth c H locs 0 0 Q (F0 m 39 ls [.int s0, .ref h0]) := by
  obtain ⟨hx, hb, hr, hml, hown, hts, hlocks, hRf, hRl⟩ := id C0
  unfold f_Mo_byRule_39 at hf
  refine mp_46 hx hb hts hown hK hP hD hS d_Mo_byRule_39 (fun H locs hP hD hS => ?_)
  refine lv_aload_n hx hb d_Mo_byRule_42 rfl (lv_at hl 0 rfl) ?_
  refine lv_aload_n hx hb d_Mo_byRule_43 rfl (lv_at hl 0 rfl) ?_
  refine mg_24 hx hb hts hown hK hP d_Mo_byRule_44 ?_
  refine lv_iconst (v := 2) hx hb d_Mo_byRule_47 (by decide) ?_
  refine lv_iload_n hx hb d_Mo_byRule_48 rfl (lv_at hl 1 rfl) ?_
  refine lv_imul hx hb d_Mo_byRule_49 ?_
  refine lv_aload_n hx hb d_Mo_byRule_50 rfl (lv_at hl 0 rfl) ?_
  refine mg_46 (v := s0) hx hb hts hown hK hP rfl d_Mo_byRule_51 ?_
  refine lv_iadd hx hb d_Mo_byRule_54 ?_
  obtain ⟨c_9, hf⟩ := it_n hf
  refine ma_24 (v := sa 24 ((2 * x1) + s0).toNatClampNeg) hx hb hK hP c_9 rfl d_Mo_byRule_55 ?_
  refine mp_45 hx hb hts hown hK hP hD hS d_Mo_byRule_56 (fun H locs hP hD hS => ?_)
  refine lv_aload_n hx hb d_Mo_byRule_59 rfl (lv_at hl 0 rfl) ?_
  refine lv_aload_n hx hb d_Mo_byRule_60 rfl (lv_at hl 0 rfl) ?_
  refine mg_25 hx hb hts hown hK hP d_Mo_byRule_61 ?_
  refine lv_iconst (v := 2) hx hb d_Mo_byRule_64 (by decide) ?_
  refine lv_iload_n hx hb d_Mo_byRule_65 rfl (lv_at hl 1 rfl) ?_
  refine lv_imul hx hb d_Mo_byRule_66 ?_
  refine lv_aload_n hx hb d_Mo_byRule_67 rfl (lv_at hl 0 rfl) ?_
  refine mg_46 (v := s0) hx hb hts hown hK hP rfl d_Mo_byRule_68 ?_
  refine lv_iadd hx hb d_Mo_byRule_71 ?_
  obtain ⟨c_10, hf⟩ := it_n hf
  refine ma_25 (v := sa 25 ((2 * x1) + s0).toNatClampNeg) hx hb hK hP c_10 rfl d_Mo_byRule_72 ?_
  refine mp_47 hx hb hts hown hK hP hD hS d_Mo_byRule_73 (fun H locs hP hD hS => ?_)
  refine lv_iconst (v := 0) hx hb d_Mo_byRule_76 (by decide) ?_
  refine lv_istore (lv' := [(4, .int 0), (0, .ref h0), (1, .int x1)]) hx hb d_Mo_byRule_77 hl (by decide) rfl (fun ls hl => ?_)
  exact k_Mo_byRule_79 C0 hST hA hK hE nf hf hP hD hS (lv_sub hl [0, 1, 2] rfl)
set_option maxHeartbeats 400000 in
set_option maxRecDepth 100000 in
theorem k_Mo_byRule_0 (C0 : Cx p s m meth c args R b_Mo_byRule "ZoneFilesModel" 5 none 6 155) (hST : ST A s s.heap) (hA : ∀ q, s.heap.size ≤ q → A q) (hK : va_K (dC, dI) classes (moT cA) s) (hE : ∀ (pc : Nat) (ls : Array Slot) (H : Heap) (locs : List Loc), decode b_Mo_byRule pc = .ok (.return_, 1) → va_P (dC, dI) classes (moW h0 r cA vi vj va vb) H → va_D A (moW h0 r cA vi vj va vb) → va_S A s.heap H locs → W p l e R s m args below meth c H locs 0 0 Q (F0 m pc ls [])) {x1 : Int32} {x2 : Int64} {si : Nat → Int32} {sj : Nat → Int64} {sa : Nat → Nat → Int32} {sb : Nat → Nat → Int64} (hf : f_Mo_byRule_0 nf x1 x2 si sj sa sb = some (vi, vj, va, vb)) {H : Heap} {locs : List Loc} {ls : Array Slot} (hP : va_P (dC, dI) classes (moW h0 r cA si sj sa sb) H) (hD : va_D A (moW h0 r cA si sj sa sb)) (hS : va_S A s.heap H locs) (hl : lv_has ls 5 [(0, .ref h0), (1, .int x1), (2, .long x2)]) : W p l e R s m args below meth c H locs 0 0 Q (F0 m 0 ls []) := by
  obtain ⟨hx, hb, hr, hml, hown, hts, hlocks, hRf, hRl⟩ := id C0
  unfold f_Mo_byRule_0 at hf
  refine lv_aload_n hx hb d_Mo_byRule_0 rfl (lv_at hl 0 rfl) ?_
  refine mg_23 hx hb hts hown hK hP d_Mo_byRule_1 ?_
  refine lv_iload_n hx hb d_Mo_byRule_4 rfl (lv_at hl 1 rfl) ?_
  obtain ⟨c_1, hf⟩ := it_n hf
  refine ma_23 (v := sa 23 x1.toNatClampNeg) hx hb hK hP c_1 rfl d_Mo_byRule_5 ?_
  refine lv_if_ne (tgt := 14) hx hb d_Mo_byRule_6 (by decide) (fun c_2 => ?_) (fun c_2 => ?_)
  · have hf := it_f c_2 hf
    refine lv_aload_n hx hb d_Mo_byRule_14 rfl (lv_at hl 0 rfl) ?_
    refine lv_iconst (v := 1) hx hb d_Mo_byRule_15 (by decide) ?_
    refine mp_43 hx hb hts hown hK hP hD hS d_Mo_byRule_16 (fun H locs hP hD hS => ?_)
    refine lv_aload_n hx hb d_Mo_byRule_19 rfl (lv_at hl 0 rfl) ?_
    refine lv_iconst (v := -1) hx hb d_Mo_byRule_20 (by decide) ?_
    refine mp_44 hx hb hts hown hK hP hD hS d_Mo_byRule_21 (fun H locs hP hD hS => ?_)
    refine lv_aload_n hx hb d_Mo_byRule_24 rfl (lv_at hl 0 rfl) ?_
    refine lv_aload_n hx hb d_Mo_byRule_25 rfl (lv_at hl 0 rfl) ?_
    refine lv_iload_n hx hb d_Mo_byRule_26 rfl (lv_at hl 1 rfl) ?_
    refine lv_lload_n hx hb d_Mo_byRule_27 rfl (lv_at hl 2 rfl) ?_
    obtain ⟨⟨z_7, i_3, j_4, a_5, b_6⟩, hc, hf⟩ := ob hf
    have hFc := mo_free hD hS hA
    refine cl_M (v := (some (.int z_7))) (st1 := [.int z_7, .ref h0]) (va_runV (As := [.int x1, .long x2]) (rest := [.ref h0]) ⟨hx, hb, hml, hown, hts⟩ (c_Mo_isSummer l dC dI h0 r cA H.size nf x1 x2 (va_up (va_up si 43 1) 44 (-1)) sj sa sb hc) (cwV 2 hts (gdV m_7_216 m_7_218 msel_77 m_1_10 m_7_219) rfl rfl rfl (by decide +kernel) ⟨Nat.le_trans (Nat.le_of_ble_eq_true rfl) hRf, Nat.le_trans (Nat.le_of_ble_eq_true rfl) hRl⟩) ((MU.pre hP hK hD (hST.mu hS hFc)).vir (va_recv hK hP (ci := 10) (q0 := 0) rfl rfl)) rfl rfl hl.1 rfl (lv_room (Nat.le_of_ble_eq_true rfl)) d_Mo_byRule_28 ⟨Nat.zero_le _, Nat.zero_le _⟩) rfl hS (fun q _ h => hFc q h) hFc (fun t H1 locs ht hvm hB hz1 hk1 hS => ?_)
    obtain ⟨hP, hD⟩ := mo_back ht hD hB
    generalize H1 = H at hP hS ⊢
    refine lv_if_eq (tgt := 38) hx hb d_Mo_byRule_31 (by decide) (fun c_8 => ?_) (fun c_8 => ?_)
    · have hf := it_t c_8 hf
      refine lv_iconst (v := 0) hx hb d_Mo_byRule_38 (by decide) ?_
      exact k_Mo_byRule_39 C0 hST hA hK hE hf hP hD hS (lv_sub hl [0, 1] rfl)
    · have hf := it_f c_8 hf
      refine lv_iconst (v := 1) hx hb d_Mo_byRule_34 (by decide) ?_
      refine lv_goto (tgt := 39) hx hb d_Mo_byRule_35 (by decide) ?_
      exact k_Mo_byRule_39 C0 hST hA hK hE hf hP hD hS (lv_sub hl [0, 1] rfl)
  · have hf := it_t c_2 hf
    refine lv_aload_n hx hb d_Mo_byRule_9 rfl (lv_at hl 0 rfl) ?_
    obtain ⟨⟨i_14, j_15, a_16, b_17⟩, hc, hf⟩ := ob hf
    have hFc := mo_free hD hS hA
    refine cl_M (v := none) (st1 := []) (va_runV (As := []) (rest := []) ⟨hx, hb, hml, hown, hts⟩ (c_Mo_nothing l dC dI h0 r cA H.size nf si sj sa sb hc) (cwV 0 hts (gdV m_7_212 m_7_214 msel_76 m_1_10 m_7_215) rfl rfl rfl (by decide +kernel) ⟨Nat.le_trans (Nat.le_of_ble_eq_true rfl) hRf, Nat.le_trans (Nat.le_of_ble_eq_true rfl) hRl⟩) ((MU.pre hP hK hD (hST.mu hS hFc)).vir (va_recv hK hP (ci := 10) (q0 := 0) rfl rfl)) rfl rfl hl.1 rfl (lv_room (Nat.le_of_ble_eq_true rfl)) d_Mo_byRule_10 ⟨Nat.zero_le _, Nat.zero_le _⟩) rfl hS (fun q _ h => hFc q h) hFc (fun t H1 locs ht hvm hB hz1 hk1 hS => ?_)
    obtain ⟨hP, hD⟩ := mo_back ht hD hB
    generalize H1 = H at hP hS ⊢
    cases rs hf
    exact hE _ _ _ _ d_Mo_byRule_13 hP hD hS
end
set_option maxHeartbeats 400000 in
set_option maxRecDepth 100000 in
theorem c_Mo_byRule (l : Launch) (dC : Nat → ClassId) (dI : Nat → Nat → Nat) (h0 : Nat) (r : Nat → Nat) (cA : Nat → ClassId) (sz : Nat) (nf : Nat) (p0 : Int32) (p1 : Int64) (si : Nat → Int32) (sj : Nat → Int64) (sa : Nat → Nat → Int32) (sb : Nat → Nat → Int64) {vi : Nat → Int32} {vj : Nat → Int64} {va : Nat → Nat → Int32} {vb : Nat → Nat → Int64} (hf : f_Mo_byRule nf p0 p1 si sj sa sb = some (vi, vj, va, vb)) : Met l y_Mo_byRule (wd y_Mo_byRule b_Mo_byRule 5 none) ({ frames := 6, cells := 0, slots := 0, locals := 155 }) (MU dC dI (moW h0 r cA si sj sa sb) (moT cA) sz [.ref h0, .int p0, .long p1]) (MV none (fun t => va_P (dC, dI) classes (moW h0 r cA vi vj va vb) t.heap) (va_A (moW h0 r cA si sj sa sb) sz)) 0 0 (va_A (moW h0 r cA si sj sa sb) sz) :=
  met_M (plainFor_of_name (by decide)) (Nat.le_of_ble_eq_true rfl) (fun p e R s m args below meth c ls hRc hRs hsz hin C0 hST hK hP hD hl => by
    obtain ⟨hx, hb, hr, hml, hown, hts, hlocks, hRf, hRl⟩ := id C0
    subst hsz
    have hA : ∀ q : Nat, s.heap.size ≤ q → va_A (moW h0 r cA si sj sa sb) s.heap.size q := fun q h => Or.inr h
    have hS : va_S (va_A (moW h0 r cA si sj sa sb) s.heap.size) s.heap s.heap [] := va_S.rf
    unfold f_Mo_byRule at hf
    exact k_Mo_byRule_0 C0 hST hA hK (fun pc ls H locs hd hP hD hS => W.vret hx hb hr (fun t ht hW => ⟨⟨rfl, mo_end ht hP⟩, hS.F ht⟩) hS.2.2 hd) hf hP hD hS (lv_sub hl [0, 1, 2] rfl))
-- ZoneFilesModel.byType(II)V
def f_Mo_byType_52 (nf : Nat) : Nat → Int32 → Int32 → Int32 → (Nat → Int32) → (Nat → Int64) → (Nat → Nat → Int32) → (Nat → Nat → Int64) → Option ((Nat → Int32) × (Nat → Int64) × (Nat → Nat → Int32) × (Nat → Nat → Int64))
  | 0, _, _, _, _, _, _, _ => none
  | n + 1, x3, x1, x2, si, sj, sa, sb =>
    if (si 47) ≤ x3 then
    some (si, sj, sa, sb)
    else
    if ((40 * x1) + x2) < 0 ∨ 200 ≤ ((40 * x1) + x2).toNatClampNeg then none else
      if (((200 * x1) + (sa 16 ((40 * x1) + x2).toNatClampNeg)) + x3) < 0 ∨ 1000 ≤ (((200 * x1) + (sa 16 ((40 * x1) + x2).toNatClampNeg)) + x3).toNatClampNeg then none else
      if x3 < 0 ∨ 10 ≤ x3.toNatClampNeg then none else
      f_Mo_byType_52 nf n (x3 + 1) x1 x2 si sj (va_up sa 48 (upd (sa 48) x3.toNatClampNeg (sa 17 (((200 * x1) + (sa 16 ((40 * x1) + x2).toNatClampNeg)) + x3).toNatClampNeg))) sb
def f_Mo_byType_0 (nf : Nat) (x1 : Int32) (x2 : Int32) (si : Nat → Int32) (sj : Nat → Int64) (sa : Nat → Nat → Int32) (sb : Nat → Nat → Int64) : Option ((Nat → Int32) × (Nat → Int64) × (Nat → Nat → Int32) × (Nat → Nat → Int64)) :=
  if ((40 * x1) + x2) < 0 ∨ 200 ≤ ((40 * x1) + x2).toNatClampNeg then none else
  if ((40 * x1) + x2) < 0 ∨ 200 ≤ ((40 * x1) + x2).toNatClampNeg then none else
  (f_Mo_nameSize nf x1 x2 (va_up (va_up (va_up (va_up si 43 0) 44 x2) 45 (sa 14 ((40 * x1) + x2).toNatClampNeg)) 46 (sa 15 ((40 * x1) + x2).toNatClampNeg)) sj sa sb).bind fun r_3 =>
  f_Mo_byType_52 nf nf 0 x1 x2 (va_up (va_up (va_up (va_up (va_up si 43 0) 44 x2) 45 (sa 14 ((40 * x1) + x2).toNatClampNeg)) 46 (sa 15 ((40 * x1) + x2).toNatClampNeg)) 47 r_3) sj sa sb
def f_Mo_byType (nf : Nat) (p0 : Int32) (p1 : Int32) (si : Nat → Int32) (sj : Nat → Int64) (sa : Nat → Nat → Int32) (sb : Nat → Nat → Int64) : Option ((Nat → Int32) × (Nat → Int64) × (Nat → Nat → Int32) × (Nat → Nat → Int64)) :=
  f_Mo_byType_0 nf p0 p1 si sj sa sb
section
variable {p : Program} {l : Launch} {e : Env} {R : Room} {s : State} {m : MethodId} {args : Array Value} {below : List Frame} {meth : Method} {c : Code} {Q : State → Prop} {dC : Nat → ClassId} {dI : Nat → Nat → Nat} {nf : Nat} {A : Nat → Prop} {h0 : Nat} {r : Nat → Nat} {cA : Nat → ClassId}
variable {vi : Nat → Int32} {vj : Nat → Int64} {va : Nat → Nat → Int32} {vb : Nat → Nat → Int64}
set_option maxHeartbeats 400000 in
set_option maxRecDepth 100000 in
theorem k_Mo_byType_52 (C0 : Cx p s m meth c args R b_Mo_byType "ZoneFilesModel" 4 none 1 24) (hST : ST A s s.heap) (hA : ∀ q, s.heap.size ≤ q → A q) (hK : va_K (dC, dI) classes (moT cA) s) (hE : ∀ (pc : Nat) (ls : Array Slot) (H : Heap) (locs : List Loc), decode b_Mo_byType pc = .ok (.return_, 1) → va_P (dC, dI) classes (moW h0 r cA vi vj va vb) H → va_D A (moW h0 r cA vi vj va vb) → va_S A s.heap H locs → W p l e R s m args below meth c H locs 0 0 Q (F0 m pc ls [])) : ∀ (n : Nat) {x3 : Int32} {x1 : Int32} {x2 : Int32} {si : Nat → Int32} {sj : Nat → Int64} {sa : Nat → Nat → Int32} {sb : Nat → Nat → Int64}, f_Mo_byType_52 nf n x3 x1 x2 si sj sa sb = some (vi, vj, va, vb) → ∀ {H : Heap} {locs : List Loc} {ls : Array Slot}, va_P (dC, dI) classes (moW h0 r cA si sj sa sb) H → va_D A (moW h0 r cA si sj sa sb) → va_S A s.heap H locs → lv_has ls 4 [(3, .int x3), (0, .ref h0), (1, .int x1), (2, .int x2)] → W p l e R s m args below meth c H locs 0 0 Q (F0 m 52 ls []) := by
  obtain ⟨hx, hb, hr, hml, hown, hts, hlocks, hRf, hRl⟩ := id C0
  intro n
  induction n with
  | zero =>
    intro x3 x1 x2 si sj sa sb hf
    exact absurd hf (by simp [f_Mo_byType_52])
  | succ n ih =>
    intro x3 x1 x2 si sj sa sb hf H locs ls hP hD hS hl
    unfold f_Mo_byType_52 at hf
    refine lv_iload_n hx hb d_Mo_byType_52 rfl (lv_at hl 0 rfl) ?_
    refine lv_aload_n hx hb d_Mo_byType_53 rfl (lv_at hl 1 rfl) ?_
    refine mg_47 (v := si 47) hx hb hts hown hK hP rfl d_Mo_byType_54 ?_
    refine lv_icmp_ge (tgt := 96) hx hb d_Mo_byType_57 (by decide) (fun c_4 => ?_) (fun c_4 => ?_)
    · have hf := it_t c_4 hf
      cases rs hf
      exact hE _ _ _ _ d_Mo_byType_96 hP hD hS
    · have hf := it_f c_4 hf
      refine lv_aload_n hx hb d_Mo_byType_60 rfl (lv_at hl 1 rfl) ?_
      refine mg_48 hx hb hts hown hK hP d_Mo_byType_61 ?_
      refine lv_iload_n hx hb d_Mo_byType_64 rfl (lv_at hl 0 rfl) ?_
      refine lv_aload_n hx hb d_Mo_byType_65 rfl (lv_at hl 1 rfl) ?_
      refine mg_17 hx hb hts hown hK hP d_Mo_byType_66 ?_
      refine lv_sipush (v := 200) hx hb d_Mo_byType_69 (by decide) ?_
      refine lv_iload_n hx hb d_Mo_byType_72 rfl (lv_at hl 2 rfl) ?_
      refine lv_imul hx hb d_Mo_byType_73 ?_
      refine lv_aload_n hx hb d_Mo_byType_74 rfl (lv_at hl 1 rfl) ?_
      refine mg_16 hx hb hts hown hK hP d_Mo_byType_75 ?_
      refine lv_bipush (v := 40) hx hb d_Mo_byType_78 (by decide) ?_
      refine lv_iload_n hx hb d_Mo_byType_80 rfl (lv_at hl 2 rfl) ?_
      refine lv_imul hx hb d_Mo_byType_81 ?_
      refine lv_iload_n hx hb d_Mo_byType_82 rfl (lv_at hl 3 rfl) ?_
      refine lv_iadd hx hb d_Mo_byType_83 ?_
      obtain ⟨c_5, hf⟩ := it_n hf
      refine ma_16 (v := sa 16 ((40 * x1) + x2).toNatClampNeg) hx hb hK hP c_5 rfl d_Mo_byType_84 ?_
      refine lv_iadd hx hb d_Mo_byType_85 ?_
      refine lv_iload_n hx hb d_Mo_byType_86 rfl (lv_at hl 0 rfl) ?_
      refine lv_iadd hx hb d_Mo_byType_87 ?_
      obtain ⟨c_6, hf⟩ := it_n hf
      refine ma_17 (v := sa 17 (((200 * x1) + (sa 16 ((40 * x1) + x2).toNatClampNeg)) + x3).toNatClampNeg) hx hb hK hP c_6 rfl d_Mo_byType_88 ?_
      obtain ⟨c_7, hf⟩ := it_n hf
      refine mz_48 hx hb hK hP hD hS c_7 d_Mo_byType_89 (fun H locs hP hD hS => ?_)
      refine lv_iinc (v := x3 + 1) (lv' := [(3, .int (x3 + 1)), (0, .ref h0), (1, .int x1), (2, .int x2)]) hx hb d_Mo_byType_90 hl (k := 0) rfl rfl (by decide) rfl (fun ls hl => ?_)
      refine lv_goto (tgt := 52) hx hb d_Mo_byType_93 (by decide) ?_
      exact ih hf hP hD hS (lv_sub hl [0, 1, 2, 3] rfl)
set_option maxHeartbeats 400000 in
set_option maxRecDepth 100000 in
theorem k_Mo_byType_0 (C0 : Cx p s m meth c args R b_Mo_byType "ZoneFilesModel" 4 none 1 24) (hST : ST A s s.heap) (hA : ∀ q, s.heap.size ≤ q → A q) (hK : va_K (dC, dI) classes (moT cA) s) (hE : ∀ (pc : Nat) (ls : Array Slot) (H : Heap) (locs : List Loc), decode b_Mo_byType pc = .ok (.return_, 1) → va_P (dC, dI) classes (moW h0 r cA vi vj va vb) H → va_D A (moW h0 r cA vi vj va vb) → va_S A s.heap H locs → W p l e R s m args below meth c H locs 0 0 Q (F0 m pc ls [])) {x1 : Int32} {x2 : Int32} {si : Nat → Int32} {sj : Nat → Int64} {sa : Nat → Nat → Int32} {sb : Nat → Nat → Int64} (hf : f_Mo_byType_0 nf x1 x2 si sj sa sb = some (vi, vj, va, vb)) {H : Heap} {locs : List Loc} {ls : Array Slot} (hP : va_P (dC, dI) classes (moW h0 r cA si sj sa sb) H) (hD : va_D A (moW h0 r cA si sj sa sb)) (hS : va_S A s.heap H locs) (hl : lv_has ls 4 [(0, .ref h0), (1, .int x1), (2, .int x2)]) : W p l e R s m args below meth c H locs 0 0 Q (F0 m 0 ls []) := by
  obtain ⟨hx, hb, hr, hml, hown, hts, hlocks, hRf, hRl⟩ := id C0
  unfold f_Mo_byType_0 at hf
  refine lv_aload_n hx hb d_Mo_byType_0 rfl (lv_at hl 0 rfl) ?_
  refine lv_iconst (v := 0) hx hb d_Mo_byType_1 (by decide) ?_
  refine mp_43 hx hb hts hown hK hP hD hS d_Mo_byType_2 (fun H locs hP hD hS => ?_)
  refine lv_aload_n hx hb d_Mo_byType_5 rfl (lv_at hl 0 rfl) ?_
  refine lv_iload_n hx hb d_Mo_byType_6 rfl (lv_at hl 2 rfl) ?_
  refine mp_44 hx hb hts hown hK hP hD hS d_Mo_byType_7 (fun H locs hP hD hS => ?_)
  refine lv_aload_n hx hb d_Mo_byType_10 rfl (lv_at hl 0 rfl) ?_
  refine lv_aload_n hx hb d_Mo_byType_11 rfl (lv_at hl 0 rfl) ?_
  refine mg_14 hx hb hts hown hK hP d_Mo_byType_12 ?_
  refine lv_bipush (v := 40) hx hb d_Mo_byType_15 (by decide) ?_
  refine lv_iload_n hx hb d_Mo_byType_17 rfl (lv_at hl 1 rfl) ?_
  refine lv_imul hx hb d_Mo_byType_18 ?_
  refine lv_iload_n hx hb d_Mo_byType_19 rfl (lv_at hl 2 rfl) ?_
  refine lv_iadd hx hb d_Mo_byType_20 ?_
  obtain ⟨c_1, hf⟩ := it_n hf
  refine ma_14 (v := sa 14 ((40 * x1) + x2).toNatClampNeg) hx hb hK hP c_1 rfl d_Mo_byType_21 ?_
  refine mp_45 hx hb hts hown hK hP hD hS d_Mo_byType_22 (fun H locs hP hD hS => ?_)
  refine lv_aload_n hx hb d_Mo_byType_25 rfl (lv_at hl 0 rfl) ?_
  refine lv_aload_n hx hb d_Mo_byType_26 rfl (lv_at hl 0 rfl) ?_
  refine mg_15 hx hb hts hown hK hP d_Mo_byType_27 ?_
  refine lv_bipush (v := 40) hx hb d_Mo_byType_30 (by decide) ?_
  refine lv_iload_n hx hb d_Mo_byType_32 rfl (lv_at hl 1 rfl) ?_
  refine lv_imul hx hb d_Mo_byType_33 ?_
  refine lv_iload_n hx hb d_Mo_byType_34 rfl (lv_at hl 2 rfl) ?_
  refine lv_iadd hx hb d_Mo_byType_35 ?_
  obtain ⟨c_2, hf⟩ := it_n hf
  refine ma_15 (v := sa 15 ((40 * x1) + x2).toNatClampNeg) hx hb hK hP c_2 rfl d_Mo_byType_36 ?_
  refine mp_46 hx hb hts hown hK hP hD hS d_Mo_byType_37 (fun H locs hP hD hS => ?_)
  refine lv_aload_n hx hb d_Mo_byType_40 rfl (lv_at hl 0 rfl) ?_
  refine lv_aload_n hx hb d_Mo_byType_41 rfl (lv_at hl 0 rfl) ?_
  refine lv_iload_n hx hb d_Mo_byType_42 rfl (lv_at hl 1 rfl) ?_
  refine lv_iload_n hx hb d_Mo_byType_43 rfl (lv_at hl 2 rfl) ?_
  obtain ⟨r_3, hc, hf⟩ := ob hf
  refine cl_S (v := (some (.int r_3))) (st1 := [.int r_3, .ref h0]) (va_runV (As := [.int x1, .int x2]) (rest := [.ref h0]) ⟨hx, hb, hml, hown, hts⟩ (c_Mo_nameSize l dC dI h0 r cA nf x1 x2 (va_up (va_up (va_up (va_up si 43 0) 44 x2) 45 (sa 14 ((40 * x1) + x2).toNatClampNeg)) 46 (sa 15 ((40 * x1) + x2).toNatClampNeg)) sj sa sb hc) (cwV 2 hts (gdV m_7_175 m_7_177 msel_68 m_1_10 m_7_178) rfl rfl rfl (by decide +kernel) ⟨Nat.le_trans (Nat.le_of_ble_eq_true rfl) hRf, Nat.le_trans (Nat.le_of_ble_eq_true rfl) hRl⟩) ((RO.pre hP hK (hST.ro hS)).vir (va_recv hK hP (ci := 10) (q0 := 0) rfl rfl)) rfl rfl hl.1 rfl (lv_room (Nat.le_of_ble_eq_true rfl)) d_Mo_byType_44 ⟨Nat.zero_le _, Nat.zero_le _⟩) rfl ?_
  refine mp_47 hx hb hts hown hK hP hD hS d_Mo_byType_47 (fun H locs hP hD hS => ?_)
  refine lv_iconst (v := 0) hx hb d_Mo_byType_50 (by decide) ?_
  refine lv_istore_n (lv' := [(3, .int 0), (0, .ref h0), (1, .int x1), (2, .int x2)]) hx hb d_Mo_byType_51 rfl hl (by decide) rfl (fun ls hl => ?_)
  exact k_Mo_byType_52 C0 hST hA hK hE nf hf hP hD hS (lv_sub hl [0, 1, 2, 3] rfl)
end
set_option maxHeartbeats 400000 in
set_option maxRecDepth 100000 in
theorem c_Mo_byType (l : Launch) (dC : Nat → ClassId) (dI : Nat → Nat → Nat) (h0 : Nat) (r : Nat → Nat) (cA : Nat → ClassId) (sz : Nat) (nf : Nat) (p0 : Int32) (p1 : Int32) (si : Nat → Int32) (sj : Nat → Int64) (sa : Nat → Nat → Int32) (sb : Nat → Nat → Int64) {vi : Nat → Int32} {vj : Nat → Int64} {va : Nat → Nat → Int32} {vb : Nat → Nat → Int64} (hf : f_Mo_byType nf p0 p1 si sj sa sb = some (vi, vj, va, vb)) : Met l y_Mo_byType (wd y_Mo_byType b_Mo_byType 4 none) ({ frames := 1, cells := 0, slots := 0, locals := 24 }) (MU dC dI (moW h0 r cA si sj sa sb) (moT cA) sz [.ref h0, .int p0, .int p1]) (MV none (fun t => va_P (dC, dI) classes (moW h0 r cA vi vj va vb) t.heap) (va_A (moW h0 r cA si sj sa sb) sz)) 0 0 (va_A (moW h0 r cA si sj sa sb) sz) :=
  met_M (plainFor_of_name (by decide)) (Nat.le_of_ble_eq_true rfl) (fun p e R s m args below meth c ls hRc hRs hsz hin C0 hST hK hP hD hl => by
    obtain ⟨hx, hb, hr, hml, hown, hts, hlocks, hRf, hRl⟩ := id C0
    subst hsz
    have hA : ∀ q : Nat, s.heap.size ≤ q → va_A (moW h0 r cA si sj sa sb) s.heap.size q := fun q h => Or.inr h
    have hS : va_S (va_A (moW h0 r cA si sj sa sb) s.heap.size) s.heap s.heap [] := va_S.rf
    unfold f_Mo_byType at hf
    exact k_Mo_byType_0 C0 hST hA hK (fun pc ls H locs hd hP hD hS => W.vret hx hb hr (fun t ht hW => ⟨⟨rfl, mo_end ht hP⟩, hS.F ht⟩) hS.2.2 hd) hf hP hD hS (lv_sub hl [0, 1, 2] rfl))
-- ZoneFilesModel.isKept()Z
def f_Mo_isKept_109 (nf : Nat) (x1 : Int32) : Option (Int32) :=
  if x1 = 0 ∨ x1 = 1 then some x1 else none
def f_Mo_isKept_102 (nf : Nat) (K70 : Int32 → Int32 → Option (Int32)) (x2 : Int32) (s0 : Int32) : Option (Int32) :=
  K70 (x2 + 1) s0
def f_Mo_isKept_70 (nf : Nat) (si : Nat → Int32) (sa : Nat → Nat → Int32) : Nat → Int32 → Int32 → Option (Int32)
  | 0, _, _ => none
  | n + 1, x2, x1 =>
    if (si 47) ≤ x2 then
    f_Mo_isKept_109 nf x1
    else
    if x1 = 0 then
      f_Mo_isKept_109 nf x1
      else
      if x2 < 0 ∨ 10 ≤ x2.toNatClampNeg then none else
        if x2 < 0 ∨ 10 ≤ x2.toNatClampNeg then none else
        if (sa 53 x2.toNatClampNeg) = (sa 48 x2.toNatClampNeg) then
        f_Mo_isKept_102 nf (f_Mo_isKept_70 nf si sa n) x2 1
        else
        f_Mo_isKept_102 nf (f_Mo_isKept_70 nf si sa n) x2 0
def f_Mo_isKept_67 (nf : Nat) (si : Nat → Int32) (sa : Nat → Nat → Int32) (s0 : Int32) : Option (Int32) :=
  f_Mo_isKept_70 nf si sa nf 0 s0
def f_Mo_isKept_66 (nf : Nat) (si : Nat → Int32) (sa : Nat → Nat → Int32) : Option (Int32) :=
  f_Mo_isKept_67 nf si sa 0
def f_Mo_isKept_59 (nf : Nat) (si : Nat → Int32) (sa : Nat → Nat → Int32) (s0 : Int32) (s1 : Int32) : Option (Int32) :=
  if s1 = s0 then
  f_Mo_isKept_67 nf si sa 1
  else
  f_Mo_isKept_66 nf si sa
def f_Mo_isKept_46 (nf : Nat) (si : Nat → Int32) (sa : Nat → Nat → Int32) (s0 : Int32) : Option (Int32) :=
  if (si 43) = (2 : Int32) then
  f_Mo_isKept_59 nf si sa 1 s0
  else
  f_Mo_isKept_59 nf si sa 0 s0
def f_Mo_isKept_0 (nf : Nat) (si : Nat → Int32) (sa : Nat → Nat → Int32) : Option (Int32) :=
  if (si 50) = (si 45) then
  if (si 51) = (si 46) then
    if (si 52) = (si 47) then
      if (si 49) = (2 : Int32) then
        f_Mo_isKept_46 nf si sa 1
        else
        f_Mo_isKept_46 nf si sa 0
      else
      f_Mo_isKept_66 nf si sa
    else
    f_Mo_isKept_66 nf si sa
  else
  f_Mo_isKept_66 nf si sa
def f_Mo_isKept (nf : Nat) (si : Nat → Int32) (sj : Nat → Int64) (sa : Nat → Nat → Int32) (sb : Nat → Nat → Int64) : Option (Int32) :=
  f_Mo_isKept_0 nf si sa
section
variable {p : Program} {l : Launch} {e : Env} {R : Room} {s : State} {m : MethodId} {args : Array Value} {below : List Frame} {meth : Method} {c : Code} {Q : State → Prop} {dC : Nat → ClassId} {dI : Nat → Nat → Nat} {nf : Nat} {A : Nat → Prop} {h0 : Nat} {r : Nat → Nat} {cA : Nat → ClassId}
variable {si : Nat → Int32} {sj : Nat → Int64} {sa : Nat → Nat → Int32} {sb : Nat → Nat → Int64} {r0 : Int32}
set_option maxHeartbeats 400000 in
set_option maxRecDepth 100000 in
theorem k_Mo_isKept_109 (C0 : Cx p s m meth c args R b_Mo_isKept "ZoneFilesModel" 3 (some .boolean) 0 0) (hST : ST (fun _ => False) s s.heap) (hK : va_K (dC, dI) classes (moT cA) s) (hP : va_P (dC, dI) classes (moW h0 r cA si sj sa sb) s.heap) (hE : ∀ (pc : Nat) (ls : Array Slot), decode b_Mo_isKept pc = .ok (.ireturn, 1) → narrow .boolean (.int r0) = .int r0 → W p l e R s m args below meth c s.heap [] 0 0 Q (F0 m pc ls [.int r0])) {x1 : Int32} (hf : f_Mo_isKept_109 nf x1 = some r0) {ls : Array Slot} (hl : lv_has ls 3 [(1, .int x1)]) : W p l e R s m args below meth c s.heap [] 0 0 Q (F0 m 109 ls []) := by
  obtain ⟨hx, hb, hr, hml, hown, hts, hlocks, hRf, hRl⟩ := id C0
  obtain ⟨tms, hZms, hTms, tmg, hZmg, hTmg, hNW⟩ := id hST
  unfold f_Mo_isKept_109 at hf
  refine lv_iload_n hx hb d_Mo_isKept_109 rfl (lv_at hl 0 rfl) ?_
  obtain ⟨c_3, hf⟩ := it_g hf
  cases rs hf
  exact hE _ _ d_Mo_isKept_110 (nb_of c_3)
set_option maxHeartbeats 400000 in
set_option maxRecDepth 100000 in
theorem k_Mo_isKept_102 (C0 : Cx p s m meth c args R b_Mo_isKept "ZoneFilesModel" 3 (some .boolean) 0 0) (hST : ST (fun _ => False) s s.heap) (hK : va_K (dC, dI) classes (moT cA) s) (hP : va_P (dC, dI) classes (moW h0 r cA si sj sa sb) s.heap) (hE : ∀ (pc : Nat) (ls : Array Slot), decode b_Mo_isKept pc = .ok (.ireturn, 1) → narrow .boolean (.int r0) = .int r0 → W p l e R s m args below meth c s.heap [] 0 0 Q (F0 m pc ls [.int r0])) {K70 : Int32 → Int32 → Option (Int32)} (hK70 : ∀ {x2 : Int32} {x1 : Int32}, K70 x2 x1 = some r0 → ∀ {ls : Array Slot}, lv_has ls 3 [(2, .int x2), (1, .int x1), (0, .ref h0)] → W p l e R s m args below meth c s.heap [] 0 0 Q (F0 m 70 ls [])) {x2 : Int32} {s0 : Int32} (hf : f_Mo_isKept_102 nf K70 x2 s0 = some r0) {ls : Array Slot} (hl : lv_has ls 3 [(2, .int x2), (0, .ref h0)]) : W p l e R s m args below meth c s.heap [] 0 0 Q (F0 m 102 ls [.int s0]) := by
  obtain ⟨hx, hb, hr, hml, hown, hts, hlocks, hRf, hRl⟩ := id C0
  obtain ⟨tms, hZms, hTms, tmg, hZmg, hTmg, hNW⟩ := id hST
  unfold f_Mo_isKept_102 at hf
  refine lv_istore_n (lv' := [(1, .int s0), (2, .int x2), (0, .ref h0)]) hx hb d_Mo_isKept_102 rfl hl (by decide) rfl (fun ls hl => ?_)
  refine lv_iinc (v := x2 + 1) (lv' := [(2, .int (x2 + 1)), (1, .int s0), (0, .ref h0)]) hx hb d_Mo_isKept_103 hl (k := 1) rfl rfl (by decide) rfl (fun ls hl => ?_)
  refine lv_goto (tgt := 70) hx hb d_Mo_isKept_106 (by decide) ?_
  exact hK70 hf (lv_sub hl [0, 1, 2] rfl)
set_option maxHeartbeats 400000 in
set_option maxRecDepth 100000 in
theorem k_Mo_isKept_70 (C0 : Cx p s m meth c args R b_Mo_isKept "ZoneFilesModel" 3 (some .boolean) 0 0) (hST : ST (fun _ => False) s s.heap) (hK : va_K (dC, dI) classes (moT cA) s) (hP : va_P (dC, dI) classes (moW h0 r cA si sj sa sb) s.heap) (hE : ∀ (pc : Nat) (ls : Array Slot), decode b_Mo_isKept pc = .ok (.ireturn, 1) → narrow .boolean (.int r0) = .int r0 → W p l e R s m args below meth c s.heap [] 0 0 Q (F0 m pc ls [.int r0])) : ∀ (n : Nat) {x2 : Int32} {x1 : Int32}, f_Mo_isKept_70 nf si sa n x2 x1 = some r0 → ∀ {ls : Array Slot}, lv_has ls 3 [(2, .int x2), (1, .int x1), (0, .ref h0)] → W p l e R s m args below meth c s.heap [] 0 0 Q (F0 m 70 ls []) := by
  obtain ⟨hx, hb, hr, hml, hown, hts, hlocks, hRf, hRl⟩ := id C0
  obtain ⟨tms, hZms, hTms, tmg, hZmg, hTmg, hNW⟩ := id hST
  intro n
  induction n with
  | zero =>
    intro x2 x1 hf
    exact absurd hf (by simp [f_Mo_isKept_70])
  | succ n ih =>
    intro x2 x1 hf ls hl
    unfold f_Mo_isKept_70 at hf
    refine lv_iload_n hx hb d_Mo_isKept_70 rfl (lv_at hl 0 rfl) ?_
    refine lv_aload_n hx hb d_Mo_isKept_71 rfl (lv_at hl 2 rfl) ?_
    refine mg_47 (v := si 47) hx hb hts hown hK hP rfl d_Mo_isKept_72 ?_
    refine lv_icmp_ge (tgt := 109) hx hb d_Mo_isKept_75 (by decide) (fun c_2 => ?_) (fun c_2 => ?_)
    · have hf := it_t c_2 hf
      exact k_Mo_isKept_109 C0 hST hK hP hE hf (lv_sub hl [1] rfl)
    · have hf := it_f c_2 hf
      refine lv_iload_n hx hb d_Mo_isKept_78 rfl (lv_at hl 1 rfl) ?_
      refine lv_if_eq (tgt := 109) hx hb d_Mo_isKept_79 (by decide) (fun c_4 => ?_) (fun c_4 => ?_)
      · have hf := it_t c_4 hf
        exact k_Mo_isKept_109 C0 hST hK hP hE hf (lv_sub hl [1] rfl)
      · have hf := it_f c_4 hf
        refine lv_aload_n hx hb d_Mo_isKept_82 rfl (lv_at hl 2 rfl) ?_
        refine mg_53 hx hb hts hown hK hP d_Mo_isKept_83 ?_
        refine lv_iload_n hx hb d_Mo_isKept_86 rfl (lv_at hl 0 rfl) ?_
        obtain ⟨c_5, hf⟩ := it_n hf
        refine ma_53 (v := sa 53 x2.toNatClampNeg) hx hb hK hP c_5 rfl d_Mo_isKept_87 ?_
        refine lv_aload_n hx hb d_Mo_isKept_88 rfl (lv_at hl 2 rfl) ?_
        refine mg_48 hx hb hts hown hK hP d_Mo_isKept_89 ?_
        refine lv_iload_n hx hb d_Mo_isKept_92 rfl (lv_at hl 0 rfl) ?_
        obtain ⟨c_6, hf⟩ := it_n hf
        refine ma_48 (v := sa 48 x2.toNatClampNeg) hx hb hK hP c_6 rfl d_Mo_isKept_93 ?_
        refine lv_icmp_ne (tgt := 101) hx hb d_Mo_isKept_94 (by decide) (fun c_7 => ?_) (fun c_7 => ?_)
        · have hf := it_f c_7 hf
          refine lv_iconst (v := 0) hx hb d_Mo_isKept_101 (by decide) ?_
          exact k_Mo_isKept_102 C0 hST hK hP hE (fun hf => ih hf) hf (lv_sub hl [0, 2] rfl)
        · have hf := it_t c_7 hf
          refine lv_iconst (v := 1) hx hb d_Mo_isKept_97 (by decide) ?_
          refine lv_goto (tgt := 102) hx hb d_Mo_isKept_98 (by decide) ?_
          exact k_Mo_isKept_102 C0 hST hK hP hE (fun hf => ih hf) hf (lv_sub hl [0, 2] rfl)
set_option maxHeartbeats 400000 in
set_option maxRecDepth 100000 in
theorem k_Mo_isKept_67 (C0 : Cx p s m meth c args R b_Mo_isKept "ZoneFilesModel" 3 (some .boolean) 0 0) (hST : ST (fun _ => False) s s.heap) (hK : va_K (dC, dI) classes (moT cA) s) (hP : va_P (dC, dI) classes (moW h0 r cA si sj sa sb) s.heap) (hE : ∀ (pc : Nat) (ls : Array Slot), decode b_Mo_isKept pc = .ok (.ireturn, 1) → narrow .boolean (.int r0) = .int r0 → W p l e R s m args below meth c s.heap [] 0 0 Q (F0 m pc ls [.int r0])) {s0 : Int32} (hf : f_Mo_isKept_67 nf si sa s0 = some r0) {ls : Array Slot} (hl : lv_has ls 3 [(0, .ref h0)]) : W p l e R s m args below meth c s.heap [] 0 0 Q (F0 m 67 ls [.int s0]) := by
  obtain ⟨hx, hb, hr, hml, hown, hts, hlocks, hRf, hRl⟩ := id C0
  obtain ⟨tms, hZms, hTms, tmg, hZmg, hTmg, hNW⟩ := id hST
  unfold f_Mo_isKept_67 at hf
  refine lv_istore_n (lv' := [(1, .int s0), (0, .ref h0)]) hx hb d_Mo_isKept_67 rfl hl (by decide) rfl (fun ls hl => ?_)
  refine lv_iconst (v := 0) hx hb d_Mo_isKept_68 (by decide) ?_
  refine lv_istore_n (lv' := [(2, .int 0), (1, .int s0), (0, .ref h0)]) hx hb d_Mo_isKept_69 rfl hl (by decide) rfl (fun ls hl => ?_)
  exact k_Mo_isKept_70 C0 hST hK hP hE nf hf (lv_sub hl [0, 1, 2] rfl)
set_option maxHeartbeats 400000 in
set_option maxRecDepth 100000 in
theorem k_Mo_isKept_66 (C0 : Cx p s m meth c args R b_Mo_isKept "ZoneFilesModel" 3 (some .boolean) 0 0) (hST : ST (fun _ => False) s s.heap) (hK : va_K (dC, dI) classes (moT cA) s) (hP : va_P (dC, dI) classes (moW h0 r cA si sj sa sb) s.heap) (hE : ∀ (pc : Nat) (ls : Array Slot), decode b_Mo_isKept pc = .ok (.ireturn, 1) → narrow .boolean (.int r0) = .int r0 → W p l e R s m args below meth c s.heap [] 0 0 Q (F0 m pc ls [.int r0])) (hf : f_Mo_isKept_66 nf si sa = some r0) {ls : Array Slot} (hl : lv_has ls 3 [(0, .ref h0)]) : W p l e R s m args below meth c s.heap [] 0 0 Q (F0 m 66 ls []) := by
  obtain ⟨hx, hb, hr, hml, hown, hts, hlocks, hRf, hRl⟩ := id C0
  obtain ⟨tms, hZms, hTms, tmg, hZmg, hTmg, hNW⟩ := id hST
  unfold f_Mo_isKept_66 at hf
  refine lv_iconst (v := 0) hx hb d_Mo_isKept_66 (by decide) ?_
  exact k_Mo_isKept_67 C0 hST hK hP hE hf (lv_sub hl [0] rfl)
set_option maxHeartbeats 400000 in
set_option maxRecDepth 100000 in
theorem k_Mo_isKept_59 (C0 : Cx p s m meth c args R b_Mo_isKept "ZoneFilesModel" 3 (some .boolean) 0 0) (hST : ST (fun _ => False) s s.heap) (hK : va_K (dC, dI) classes (moT cA) s) (hP : va_P (dC, dI) classes (moW h0 r cA si sj sa sb) s.heap) (hE : ∀ (pc : Nat) (ls : Array Slot), decode b_Mo_isKept pc = .ok (.ireturn, 1) → narrow .boolean (.int r0) = .int r0 → W p l e R s m args below meth c s.heap [] 0 0 Q (F0 m pc ls [.int r0])) {s0 : Int32} {s1 : Int32} (hf : f_Mo_isKept_59 nf si sa s0 s1 = some r0) {ls : Array Slot} (hl : lv_has ls 3 [(0, .ref h0)]) : W p l e R s m args below meth c s.heap [] 0 0 Q (F0 m 59 ls [.int s0, .int s1]) := by
  obtain ⟨hx, hb, hr, hml, hown, hts, hlocks, hRf, hRl⟩ := id C0
  obtain ⟨tms, hZms, hTms, tmg, hZmg, hTmg, hNW⟩ := id hST
  unfold f_Mo_isKept_59 at hf
  refine lv_icmp_ne (tgt := 66) hx hb d_Mo_isKept_59 (by decide) (fun c_12 => ?_) (fun c_12 => ?_)
  · have hf := it_f c_12 hf
    exact k_Mo_isKept_66 C0 hST hK hP hE hf (lv_sub hl [0] rfl)
  · have hf := it_t c_12 hf
    refine lv_iconst (v := 1) hx hb d_Mo_isKept_62 (by decide) ?_
    refine lv_goto (tgt := 67) hx hb d_Mo_isKept_63 (by decide) ?_
    exact k_Mo_isKept_67 C0 hST hK hP hE hf (lv_sub hl [0] rfl)
set_option maxHeartbeats 400000 in
set_option maxRecDepth 100000 in
theorem k_Mo_isKept_46 (C0 : Cx p s m meth c args R b_Mo_isKept "ZoneFilesModel" 3 (some .boolean) 0 0) (hST : ST (fun _ => False) s s.heap) (hK : va_K (dC, dI) classes (moT cA) s) (hP : va_P (dC, dI) classes (moW h0 r cA si sj sa sb) s.heap) (hE : ∀ (pc : Nat) (ls : Array Slot), decode b_Mo_isKept pc = .ok (.ireturn, 1) → narrow .boolean (.int r0) = .int r0 → W p l e R s m args below meth c s.heap [] 0 0 Q (F0 m pc ls [.int r0])) {s0 : Int32} (hf : f_Mo_isKept_46 nf si sa s0 = some r0) {ls : Array Slot} (hl : lv_has ls 3 [(0, .ref h0)]) : W p l e R s m args below meth c s.heap [] 0 0 Q (F0 m 46 ls [.int s0]) := by
  obtain ⟨hx, hb, hr, hml, hown, hts, hlocks, hRf, hRl⟩ := id C0
  obtain ⟨tms, hZms, hTms, tmg, hZmg, hTmg, hNW⟩ := id hST
  unfold f_Mo_isKept_46 at hf
  refine lv_aload_n hx hb d_Mo_isKept_46 rfl (lv_at hl 0 rfl) ?_
  refine mg_43 (v := si 43) hx hb hts hown hK hP rfl d_Mo_isKept_47 ?_
  refine lv_iconst (v := 2) hx hb d_Mo_isKept_50 (by decide) ?_
  refine lv_icmp_ne (tgt := 58) hx hb d_Mo_isKept_51 (by decide) (fun c_11 => ?_) (fun c_11 => ?_)
  · have hf := it_f c_11 hf
    refine lv_iconst (v := 0) hx hb d_Mo_isKept_58 (by decide) ?_
    exact k_Mo_isKept_59 C0 hST hK hP hE hf (lv_sub hl [0] rfl)
  · have hf := it_t c_11 hf
    refine lv_iconst (v := 1) hx hb d_Mo_isKept_54 (by decide) ?_
    refine lv_goto (tgt := 59) hx hb d_Mo_isKept_55 (by decide) ?_
    exact k_Mo_isKept_59 C0 hST hK hP hE hf (lv_sub hl [0] rfl)
set_option maxHeartbeats 400000 in
set_option maxRecDepth 100000 in
theorem k_Mo_isKept_0 (C0 : Cx p s m meth c args R b_Mo_isKept "ZoneFilesModel" 3 (some .boolean) 0 0) (hST : ST (fun _ => False) s s.heap) (hK : va_K (dC, dI) classes (moT cA) s) (hP : va_P (dC, dI) classes (moW h0 r cA si sj sa sb) s.heap) (hE : ∀ (pc : Nat) (ls : Array Slot), decode b_Mo_isKept pc = .ok (.ireturn, 1) → narrow .boolean (.int r0) = .int r0 → W p l e R s m args below meth c s.heap [] 0 0 Q (F0 m pc ls [.int r0])) (hf : f_Mo_isKept_0 nf si sa = some r0) {ls : Array Slot} (hl : lv_has ls 3 [(0, .ref h0)]) : W p l e R s m args below meth c s.heap [] 0 0 Q (F0 m 0 ls []) := by
  obtain ⟨hx, hb, hr, hml, hown, hts, hlocks, hRf, hRl⟩ := id C0
  obtain ⟨tms, hZms, hTms, tmg, hZmg, hTmg, hNW⟩ := id hST
  unfold f_Mo_isKept_0 at hf
  refine lv_aload_n hx hb d_Mo_isKept_0 rfl (lv_at hl 0 rfl) ?_
  refine mg_50 (v := si 50) hx hb hts hown hK hP rfl d_Mo_isKept_1 ?_
  refine lv_aload_n hx hb d_Mo_isKept_4 rfl (lv_at hl 0 rfl) ?_
  refine mg_45 (v := si 45) hx hb hts hown hK hP rfl d_Mo_isKept_5 ?_
  refine lv_icmp_ne (tgt := 66) hx hb d_Mo_isKept_8 (by decide) (fun c_1 => ?_) (fun c_1 => ?_)
  · have hf := it_f c_1 hf
    exact k_Mo_isKept_66 C0 hST hK hP hE hf (lv_sub hl [0] rfl)
  · have hf := it_t c_1 hf
    refine lv_aload_n hx hb d_Mo_isKept_11 rfl (lv_at hl 0 rfl) ?_
    refine mg_51 (v := si 51) hx hb hts hown hK hP rfl d_Mo_isKept_12 ?_
    refine lv_aload_n hx hb d_Mo_isKept_15 rfl (lv_at hl 0 rfl) ?_
    refine mg_46 (v := si 46) hx hb hts hown hK hP rfl d_Mo_isKept_16 ?_
    refine lv_icmp_ne (tgt := 66) hx hb d_Mo_isKept_19 (by decide) (fun c_8 => ?_) (fun c_8 => ?_)
    · have hf := it_f c_8 hf
      exact k_Mo_isKept_66 C0 hST hK hP hE hf (lv_sub hl [0] rfl)
    · have hf := it_t c_8 hf
      refine lv_aload_n hx hb d_Mo_isKept_22 rfl (lv_at hl 0 rfl) ?_
      refine mg_52 (v := si 52) hx hb hts hown hK hP rfl d_Mo_isKept_23 ?_
      refine lv_aload_n hx hb d_Mo_isKept_26 rfl (lv_at hl 0 rfl) ?_
      refine mg_47 (v := si 47) hx hb hts hown hK hP rfl d_Mo_isKept_27 ?_
      refine lv_icmp_ne (tgt := 66) hx hb d_Mo_isKept_30 (by decide) (fun c_9 => ?_) (fun c_9 => ?_)
      · have hf := it_f c_9 hf
        exact k_Mo_isKept_66 C0 hST hK hP hE hf (lv_sub hl [0] rfl)
      · have hf := it_t c_9 hf
        refine lv_aload_n hx hb d_Mo_isKept_33 rfl (lv_at hl 0 rfl) ?_
        refine mg_49 (v := si 49) hx hb hts hown hK hP rfl d_Mo_isKept_34 ?_
        refine lv_iconst (v := 2) hx hb d_Mo_isKept_37 (by decide) ?_
        refine lv_icmp_ne (tgt := 45) hx hb d_Mo_isKept_38 (by decide) (fun c_10 => ?_) (fun c_10 => ?_)
        · have hf := it_f c_10 hf
          refine lv_iconst (v := 0) hx hb d_Mo_isKept_45 (by decide) ?_
          exact k_Mo_isKept_46 C0 hST hK hP hE hf (lv_sub hl [0] rfl)
        · have hf := it_t c_10 hf
          refine lv_iconst (v := 1) hx hb d_Mo_isKept_41 (by decide) ?_
          refine lv_goto (tgt := 46) hx hb d_Mo_isKept_42 (by decide) ?_
          exact k_Mo_isKept_46 C0 hST hK hP hE hf (lv_sub hl [0] rfl)
end
set_option maxHeartbeats 400000 in
set_option maxRecDepth 100000 in
theorem c_Mo_isKept (l : Launch) (dC : Nat → ClassId) (dI : Nat → Nat → Nat) (h0 : Nat) (r : Nat → Nat) (cA : Nat → ClassId) (nf : Nat) (si : Nat → Int32) (sj : Nat → Int64) (sa : Nat → Nat → Int32) (sb : Nat → Nat → Int64) {r0 : Int32} (hf : f_Mo_isKept nf si sj sa sb = some r0) : Met l y_Mo_isKept (wd y_Mo_isKept b_Mo_isKept 3 (some .boolean)) ({ frames := 0, cells := 0, slots := 0, locals := 0 }) (RO dC dI (moW h0 r cA si sj sa sb) (moT cA) [.ref h0]) (SV (some (.int r0))) 0 0 (fun _ => False) :=
  met_S (plainFor_of_name (by decide)) (Nat.le_of_ble_eq_true rfl) (fun p e R s m args below meth c ls C0 hST hK hP hl => by
    obtain ⟨hx, hb, hr, hml, hown, hts, hlocks, hRf, hRl⟩ := id C0
    unfold f_Mo_isKept at hf
    exact k_Mo_isKept_0 C0 hST hK hP (fun pc ls hd hn => W.zret hx hb hr hn (fun t ht hW => ⟨rfl, ht⟩) (fun q h => by cases h) hd) hf (lv_sub hl [0] rfl))
-- ZoneFilesModel.keep()V
def f_Mo_keep_34 (nf : Nat) : Nat → Int32 → (Nat → Int32) → (Nat → Int64) → (Nat → Nat → Int32) → (Nat → Nat → Int64) → Option ((Nat → Int32) × (Nat → Int64) × (Nat → Nat → Int32) × (Nat → Nat → Int64))
  | 0, _, _, _, _, _ => none
  | n + 1, x1, si, sj, sa, sb =>
    if (si 47) ≤ x1 then
    some (si, sj, sa, sb)
    else
    if x1 < 0 ∨ 10 ≤ x1.toNatClampNeg then none else
      if x1 < 0 ∨ 10 ≤ x1.toNatClampNeg then none else
      f_Mo_keep_34 nf n (x1 + 1) si sj (va_up sa 53 (upd (sa 53) x1.toNatClampNeg (sa 48 x1.toNatClampNeg))) sb
def f_Mo_keep_0 (nf : Nat) (si : Nat → Int32) (sj : Nat → Int64) (sa : Nat → Nat → Int32) (sb : Nat → Nat → Int64) : Option ((Nat → Int32) × (Nat → Int64) × (Nat → Nat → Int32) × (Nat → Nat → Int64)) :=
  f_Mo_keep_34 nf nf 0 (va_up (va_up (va_up (va_up si 49 (si 43)) 50 (si 45)) 51 (si 46)) 52 (si 47)) sj sa sb
def f_Mo_keep (nf : Nat) (si : Nat → Int32) (sj : Nat → Int64) (sa : Nat → Nat → Int32) (sb : Nat → Nat → Int64) : Option ((Nat → Int32) × (Nat → Int64) × (Nat → Nat → Int32) × (Nat → Nat → Int64)) :=
  f_Mo_keep_0 nf si sj sa sb
section
variable {p : Program} {l : Launch} {e : Env} {R : Room} {s : State} {m : MethodId} {args : Array Value} {below : List Frame} {meth : Method} {c : Code} {Q : State → Prop} {dC : Nat → ClassId} {dI : Nat → Nat → Nat} {nf : Nat} {A : Nat → Prop} {h0 : Nat} {r : Nat → Nat} {cA : Nat → ClassId}
variable {vi : Nat → Int32} {vj : Nat → Int64} {va : Nat → Nat → Int32} {vb : Nat → Nat → Int64}
set_option maxHeartbeats 400000 in
set_option maxRecDepth 100000 in
theorem k_Mo_keep_34 (C0 : Cx p s m meth c args R b_Mo_keep "ZoneFilesModel" 2 none 0 0) (hST : ST A s s.heap) (hA : ∀ q, s.heap.size ≤ q → A q) (hK : va_K (dC, dI) classes (moT cA) s) (hE : ∀ (pc : Nat) (ls : Array Slot) (H : Heap) (locs : List Loc), decode b_Mo_keep pc = .ok (.return_, 1) → va_P (dC, dI) classes (moW h0 r cA vi vj va vb) H → va_D A (moW h0 r cA vi vj va vb) → va_S A s.heap H locs → W p l e R s m args below meth c H locs 0 0 Q (F0 m pc ls [])) : ∀ (n : Nat) {x1 : Int32} {si : Nat → Int32} {sj : Nat → Int64} {sa : Nat → Nat → Int32} {sb : Nat → Nat → Int64}, f_Mo_keep_34 nf n x1 si sj sa sb = some (vi, vj, va, vb) → ∀ {H : Heap} {locs : List Loc} {ls : Array Slot}, va_P (dC, dI) classes (moW h0 r cA si sj sa sb) H → va_D A (moW h0 r cA si sj sa sb) → va_S A s.heap H locs → lv_has ls 2 [(1, .int x1), (0, .ref h0)] → W p l e R s m args below meth c H locs 0 0 Q (F0 m 34 ls []) := by
  obtain ⟨hx, hb, hr, hml, hown, hts, hlocks, hRf, hRl⟩ := id C0
  intro n
  induction n with
  | zero =>
    intro x1 si sj sa sb hf
    exact absurd hf (by simp [f_Mo_keep_34])
  | succ n ih =>
    intro x1 si sj sa sb hf H locs ls hP hD hS hl
    unfold f_Mo_keep_34 at hf
    refine lv_iload_n hx hb d_Mo_keep_34 rfl (lv_at hl 0 rfl) ?_
    refine lv_aload_n hx hb d_Mo_keep_35 rfl (lv_at hl 1 rfl) ?_
    refine mg_47 (v := si 47) hx hb hts hown hK hP rfl d_Mo_keep_36 ?_
    refine lv_icmp_ge (tgt := 60) hx hb d_Mo_keep_39 (by decide) (fun c_1 => ?_) (fun c_1 => ?_)
    · have hf := it_t c_1 hf
      cases rs hf
      exact hE _ _ _ _ d_Mo_keep_60 hP hD hS
    · have hf := it_f c_1 hf
      refine lv_aload_n hx hb d_Mo_keep_42 rfl (lv_at hl 1 rfl) ?_
      refine mg_53 hx hb hts hown hK hP d_Mo_keep_43 ?_
      refine lv_iload_n hx hb d_Mo_keep_46 rfl (lv_at hl 0 rfl) ?_
      refine lv_aload_n hx hb d_Mo_keep_47 rfl (lv_at hl 1 rfl) ?_
      refine mg_48 hx hb hts hown hK hP d_Mo_keep_48 ?_
      refine lv_iload_n hx hb d_Mo_keep_51 rfl (lv_at hl 0 rfl) ?_
      obtain ⟨c_2, hf⟩ := it_n hf
      refine ma_48 (v := sa 48 x1.toNatClampNeg) hx hb hK hP c_2 rfl d_Mo_keep_52 ?_
      obtain ⟨c_3, hf⟩ := it_n hf
      refine mz_53 hx hb hK hP hD hS c_3 d_Mo_keep_53 (fun H locs hP hD hS => ?_)
      refine lv_iinc (v := x1 + 1) (lv' := [(1, .int (x1 + 1)), (0, .ref h0)]) hx hb d_Mo_keep_54 hl (k := 0) rfl rfl (by decide) rfl (fun ls hl => ?_)
      refine lv_goto (tgt := 34) hx hb d_Mo_keep_57 (by decide) ?_
      exact ih hf hP hD hS (lv_sub hl [0, 1] rfl)
set_option maxHeartbeats 400000 in
set_option maxRecDepth 100000 in
theorem k_Mo_keep_0 (C0 : Cx p s m meth c args R b_Mo_keep "ZoneFilesModel" 2 none 0 0) (hST : ST A s s.heap) (hA : ∀ q, s.heap.size ≤ q → A q) (hK : va_K (dC, dI) classes (moT cA) s) (hE : ∀ (pc : Nat) (ls : Array Slot) (H : Heap) (locs : List Loc), decode b_Mo_keep pc = .ok (.return_, 1) → va_P (dC, dI) classes (moW h0 r cA vi vj va vb) H → va_D A (moW h0 r cA vi vj va vb) → va_S A s.heap H locs → W p l e R s m args below meth c H locs 0 0 Q (F0 m pc ls [])) {si : Nat → Int32} {sj : Nat → Int64} {sa : Nat → Nat → Int32} {sb : Nat → Nat → Int64} (hf : f_Mo_keep_0 nf si sj sa sb = some (vi, vj, va, vb)) {H : Heap} {locs : List Loc} {ls : Array Slot} (hP : va_P (dC, dI) classes (moW h0 r cA si sj sa sb) H) (hD : va_D A (moW h0 r cA si sj sa sb)) (hS : va_S A s.heap H locs) (hl : lv_has ls 2 [(0, .ref h0)]) : W p l e R s m args below meth c H locs 0 0 Q (F0 m 0 ls []) := by
  obtain ⟨hx, hb, hr, hml, hown, hts, hlocks, hRf, hRl⟩ := id C0
  unfold f_Mo_keep_0 at hf
  refine lv_aload_n hx hb d_Mo_keep_0 rfl (lv_at hl 0 rfl) ?_
  refine lv_aload_n hx hb d_Mo_keep_1 rfl (lv_at hl 0 rfl) ?_
  refine mg_43 (v := si 43) hx hb hts hown hK hP rfl d_Mo_keep_2 ?_
  refine mp_49 hx hb hts hown hK hP hD hS d_Mo_keep_5 (fun H locs hP hD hS => ?_)
  refine lv_aload_n hx hb d_Mo_keep_8 rfl (lv_at hl 0 rfl) ?_
  refine lv_aload_n hx hb d_Mo_keep_9 rfl (lv_at hl 0 rfl) ?_
  refine mg_45 (v := si 45) hx hb hts hown hK hP rfl d_Mo_keep_10 ?_
  refine mp_50 hx hb hts hown hK hP hD hS d_Mo_keep_13 (fun H locs hP hD hS => ?_)
  refine lv_aload_n hx hb d_Mo_keep_16 rfl (lv_at hl 0 rfl) ?_
  refine lv_aload_n hx hb d_Mo_keep_17 rfl (lv_at hl 0 rfl) ?_
  refine mg_46 (v := si 46) hx hb hts hown hK hP rfl d_Mo_keep_18 ?_
  refine mp_51 hx hb hts hown hK hP hD hS d_Mo_keep_21 (fun H locs hP hD hS => ?_)
  refine lv_aload_n hx hb d_Mo_keep_24 rfl (lv_at hl 0 rfl) ?_
  refine lv_aload_n hx hb d_Mo_keep_25 rfl (lv_at hl 0 rfl) ?_
  refine mg_47 (v := si 47) hx hb hts hown hK hP rfl d_Mo_keep_26 ?_
  refine mp_52 hx hb hts hown hK hP hD hS d_Mo_keep_29 (fun H locs hP hD hS => ?_)
  refine lv_iconst (v := 0) hx hb d_Mo_keep_32 (by decide) ?_
  refine lv_istore_n (lv' := [(1, .int 0), (0, .ref h0)]) hx hb d_Mo_keep_33 rfl hl (by decide) rfl (fun ls hl => ?_)
  exact k_Mo_keep_34 C0 hST hA hK hE nf hf hP hD hS (lv_sub hl [0, 1] rfl)
end
set_option maxHeartbeats 400000 in
set_option maxRecDepth 100000 in
theorem c_Mo_keep (l : Launch) (dC : Nat → ClassId) (dI : Nat → Nat → Nat) (h0 : Nat) (r : Nat → Nat) (cA : Nat → ClassId) (sz : Nat) (nf : Nat) (si : Nat → Int32) (sj : Nat → Int64) (sa : Nat → Nat → Int32) (sb : Nat → Nat → Int64) {vi : Nat → Int32} {vj : Nat → Int64} {va : Nat → Nat → Int32} {vb : Nat → Nat → Int64} (hf : f_Mo_keep nf si sj sa sb = some (vi, vj, va, vb)) : Met l y_Mo_keep (wd y_Mo_keep b_Mo_keep 2 none) ({ frames := 0, cells := 0, slots := 0, locals := 0 }) (MU dC dI (moW h0 r cA si sj sa sb) (moT cA) sz [.ref h0]) (MV none (fun t => va_P (dC, dI) classes (moW h0 r cA vi vj va vb) t.heap) (va_A (moW h0 r cA si sj sa sb) sz)) 0 0 (va_A (moW h0 r cA si sj sa sb) sz) :=
  met_M (plainFor_of_name (by decide)) (Nat.le_of_ble_eq_true rfl) (fun p e R s m args below meth c ls hRc hRs hsz hin C0 hST hK hP hD hl => by
    obtain ⟨hx, hb, hr, hml, hown, hts, hlocks, hRf, hRl⟩ := id C0
    subst hsz
    have hA : ∀ q : Nat, s.heap.size ≤ q → va_A (moW h0 r cA si sj sa sb) s.heap.size q := fun q h => Or.inr h
    have hS : va_S (va_A (moW h0 r cA si sj sa sb) s.heap.size) s.heap s.heap [] := va_S.rf
    unfold f_Mo_keep at hf
    exact k_Mo_keep_0 C0 hST hA hK (fun pc ls H locs hd hP hD hS => W.vret hx hb hr (fun t ht hW => ⟨⟨rfl, mo_end ht hP⟩, hS.F ht⟩) hS.2.2 hd) hf hP hD hS (lv_sub hl [0] rfl))
-- ZoneFilesModel.isContinued()Z
def f_Mo_isContinued_0 (nf : Nat) (si : Nat → Int32) (sj : Nat → Int64) (sa : Nat → Nat → Int32) (sb : Nat → Nat → Int64) : Option (Int32 × (Nat → Int32) × (Nat → Int64) × (Nat → Nat → Int32) × (Nat → Nat → Int64)) :=
  if (4 : Int32) < 0 ∨ 5 ≤ (4 : Int32).toNatClampNeg then none else
  if (((200 * 4) + (sa 5 (4 : Int32).toNatClampNeg)) - 1) < 0 ∨ 1000 ≤ (((200 * 4) + (sa 5 (4 : Int32).toNatClampNeg)) - 1).toNatClampNeg then none else
  (f_Mo_byType nf 4 (sa 13 (((200 * 4) + (sa 5 (4 : Int32).toNatClampNeg)) - 1).toNatClampNeg) si sj sa sb).bind fun (i_3, j_4, a_5, b_6) =>
  (f_Mo_keep nf i_3 j_4 a_5 b_6).bind fun (i_7, j_8, a_9, b_10) =>
  if (((200 * 4) + (sa 5 (4 : Int32).toNatClampNeg)) - 1) < 0 ∨ 1000 ≤ (((200 * 4) + (sa 5 (4 : Int32).toNatClampNeg)) - 1).toNatClampNeg then none else
  (f_Mo_byRule nf 4 (b_10 12 (((200 * 4) + (sa 5 (4 : Int32).toNatClampNeg)) - 1).toNatClampNeg) i_7 j_8 a_9 b_10).bind fun (i_12, j_13, a_14, b_15) =>
  (f_Mo_isKept nf i_12 j_13 a_14 b_15).bind fun r_16 =>
  if r_16 = 0 ∨ r_16 = 1 then some (r_16, i_12, j_13, a_14, b_15) else none
def f_Mo_isContinued (nf : Nat) (si : Nat → Int32) (sj : Nat → Int64) (sa : Nat → Nat → Int32) (sb : Nat → Nat → Int64) : Option (Int32 × (Nat → Int32) × (Nat → Int64) × (Nat → Nat → Int32) × (Nat → Nat → Int64)) :=
  f_Mo_isContinued_0 nf si sj sa sb
section
variable {p : Program} {l : Launch} {e : Env} {R : Room} {s : State} {m : MethodId} {args : Array Value} {below : List Frame} {meth : Method} {c : Code} {Q : State → Prop} {dC : Nat → ClassId} {dI : Nat → Nat → Nat} {nf : Nat} {A : Nat → Prop} {h0 : Nat} {r : Nat → Nat} {cA : Nat → ClassId}
variable {r0 : Int32} {vi : Nat → Int32} {vj : Nat → Int64} {va : Nat → Nat → Int32} {vb : Nat → Nat → Int64}
set_option maxHeartbeats 400000 in
set_option maxRecDepth 100000 in
theorem k_Mo_isContinued_0 (C0 : Cx p s m meth c args R b_Mo_isContinued "ZoneFilesModel" 3 (some .boolean) 7 179) (hST : ST A s s.heap) (hA : ∀ q, s.heap.size ≤ q → A q) (hK : va_K (dC, dI) classes (moT cA) s) (hE : ∀ (pc : Nat) (ls : Array Slot) (H : Heap) (locs : List Loc), decode b_Mo_isContinued pc = .ok (.ireturn, 1) → narrow .boolean (.int r0) = .int r0 → va_P (dC, dI) classes (moW h0 r cA vi vj va vb) H → va_D A (moW h0 r cA vi vj va vb) → va_S A s.heap H locs → W p l e R s m args below meth c H locs 0 0 Q (F0 m pc ls [.int r0])) {si : Nat → Int32} {sj : Nat → Int64} {sa : Nat → Nat → Int32} {sb : Nat → Nat → Int64} (hf : f_Mo_isContinued_0 nf si sj sa sb = some (r0, vi, vj, va, vb)) {H : Heap} {locs : List Loc} {ls : Array Slot} (hP : va_P (dC, dI) classes (moW h0 r cA si sj sa sb) H) (hD : va_D A (moW h0 r cA si sj sa sb)) (hS : va_S A s.heap H locs) (hl : lv_has ls 3 [(0, .ref h0)]) : W p l e R s m args below meth c H locs 0 0 Q (F0 m 0 ls []) := by
  obtain ⟨hx, hb, hr, hml, hown, hts, hlocks, hRf, hRl⟩ := id C0
  unfold f_Mo_isContinued_0 at hf
  refine lv_iconst (v := 4) hx hb d_Mo_isContinued_0 (by decide) ?_
  refine lv_istore_n (lv' := [(1, .int 4), (0, .ref h0)]) hx hb d_Mo_isContinued_1 rfl hl (by decide) rfl (fun ls hl => ?_)
  refine lv_sipush (v := 200) hx hb d_Mo_isContinued_2 (by decide) ?_
  refine lv_iload_n hx hb d_Mo_isContinued_5 rfl (lv_at hl 0 rfl) ?_
  refine lv_imul hx hb d_Mo_isContinued_6 ?_
  refine lv_aload_n hx hb d_Mo_isContinued_7 rfl (lv_at hl 1 rfl) ?_
  refine mg_5 hx hb hts hown hK hP d_Mo_isContinued_8 ?_
  refine lv_iload_n hx hb d_Mo_isContinued_11 rfl (lv_at hl 0 rfl) ?_
  obtain ⟨c_1, hf⟩ := it_n hf
  refine ma_5 (v := sa 5 (4 : Int32).toNatClampNeg) hx hb hK hP c_1 rfl d_Mo_isContinued_12 ?_
  refine lv_iadd hx hb d_Mo_isContinued_13 ?_
  refine lv_iconst (v := 1) hx hb d_Mo_isContinued_14 (by decide) ?_
  refine lv_isub hx hb d_Mo_isContinued_15 ?_
  refine lv_istore_n (lv' := [(2, .int (((200 * 4) + (sa 5 (4 : Int32).toNatClampNeg)) - 1)), (1, .int 4), (0, .ref h0)]) hx hb d_Mo_isContinued_16 rfl hl (by decide) rfl (fun ls hl => ?_)
  refine lv_aload_n hx hb d_Mo_isContinued_17 rfl (lv_at hl 2 rfl) ?_
  refine lv_iload_n hx hb d_Mo_isContinued_18 rfl (lv_at hl 1 rfl) ?_
  refine lv_aload_n hx hb d_Mo_isContinued_19 rfl (lv_at hl 2 rfl) ?_
  refine mg_13 hx hb hts hown hK hP d_Mo_isContinued_20 ?_
  refine lv_iload_n hx hb d_Mo_isContinued_23 rfl (lv_at hl 0 rfl) ?_
  obtain ⟨c_2, hf⟩ := it_n hf
  refine ma_13 (v := sa 13 (((200 * 4) + (sa 5 (4 : Int32).toNatClampNeg)) - 1).toNatClampNeg) hx hb hK hP c_2 rfl d_Mo_isContinued_24 ?_
  obtain ⟨⟨i_3, j_4, a_5, b_6⟩, hc, hf⟩ := ob hf
  have hFc := mo_free hD hS hA
  refine cl_M (v := none) (st1 := []) (va_runV (As := [.int 4, .int (sa 13 (((200 * 4) + (sa 5 (4 : Int32).toNatClampNeg)) - 1).toNatClampNeg)]) (rest := []) ⟨hx, hb, hml, hown, hts⟩ (c_Mo_byType l dC dI h0 r cA H.size nf 4 (sa 13 (((200 * 4) + (sa 5 (4 : Int32).toNatClampNeg)) - 1).toNatClampNeg) si sj sa sb hc) (cwV 2 hts (gdV m_7_200 m_7_202 msel_73 m_1_10 m_7_203) rfl rfl rfl (by decide +kernel) ⟨Nat.le_trans (Nat.le_of_ble_eq_true rfl) hRf, Nat.le_trans (Nat.le_of_ble_eq_true rfl) hRl⟩) ((MU.pre hP hK hD (hST.mu hS hFc)).vir (va_recv hK hP (ci := 10) (q0 := 0) rfl rfl)) rfl rfl hl.1 rfl (lv_room (Nat.le_of_ble_eq_true rfl)) d_Mo_isContinued_25 ⟨Nat.zero_le _, Nat.zero_le _⟩) rfl hS (fun q _ h => hFc q h) hFc (fun t H1 locs ht hvm hB hz1 hk1 hS => ?_)
  obtain ⟨hP, hD⟩ := mo_back ht hD hB
  generalize H1 = H at hP hS ⊢
  refine lv_aload_n hx hb d_Mo_isContinued_28 rfl (lv_at hl 2 rfl) ?_
  obtain ⟨⟨i_7, j_8, a_9, b_10⟩, hc, hf⟩ := ob hf
  have hFc := mo_free hD hS hA
  refine cl_M (v := none) (st1 := []) (va_runV (As := []) (rest := []) ⟨hx, hb, hml, hown, hts⟩ (c_Mo_keep l dC dI h0 r cA H.size nf i_3 j_4 a_5 b_6 hc) (cwV 0 hts (gdV m_7_204 m_7_206 msel_74 m_1_10 m_7_207) rfl rfl rfl (by decide +kernel) ⟨Nat.le_trans (Nat.le_of_ble_eq_true rfl) hRf, Nat.le_trans (Nat.le_of_ble_eq_true rfl) hRl⟩) ((MU.pre hP hK hD (hST.mu hS hFc)).vir (va_recv hK hP (ci := 10) (q0 := 0) rfl rfl)) rfl rfl hl.1 rfl (lv_room (Nat.le_of_ble_eq_true rfl)) d_Mo_isContinued_29 ⟨Nat.zero_le _, Nat.zero_le _⟩) rfl hS (fun q _ h => hFc q h) hFc (fun t H1 locs ht hvm hB hz1 hk1 hS => ?_)
  obtain ⟨hP, hD⟩ := mo_back ht hD hB
  generalize H1 = H at hP hS ⊢
  refine lv_aload_n hx hb d_Mo_isContinued_32 rfl (lv_at hl 2 rfl) ?_
  refine lv_iload_n hx hb d_Mo_isContinued_33 rfl (lv_at hl 1 rfl) ?_
  refine lv_aload_n hx hb d_Mo_isContinued_34 rfl (lv_at hl 2 rfl) ?_
  refine mg_12 hx hb hts hown hK hP d_Mo_isContinued_35 ?_
  refine lv_iload_n hx hb d_Mo_isContinued_38 rfl (lv_at hl 0 rfl) ?_
  obtain ⟨c_11, hf⟩ := it_n hf
  refine ma_12 (v := b_10 12 (((200 * 4) + (sa 5 (4 : Int32).toNatClampNeg)) - 1).toNatClampNeg) hx hb hK hP c_11 rfl d_Mo_isContinued_39 ?_
  obtain ⟨⟨i_12, j_13, a_14, b_15⟩, hc, hf⟩ := ob hf
  have hFc := mo_free hD hS hA
  refine cl_M (v := none) (st1 := []) (va_runV (As := [.int 4, .long (b_10 12 (((200 * 4) + (sa 5 (4 : Int32).toNatClampNeg)) - 1).toNatClampNeg)]) (rest := []) ⟨hx, hb, hml, hown, hts⟩ (c_Mo_byRule l dC dI h0 r cA H.size nf 4 (b_10 12 (((200 * 4) + (sa 5 (4 : Int32).toNatClampNeg)) - 1).toNatClampNeg) i_7 j_8 a_9 b_10 hc) (cwV 2 hts (gdV m_7_208 m_7_210 msel_75 m_1_10 m_7_211) rfl rfl rfl (by decide +kernel) ⟨Nat.le_trans (Nat.le_of_ble_eq_true rfl) hRf, Nat.le_trans (Nat.le_of_ble_eq_true rfl) hRl⟩) ((MU.pre hP hK hD (hST.mu hS hFc)).vir (va_recv hK hP (ci := 10) (q0 := 0) rfl rfl)) rfl rfl hl.1 rfl (lv_room (Nat.le_of_ble_eq_true rfl)) d_Mo_isContinued_40 ⟨Nat.zero_le _, Nat.zero_le _⟩) rfl hS (fun q _ h => hFc q h) hFc (fun t H1 locs ht hvm hB hz1 hk1 hS => ?_)
  obtain ⟨hP, hD⟩ := mo_back ht hD hB
  generalize H1 = H at hP hS ⊢
  refine lv_aload_n hx hb d_Mo_isContinued_43 rfl (lv_at hl 2 rfl) ?_
  obtain ⟨r_16, hc, hf⟩ := ob hf
  refine cl_S (v := (some (.int r_16))) (st1 := [.int r_16]) (va_runV (As := []) (rest := []) ⟨hx, hb, hml, hown, hts⟩ (c_Mo_isKept l dC dI h0 r cA nf i_12 j_13 a_14 b_15 hc) (cwV 0 hts (gdV m_8_24 m_8_26 msel_82 m_1_10 m_8_27) rfl rfl rfl (by decide +kernel) ⟨Nat.le_trans (Nat.le_of_ble_eq_true rfl) hRf, Nat.le_trans (Nat.le_of_ble_eq_true rfl) hRl⟩) ((RO.pre hP hK (hST.ro hS)).vir (va_recv hK hP (ci := 10) (q0 := 0) rfl rfl)) rfl rfl hl.1 rfl (lv_room (Nat.le_of_ble_eq_true rfl)) d_Mo_isContinued_44 ⟨Nat.zero_le _, Nat.zero_le _⟩) rfl ?_
  obtain ⟨c_17, hf⟩ := it_g hf
  cases rs hf
  exact hE _ _ _ _ d_Mo_isContinued_47 (nb_of c_17) hP hD hS
end
set_option maxHeartbeats 400000 in
set_option maxRecDepth 100000 in
theorem c_Mo_isContinued (l : Launch) (dC : Nat → ClassId) (dI : Nat → Nat → Nat) (h0 : Nat) (r : Nat → Nat) (cA : Nat → ClassId) (sz : Nat) (nf : Nat) (si : Nat → Int32) (sj : Nat → Int64) (sa : Nat → Nat → Int32) (sb : Nat → Nat → Int64) {r0 : Int32} {vi : Nat → Int32} {vj : Nat → Int64} {va : Nat → Nat → Int32} {vb : Nat → Nat → Int64} (hf : f_Mo_isContinued nf si sj sa sb = some (r0, vi, vj, va, vb)) : Met l y_Mo_isContinued (wd y_Mo_isContinued b_Mo_isContinued 3 (some .boolean)) ({ frames := 7, cells := 0, slots := 0, locals := 179 }) (MU dC dI (moW h0 r cA si sj sa sb) (moT cA) sz [.ref h0]) (MV (some (.int r0)) (fun t => va_P (dC, dI) classes (moW h0 r cA vi vj va vb) t.heap) (va_A (moW h0 r cA si sj sa sb) sz)) 0 0 (va_A (moW h0 r cA si sj sa sb) sz) :=
  met_M (plainFor_of_name (by decide)) (Nat.le_of_ble_eq_true rfl) (fun p e R s m args below meth c ls hRc hRs hsz hin C0 hST hK hP hD hl => by
    obtain ⟨hx, hb, hr, hml, hown, hts, hlocks, hRf, hRl⟩ := id C0
    subst hsz
    have hA : ∀ q : Nat, s.heap.size ≤ q → va_A (moW h0 r cA si sj sa sb) s.heap.size q := fun q h => Or.inr h
    have hS : va_S (va_A (moW h0 r cA si sj sa sb) s.heap.size) s.heap s.heap [] := va_S.rf
    unfold f_Mo_isContinued at hf
    exact k_Mo_isContinued_0 C0 hST hA hK (fun pc ls H locs hd hn hP hD hS => W.zret hx hb hr hn (fun t ht hW => ⟨⟨rfl, mo_end ht hP⟩, hS.F ht⟩) hS.2.2 hd) hf hP hD hS (lv_sub hl [0] rfl))
-- ZoneFilesModel.read(I)I
def f_Mo_read_92 (nf : Nat) (si : Nat → Int32) (sj : Nat → Int64) (sa : Nat → Nat → Int32) (sb : Nat → Nat → Int64) : Option (Int32 × (Nat → Int32) × (Nat → Int64) × (Nat → Nat → Int32) × (Nat → Nat → Int64)) :=
  some (si 36, si, sj, sa, sb)
def f_Mo_read_77 (nf : Nat) (x2 : Int32) (x1 : Int32) (si : Nat → Int32) (sj : Nat → Int64) (sa : Nat → Nat → Int32) (sb : Nat → Nat → Int64) : Option (Int32 × (Nat → Int32) × (Nat → Int64) × (Nat → Nat → Int32) × (Nat → Nat → Int64)) :=
  if x2 = 0 then
  f_Mo_read_92 nf (va_up si 1 0) sj sa sb
  else
  (f_Mo_put nf x1 4 (va_up si 1 0) sj sa sb).bind fun (i_10, j_11, a_12, b_13) =>
    f_Mo_read_92 nf i_10 j_11 a_12 b_13
def f_Mo_read_15 (nf : Nat) (x1 : Int32) (s0 : Int32) (si : Nat → Int32) (sj : Nat → Int64) (sa : Nat → Nat → Int32) (sb : Nat → Nat → Int64) : Option (Int32 × (Nat → Int32) × (Nat → Int64) × (Nat → Nat → Int32) × (Nat → Nat → Int64)) :=
  if s0 ≤ 0 then
  (f_Mo_file nf (va_up (va_up si 3 s0) 36 0) sj sa sb).bind fun (z_7, i_3, j_4, a_5, b_6) =>
    if z_7 = 0 then
    f_Mo_read_77 nf z_7 x1 i_3 j_4 a_5 b_6
    else
    if (4 : Int32) < 0 ∨ 5 ≤ (4 : Int32).toNatClampNeg then none else
      if (a_5 5 (4 : Int32).toNatClampNeg) ≤ 0 then
      f_Mo_read_77 nf z_7 x1 i_3 j_4 a_5 b_6
      else
      if (4 : Int32) < 0 ∨ 5 ≤ (4 : Int32).toNatClampNeg then none else
        if (a_5 23 (4 : Int32).toNatClampNeg) ≤ 0 then
        f_Mo_read_77 nf z_7 x1 i_3 j_4 a_5 b_6
        else
        (f_Mo_isContinued nf i_3 j_4 a_5 b_6).bind fun (z_22, i_18, j_19, a_20, b_21) =>
          if z_22 = 0 then
          (f_Mo_faulty nf 17 (i_18 39) i_18 j_19 a_20 b_21).bind fun (z_28, i_24, j_25, a_26, b_27) =>
            f_Mo_read_77 nf z_28 x1 i_24 j_25 a_26 b_27
          else
          f_Mo_read_77 nf z_7 x1 i_18 j_19 a_20 b_21
  else
  some (0, va_up si 3 s0, sj, sa, sb)
def f_Mo_read_10 (nf : Nat) (x1 : Int32) (si : Nat → Int32) (sj : Nat → Int64) (sa : Nat → Nat → Int32) (sb : Nat → Nat → Int64) : Option (Int32 × (Nat → Int32) × (Nat → Int64) × (Nat → Nat → Int32) × (Nat → Nat → Int64)) :=
  f_Mo_read_15 nf x1 1 si sj sa sb
def f_Mo_read_0 (nf : Nat) (x1 : Int32) (si : Nat → Int32) (sj : Nat → Int64) (sa : Nat → Nat → Int32) (sb : Nat → Nat → Int64) : Option (Int32 × (Nat → Int32) × (Nat → Int64) × (Nat → Nat → Int32) × (Nat → Nat → Int64)) :=
  if x1 < 0 then
  f_Mo_read_10 nf x1 si sj sa sb
  else
  if x1 < (4 : Int32) then
    f_Mo_read_15 nf x1 0 si sj sa sb
    else
    f_Mo_read_10 nf x1 si sj sa sb
def f_Mo_read (nf : Nat) (p0 : Int32) (si : Nat → Int32) (sj : Nat → Int64) (sa : Nat → Nat → Int32) (sb : Nat → Nat → Int64) : Option (Int32 × (Nat → Int32) × (Nat → Int64) × (Nat → Nat → Int32) × (Nat → Nat → Int64)) :=
  f_Mo_read_0 nf p0 si sj sa sb
section
variable {p : Program} {l : Launch} {e : Env} {R : Room} {s : State} {m : MethodId} {args : Array Value} {below : List Frame} {meth : Method} {c : Code} {Q : State → Prop} {dC : Nat → ClassId} {dI : Nat → Nat → Nat} {nf : Nat} {A : Nat → Prop} {h0 : Nat} {r : Nat → Nat} {cA : Nat → ClassId}
variable {r0 : Int32} {vi : Nat → Int32} {vj : Nat → Int64} {va : Nat → Nat → Int32} {vb : Nat → Nat → Int64}
set_option maxHeartbeats 400000 in
set_option maxRecDepth 100000 in
theorem k_Mo_read_92 (C0 : Cx p s m meth c args R b_Mo_read "ZoneFilesModel" 3 (some .int) 8 201) (hST : ST A s s.heap) (hA : ∀ q, s.heap.size ≤ q → A q) (hK : va_K (dC, dI) classes (moT cA) s) (hE : ∀ (pc : Nat) (ls : Array Slot) (H : Heap) (locs : List Loc), decode b_Mo_read pc = .ok (.ireturn, 1) → narrow .int (.int r0) = .int r0 → va_P (dC, dI) classes (moW h0 r cA vi vj va vb) H → va_D A (moW h0 r cA vi vj va vb) → va_S A s.heap H locs → W p l e R s m args below meth c H locs 0 0 Q (F0 m pc ls [.int r0])) {si : Nat → Int32} {sj : Nat → Int64} {sa : Nat → Nat → Int32} {sb : Nat → Nat → Int64} (hf : f_Mo_read_92 nf si sj sa sb = some (r0, vi, vj, va, vb)) {H : Heap} {locs : List Loc} {ls : Array Slot} (hP : va_P (dC, dI) classes (moW h0 r cA si sj sa sb) H) (hD : va_D A (moW h0 r cA si sj sa sb)) (hS : va_S A s.heap H locs) (hl : lv_has ls 3 [(0, .ref h0)]) : W p l e R s m args below meth c H locs 0 0 Q (F0 m 92 ls []) := by
  obtain ⟨hx, hb, hr, hml, hown, hts, hlocks, hRf, hRl⟩ := id C0
  unfold f_Mo_read_92 at hf
  refine lv_aload_n hx hb d_Mo_read_92 rfl (lv_at hl 0 rfl) ?_
  refine mg_36 (v := si 36) hx hb hts hown hK hP rfl d_Mo_read_93 ?_
  cases rs hf
  exact hE _ _ _ _ d_Mo_read_96 rfl hP hD hS
set_option maxHeartbeats 400000 in
set_option maxRecDepth 100000 in
theorem k_Mo_read_77 (C0 : Cx p s m meth c args R b_Mo_read "ZoneFilesModel" 3 (some .int) 8 201) (hST : ST A s s.heap) (hA : ∀ q, s.heap.size ≤ q → A q) (hK : va_K (dC, dI) classes (moT cA) s) (hE : ∀ (pc : Nat) (ls : Array Slot) (H : Heap) (locs : List Loc), decode b_Mo_read pc = .ok (.ireturn, 1) → narrow .int (.int r0) = .int r0 → va_P (dC, dI) classes (moW h0 r cA vi vj va vb) H → va_D A (moW h0 r cA vi vj va vb) → va_S A s.heap H locs → W p l e R s m args below meth c H locs 0 0 Q (F0 m pc ls [.int r0])) {x2 : Int32} {x1 : Int32} {si : Nat → Int32} {sj : Nat → Int64} {sa : Nat → Nat → Int32} {sb : Nat → Nat → Int64} (hf : f_Mo_read_77 nf x2 x1 si sj sa sb = some (r0, vi, vj, va, vb)) {H : Heap} {locs : List Loc} {ls : Array Slot} (hP : va_P (dC, dI) classes (moW h0 r cA si sj sa sb) H) (hD : va_D A (moW h0 r cA si sj sa sb)) (hS : va_S A s.heap H locs) (hl : lv_has ls 3 [(2, .int x2), (0, .ref h0), (1, .int x1)]) : W p l e R s m args below meth c H locs 0 0 Q (F0 m 77 ls []) := by
  obtain ⟨hx, hb, hr, hml, hown, hts, hlocks, hRf, hRl⟩ := id C0
  unfold f_Mo_read_77 at hf
  refine lv_aload_n hx hb d_Mo_read_77 rfl (lv_at hl 1 rfl) ?_
  refine lv_iconst (v := 0) hx hb d_Mo_read_78 (by decide) ?_
  refine mp_1 hx hb hts hown hK hP hD hS d_Mo_read_79 (fun H locs hP hD hS => ?_)
  refine lv_iload_n hx hb d_Mo_read_82 rfl (lv_at hl 0 rfl) ?_
  refine lv_if_eq (tgt := 92) hx hb d_Mo_read_83 (by decide) (fun c_9 => ?_) (fun c_9 => ?_)
  · have hf := it_t c_9 hf
    exact k_Mo_read_92 C0 hST hA hK hE hf hP hD hS (lv_sub hl [1] rfl)
  · have hf := it_f c_9 hf
    refine lv_aload_n hx hb d_Mo_read_86 rfl (lv_at hl 1 rfl) ?_
    refine lv_iload_n hx hb d_Mo_read_87 rfl (lv_at hl 2 rfl) ?_
    refine lv_iconst (v := 4) hx hb d_Mo_read_88 (by decide) ?_
    obtain ⟨⟨i_10, j_11, a_12, b_13⟩, hc, hf⟩ := ob hf
    have hFc := mo_free hD hS hA
    refine cl_M (v := none) (st1 := []) (va_runV (As := [.int x1, .int 4]) (rest := []) ⟨hx, hb, hml, hown, hts⟩ (c_Mo_put l dC dI h0 r cA H.size nf x1 4 (va_up si 1 0) sj sa sb hc) (cwV 2 hts (gdV m_6_124 m_6_126 msel_57 m_1_10 m_6_127) rfl rfl rfl (by decide +kernel) ⟨Nat.le_trans (Nat.le_of_ble_eq_true rfl) hRf, Nat.le_trans (Nat.le_of_ble_eq_true rfl) hRl⟩) ((MU.pre hP hK hD (hST.mu hS hFc)).vir (va_recv hK hP (ci := 10) (q0 := 0) rfl rfl)) rfl rfl hl.1 rfl (lv_room (Nat.le_of_ble_eq_true rfl)) d_Mo_read_89 ⟨Nat.zero_le _, Nat.zero_le _⟩) rfl hS (fun q _ h => hFc q h) hFc (fun t H1 locs ht hvm hB hz1 hk1 hS => ?_)
    obtain ⟨hP, hD⟩ := mo_back ht hD hB
    generalize H1 = H at hP hS ⊢
    exact k_Mo_read_92 C0 hST hA hK hE hf hP hD hS (lv_sub hl [1] rfl)
set_option maxHeartbeats 400000 in
set_option maxRecDepth 100000 in
theorem k_Mo_read_15 (C0 : Cx p s m meth c args R b_Mo_read "ZoneFilesModel" 3 (some .int) 8 201) (hST : ST A s s.heap) (hA : ∀ q, s.heap.size ≤ q → A q) (hK : va_K (dC, dI) classes (moT cA) s) (hE : ∀ (pc : Nat) (ls : Array Slot) (H : Heap) (locs : List Loc), decode b_Mo_read pc = .ok (.ireturn, 1) → narrow .int (.int r0) = .int r0 → va_P (dC, dI) classes (moW h0 r cA vi vj va vb) H → va_D A (moW h0 r cA vi vj va vb) → va_S A s.heap H locs → W p l e R s m args below meth c H locs 0 0 Q (F0 m pc ls [.int r0])) {x1 : Int32} {s0 : Int32} {si : Nat → Int32} {sj : Nat → Int64} {sa : Nat → Nat → Int32} {sb : Nat → Nat → Int64} (hf : f_Mo_read_15 nf x1 s0 si sj sa sb = some (r0, vi, vj, va, vb)) {H : Heap} {locs : List Loc} {ls : Array Slot} (hP : va_P (dC, dI) classes (moW h0 r cA si sj sa sb) H) (hD : va_D A (moW h0 r cA si sj sa sb)) (hS : va_S A s.heap H locs) (hl : lv_has ls 3 [(0, .ref h0), (1, .int x1)]) : W p l e R s m args below meth c H locs 0 0 Q (F0 m 15 ls [.int s0, .ref h0]) := by
  obtain ⟨hx, hb, hr, hml, hown, hts, hlocks, hRf, hRl⟩ := id C0
  unfold f_Mo_read_15 at hf
  refine mp_3 hx hb hts hown hK hP hD hS d_Mo_read_15 (fun H locs hP hD hS => ?_)
  refine lv_aload_n hx hb d_Mo_read_18 rfl (lv_at hl 0 rfl) ?_
  refine mg_3 (v := s0) hx hb hts hown hK hP rfl d_Mo_read_19 ?_
  refine lv_if_le (tgt := 27) hx hb d_Mo_read_22 (by decide) (fun c_2 => ?_) (fun c_2 => ?_)
  · have hf := it_t c_2 hf
    refine lv_aload_n hx hb d_Mo_read_27 rfl (lv_at hl 0 rfl) ?_
    refine lv_iconst (v := 0) hx hb d_Mo_read_28 (by decide) ?_
    refine mp_36 hx hb hts hown hK hP hD hS d_Mo_read_29 (fun H locs hP hD hS => ?_)
    refine lv_aload_n hx hb d_Mo_read_32 rfl (lv_at hl 0 rfl) ?_
    obtain ⟨⟨z_7, i_3, j_4, a_5, b_6⟩, hc, hf⟩ := ob hf
    have hFc := mo_free hD hS hA
    refine cl_M (v := (some (.int z_7))) (st1 := [.int z_7]) (va_runV (As := []) (rest := []) ⟨hx, hb, hml, hown, hts⟩ (c_Mo_file l dC dI h0 r cA H.size nf (va_up (va_up si 3 s0) 36 0) sj sa sb hc) (cwV 0 hts (gdV m_7_122 m_7_124 msel_58 m_1_10 m_7_125) rfl rfl rfl (by decide +kernel) ⟨Nat.le_trans (Nat.le_of_ble_eq_true rfl) hRf, Nat.le_trans (Nat.le_of_ble_eq_true rfl) hRl⟩) ((MU.pre hP hK hD (hST.mu hS hFc)).vir (va_recv hK hP (ci := 10) (q0 := 0) rfl rfl)) rfl rfl hl.1 rfl (lv_room (Nat.le_of_ble_eq_true rfl)) d_Mo_read_33 ⟨Nat.zero_le _, Nat.zero_le _⟩) rfl hS (fun q _ h => hFc q h) hFc (fun t H1 locs ht hvm hB hz1 hk1 hS => ?_)
    obtain ⟨hP, hD⟩ := mo_back ht hD hB
    generalize H1 = H at hP hS ⊢
    refine lv_istore_n (lv' := [(2, .int z_7), (0, .ref h0), (1, .int x1)]) hx hb d_Mo_read_36 rfl hl (by decide) rfl (fun ls hl => ?_)
    refine lv_iload_n hx hb d_Mo_read_37 rfl (lv_at hl 0 rfl) ?_
    refine lv_if_eq (tgt := 77) hx hb d_Mo_read_38 (by decide) (fun c_8 => ?_) (fun c_8 => ?_)
    · have hf := it_t c_8 hf
      exact k_Mo_read_77 C0 hST hA hK hE hf hP hD hS (lv_sub hl [0, 1, 2] rfl)
    · have hf := it_f c_8 hf
      refine lv_aload_n hx hb d_Mo_read_41 rfl (lv_at hl 1 rfl) ?_
      refine mg_5 hx hb hts hown hK hP d_Mo_read_42 ?_
      refine lv_iconst (v := 4) hx hb d_Mo_read_45 (by decide) ?_
      obtain ⟨c_14, hf⟩ := it_n hf
      refine ma_5 (v := a_5 5 (4 : Int32).toNatClampNeg) hx hb hK hP c_14 rfl d_Mo_read_46 ?_
      refine lv_if_le (tgt := 77) hx hb d_Mo_read_47 (by decide) (fun c_15 => ?_) (fun c_15 => ?_)
      · have hf := it_t c_15 hf
        exact k_Mo_read_77 C0 hST hA hK hE hf hP hD hS (lv_sub hl [0, 1, 2] rfl)
      · have hf := it_f c_15 hf
        refine lv_aload_n hx hb d_Mo_read_50 rfl (lv_at hl 1 rfl) ?_
        refine mg_23 hx hb hts hown hK hP d_Mo_read_51 ?_
        refine lv_iconst (v := 4) hx hb d_Mo_read_54 (by decide) ?_
        obtain ⟨c_16, hf⟩ := it_n hf
        refine ma_23 (v := a_5 23 (4 : Int32).toNatClampNeg) hx hb hK hP c_16 rfl d_Mo_read_55 ?_
        refine lv_if_le (tgt := 77) hx hb d_Mo_read_56 (by decide) (fun c_17 => ?_) (fun c_17 => ?_)
        · have hf := it_t c_17 hf
          exact k_Mo_read_77 C0 hST hA hK hE hf hP hD hS (lv_sub hl [0, 1, 2] rfl)
        · have hf := it_f c_17 hf
          refine lv_aload_n hx hb d_Mo_read_59 rfl (lv_at hl 1 rfl) ?_
          obtain ⟨⟨z_22, i_18, j_19, a_20, b_21⟩, hc, hf⟩ := ob hf
          have hFc := mo_free hD hS hA
          refine cl_M (v := (some (.int z_22))) (st1 := [.int z_22]) (va_runV (As := []) (rest := []) ⟨hx, hb, hml, hown, hts⟩ (c_Mo_isContinued l dC dI h0 r cA H.size nf i_3 j_4 a_5 b_6 hc) (cwV 0 hts (gdV m_7_196 m_7_198 msel_72 m_1_10 m_7_199) rfl rfl rfl (by decide +kernel) ⟨Nat.le_trans (Nat.le_of_ble_eq_true rfl) hRf, Nat.le_trans (Nat.le_of_ble_eq_true rfl) hRl⟩) ((MU.pre hP hK hD (hST.mu hS hFc)).vir (va_recv hK hP (ci := 10) (q0 := 0) rfl rfl)) rfl rfl hl.1 rfl (lv_room (Nat.le_of_ble_eq_true rfl)) d_Mo_read_60 ⟨Nat.zero_le _, Nat.zero_le _⟩) rfl hS (fun q _ h => hFc q h) hFc (fun t H1 locs ht hvm hB hz1 hk1 hS => ?_)
          obtain ⟨hP, hD⟩ := mo_back ht hD hB
          generalize H1 = H at hP hS ⊢
          refine lv_if_ne (tgt := 77) hx hb d_Mo_read_63 (by decide) (fun c_23 => ?_) (fun c_23 => ?_)
          · have hf := it_f c_23 hf
            exact k_Mo_read_77 C0 hST hA hK hE hf hP hD hS (lv_sub hl [0, 1, 2] rfl)
          · have hf := it_t c_23 hf
            refine lv_aload_n hx hb d_Mo_read_66 rfl (lv_at hl 1 rfl) ?_
            refine lv_bipush (v := 17) hx hb d_Mo_read_67 (by decide) ?_
            refine lv_aload_n hx hb d_Mo_read_69 rfl (lv_at hl 1 rfl) ?_
            refine mg_39 (v := i_18 39) hx hb hts hown hK hP rfl d_Mo_read_70 ?_
            obtain ⟨⟨z_28, i_24, j_25, a_26, b_27⟩, hc, hf⟩ := ob hf
            have hFc := mo_free hD hS hA
            refine cl_M (v := (some (.int z_28))) (st1 := [.int z_28]) (va_runV (As := [.int 17, .int (i_18 39)]) (rest := []) ⟨hx, hb, hml, hown, hts⟩ (c_Mo_faulty l dC dI h0 r cA H.size nf 17 (i_18 39) i_18 j_19 a_20 b_21 hc) (cwV 2 hts (gdV m_7_133 m_7_135 msel_60 m_1_10 m_7_136) rfl rfl rfl (by decide +kernel) ⟨Nat.le_trans (Nat.le_of_ble_eq_true rfl) hRf, Nat.le_trans (Nat.le_of_ble_eq_true rfl) hRl⟩) ((MU.pre hP hK hD (hST.mu hS hFc)).vir (va_recv hK hP (ci := 10) (q0 := 0) rfl rfl)) rfl rfl hl.1 rfl (lv_room (Nat.le_of_ble_eq_true rfl)) d_Mo_read_73 ⟨Nat.zero_le _, Nat.zero_le _⟩) rfl hS (fun q _ h => hFc q h) hFc (fun t H1 locs ht hvm hB hz1 hk1 hS => ?_)
            obtain ⟨hP, hD⟩ := mo_back ht hD hB
            generalize H1 = H at hP hS ⊢
            refine lv_istore_n (lv' := [(2, .int z_28), (0, .ref h0), (1, .int x1)]) hx hb d_Mo_read_76 rfl hl (by decide) rfl (fun ls hl => ?_)
            exact k_Mo_read_77 C0 hST hA hK hE hf hP hD hS (lv_sub hl [0, 1, 2] rfl)
  · have hf := it_f c_2 hf
    refine lv_iconst (v := 0) hx hb d_Mo_read_25 (by decide) ?_
    cases rs hf
    exact hE _ _ _ _ d_Mo_read_26 rfl hP hD hS
set_option maxHeartbeats 400000 in
set_option maxRecDepth 100000 in
theorem k_Mo_read_10 (C0 : Cx p s m meth c args R b_Mo_read "ZoneFilesModel" 3 (some .int) 8 201) (hST : ST A s s.heap) (hA : ∀ q, s.heap.size ≤ q → A q) (hK : va_K (dC, dI) classes (moT cA) s) (hE : ∀ (pc : Nat) (ls : Array Slot) (H : Heap) (locs : List Loc), decode b_Mo_read pc = .ok (.ireturn, 1) → narrow .int (.int r0) = .int r0 → va_P (dC, dI) classes (moW h0 r cA vi vj va vb) H → va_D A (moW h0 r cA vi vj va vb) → va_S A s.heap H locs → W p l e R s m args below meth c H locs 0 0 Q (F0 m pc ls [.int r0])) {x1 : Int32} {si : Nat → Int32} {sj : Nat → Int64} {sa : Nat → Nat → Int32} {sb : Nat → Nat → Int64} (hf : f_Mo_read_10 nf x1 si sj sa sb = some (r0, vi, vj, va, vb)) {H : Heap} {locs : List Loc} {ls : Array Slot} (hP : va_P (dC, dI) classes (moW h0 r cA si sj sa sb) H) (hD : va_D A (moW h0 r cA si sj sa sb)) (hS : va_S A s.heap H locs) (hl : lv_has ls 3 [(0, .ref h0), (1, .int x1)]) : W p l e R s m args below meth c H locs 0 0 Q (F0 m 10 ls [.ref h0]) := by
  obtain ⟨hx, hb, hr, hml, hown, hts, hlocks, hRf, hRl⟩ := id C0
  unfold f_Mo_read_10 at hf
  refine lv_iconst (v := 1) hx hb d_Mo_read_10 (by decide) ?_
  refine lv_goto (tgt := 15) hx hb d_Mo_read_11 (by decide) ?_
  exact k_Mo_read_15 C0 hST hA hK hE hf hP hD hS (lv_sub hl [0, 1] rfl)
set_option maxHeartbeats 400000 in
set_option maxRecDepth 100000 in
theorem k_Mo_read_0 (C0 : Cx p s m meth c args R b_Mo_read "ZoneFilesModel" 3 (some .int) 8 201) (hST : ST A s s.heap) (hA : ∀ q, s.heap.size ≤ q → A q) (hK : va_K (dC, dI) classes (moT cA) s) (hE : ∀ (pc : Nat) (ls : Array Slot) (H : Heap) (locs : List Loc), decode b_Mo_read pc = .ok (.ireturn, 1) → narrow .int (.int r0) = .int r0 → va_P (dC, dI) classes (moW h0 r cA vi vj va vb) H → va_D A (moW h0 r cA vi vj va vb) → va_S A s.heap H locs → W p l e R s m args below meth c H locs 0 0 Q (F0 m pc ls [.int r0])) {x1 : Int32} {si : Nat → Int32} {sj : Nat → Int64} {sa : Nat → Nat → Int32} {sb : Nat → Nat → Int64} (hf : f_Mo_read_0 nf x1 si sj sa sb = some (r0, vi, vj, va, vb)) {H : Heap} {locs : List Loc} {ls : Array Slot} (hP : va_P (dC, dI) classes (moW h0 r cA si sj sa sb) H) (hD : va_D A (moW h0 r cA si sj sa sb)) (hS : va_S A s.heap H locs) (hl : lv_has ls 3 [(0, .ref h0), (1, .int x1)]) : W p l e R s m args below meth c H locs 0 0 Q (F0 m 0 ls []) := by
  obtain ⟨hx, hb, hr, hml, hown, hts, hlocks, hRf, hRl⟩ := id C0
  unfold f_Mo_read_0 at hf
  refine lv_aload_n hx hb d_Mo_read_0 rfl (lv_at hl 0 rfl) ?_
  refine lv_iload_n hx hb d_Mo_read_1 rfl (lv_at hl 1 rfl) ?_
  refine lv_if_lt (tgt := 10) hx hb d_Mo_read_2 (by decide) (fun c_1 => ?_) (fun c_1 => ?_)
  · have hf := it_t c_1 hf
    exact k_Mo_read_10 C0 hST hA hK hE hf hP hD hS (lv_sub hl [0, 1] rfl)
  · have hf := it_f c_1 hf
    refine lv_iload_n hx hb d_Mo_read_5 rfl (lv_at hl 1 rfl) ?_
    refine lv_iconst (v := 4) hx hb d_Mo_read_6 (by decide) ?_
    refine lv_icmp_lt (tgt := 14) hx hb d_Mo_read_7 (by decide) (fun c_29 => ?_) (fun c_29 => ?_)
    · have hf := it_t c_29 hf
      refine lv_iconst (v := 0) hx hb d_Mo_read_14 (by decide) ?_
      exact k_Mo_read_15 C0 hST hA hK hE hf hP hD hS (lv_sub hl [0, 1] rfl)
    · have hf := it_f c_29 hf
      exact k_Mo_read_10 C0 hST hA hK hE hf hP hD hS (lv_sub hl [0, 1] rfl)
end
set_option maxHeartbeats 400000 in
set_option maxRecDepth 100000 in
theorem c_Mo_read (l : Launch) (dC : Nat → ClassId) (dI : Nat → Nat → Nat) (h0 : Nat) (r : Nat → Nat) (cA : Nat → ClassId) (sz : Nat) (nf : Nat) (p0 : Int32) (si : Nat → Int32) (sj : Nat → Int64) (sa : Nat → Nat → Int32) (sb : Nat → Nat → Int64) {r0 : Int32} {vi : Nat → Int32} {vj : Nat → Int64} {va : Nat → Nat → Int32} {vb : Nat → Nat → Int64} (hf : f_Mo_read nf p0 si sj sa sb = some (r0, vi, vj, va, vb)) : Met l y_Mo_read (wd y_Mo_read b_Mo_read 3 (some .int)) ({ frames := 8, cells := 0, slots := 0, locals := 201 }) (MU dC dI (moW h0 r cA si sj sa sb) (moT cA) sz [.ref h0, .int p0]) (MV (some (.int r0)) (fun t => va_P (dC, dI) classes (moW h0 r cA vi vj va vb) t.heap) (va_A (moW h0 r cA si sj sa sb) sz)) 0 0 (va_A (moW h0 r cA si sj sa sb) sz) :=
  met_M (plainFor_of_name (by decide)) (Nat.le_of_ble_eq_true rfl) (fun p e R s m args below meth c ls hRc hRs hsz hin C0 hST hK hP hD hl => by
    obtain ⟨hx, hb, hr, hml, hown, hts, hlocks, hRf, hRl⟩ := id C0
    subst hsz
    have hA : ∀ q : Nat, s.heap.size ≤ q → va_A (moW h0 r cA si sj sa sb) s.heap.size q := fun q h => Or.inr h
    have hS : va_S (va_A (moW h0 r cA si sj sa sb) s.heap.size) s.heap s.heap [] := va_S.rf
    unfold f_Mo_read at hf
    exact k_Mo_read_0 C0 hST hA hK (fun pc ls H locs hd hn hP hD hS => W.zret hx hb hr hn (fun t ht hW => ⟨⟨rfl, mo_end ht hP⟩, hS.F ht⟩) hS.2.2 hd) hf hP hD hS (lv_sub hl [0, 1] rfl))
-- ZoneFilesModel.clock(JI)J
def f_Mo_clock_27 (nf : Nat) (x1 : Int64) (x3 : Int32) (s0 : Int32) (si : Nat → Int32) (sj : Nat → Int64) (sa : Nat → Nat → Int32) (sb : Nat → Nat → Int64) : Option (Int64 × (Nat → Int32) × (Nat → Int64) × (Nat → Nat → Int32) × (Nat → Nat → Int64)) :=
  if s0 ≤ 0 then
  (f_Mo_floor nf x1 86400).bind fun r_3 =>
    (f_Mo_date nf r_3 (va_up si 3 s0) sj sa sb).bind fun (i_4, j_5, a_6, b_7) =>
    if x3 = 0 then
    some (j_5 40, i_4, j_5, a_6, b_7)
    else
    if x3 = 1 then
      some ((i_4 41).toInt64, i_4, j_5, a_6, b_7)
      else
      if x3 = 2 then
        some ((i_4 42).toInt64, i_4, j_5, a_6, b_7)
        else
        if x3 = 3 then
          some ((x1 - (r_3 * 86400)) / 3600, i_4, j_5, a_6, b_7)
          else
          if x3 = 4 then
            some (((x1 - (r_3 * 86400)) / 60) - ((x1 - (r_3 * 86400)) / 60) / 60 * 60, i_4, j_5, a_6, b_7)
            else
            if x3 = 5 then
              some ((x1 - (r_3 * 86400)) - (x1 - (r_3 * 86400)) / 60 * 60, i_4, j_5, a_6, b_7)
              else
              if x3 = 6 then
                (f_Mo_weekday nf r_3).bind fun r_15 =>
                  some (r_15.toInt64, i_4, j_5, a_6, b_7)
                else
                (f_Mo_days nf (j_5 40) 1 1).bind fun r_16 =>
                  some ((r_3 - r_16) + 1, i_4, j_5, a_6, b_7)
  else
  some (0, va_up si 3 s0, sj, sa, sb)
def f_Mo_clock_11 (nf : Nat) (x1 : Int64) (x3 : Int32) (si : Nat → Int32) (sj : Nat → Int64) (sa : Nat → Nat → Int32) (sb : Nat → Nat → Int64) : Option (Int64 × (Nat → Int32) × (Nat → Int64) × (Nat → Nat → Int32) × (Nat → Nat → Int64)) :=
  f_Mo_clock_27 nf x1 x3 1 si sj sa sb
def f_Mo_clock_0 (nf : Nat) (x1 : Int64) (x3 : Int32) (si : Nat → Int32) (sj : Nat → Int64) (sa : Nat → Nat → Int32) (sb : Nat → Nat → Int64) : Option (Int64 × (Nat → Int32) × (Nat → Int64) × (Nat → Nat → Int32) × (Nat → Nat → Int64)) :=
  if x3 < 0 then
  f_Mo_clock_11 nf x1 x3 si sj sa sb
  else
  if x3 ≤ (7 : Int32) then
    (f_Mo_isInstant nf x1).bind fun r_18 =>
      if r_18 = 0 then
      f_Mo_clock_27 nf x1 x3 2 si sj sa sb
      else
      f_Mo_clock_27 nf x1 x3 0 si sj sa sb
    else
    f_Mo_clock_11 nf x1 x3 si sj sa sb
def f_Mo_clock (nf : Nat) (p0 : Int64) (p1 : Int32) (si : Nat → Int32) (sj : Nat → Int64) (sa : Nat → Nat → Int32) (sb : Nat → Nat → Int64) : Option (Int64 × (Nat → Int32) × (Nat → Int64) × (Nat → Nat → Int32) × (Nat → Nat → Int64)) :=
  f_Mo_clock_0 nf p0 p1 si sj sa sb
section
variable {p : Program} {l : Launch} {e : Env} {R : Room} {s : State} {m : MethodId} {args : Array Value} {below : List Frame} {meth : Method} {c : Code} {Q : State → Prop} {dC : Nat → ClassId} {dI : Nat → Nat → Nat} {nf : Nat} {A : Nat → Prop} {h0 : Nat} {r : Nat → Nat} {cA : Nat → ClassId}
variable {r0 : Int64} {vi : Nat → Int32} {vj : Nat → Int64} {va : Nat → Nat → Int32} {vb : Nat → Nat → Int64}
set_option maxHeartbeats 400000 in
set_option maxRecDepth 100000 in
theorem k_Mo_clock_27 (C0 : Cx p s m meth c args R b_Mo_clock "ZoneFilesModel" 8 (some .long) 2 58) (hST : ST A s s.heap) (hA : ∀ q, s.heap.size ≤ q → A q) (hK : va_K (dC, dI) classes (moT cA) s) (hE : ∀ (pc : Nat) (ls : Array Slot) (H : Heap) (locs : List Loc), decode b_Mo_clock pc = .ok (.lreturn, 1) → va_P (dC, dI) classes (moW h0 r cA vi vj va vb) H → va_D A (moW h0 r cA vi vj va vb) → va_S A s.heap H locs → W p l e R s m args below meth c H locs 0 0 Q (F0 m pc ls [.long r0])) {x1 : Int64} {x3 : Int32} {s0 : Int32} {si : Nat → Int32} {sj : Nat → Int64} {sa : Nat → Nat → Int32} {sb : Nat → Nat → Int64} (hf : f_Mo_clock_27 nf x1 x3 s0 si sj sa sb = some (r0, vi, vj, va, vb)) {H : Heap} {locs : List Loc} {ls : Array Slot} (hP : va_P (dC, dI) classes (moW h0 r cA si sj sa sb) H) (hD : va_D A (moW h0 r cA si sj sa sb)) (hS : va_S A s.heap H locs) (hl : lv_has ls 8 [(0, .ref h0), (1, .long x1), (3, .int x3)]) : W p l e R s m args below meth c H locs 0 0 Q (F0 m 27 ls [.int s0, .ref h0]) := by
  obtain ⟨hx, hb, hr, hml, hown, hts, hlocks, hRf, hRl⟩ := id C0
  unfold f_Mo_clock_27 at hf
  refine mp_3 hx hb hts hown hK hP hD hS d_Mo_clock_27 (fun H locs hP hD hS => ?_)
  refine lv_aload_n hx hb d_Mo_clock_30 rfl (lv_at hl 0 rfl) ?_
  refine mg_3 (v := s0) hx hb hts hown hK hP rfl d_Mo_clock_31 ?_
  refine lv_if_le (tgt := 39) hx hb d_Mo_clock_34 (by decide) (fun c_2 => ?_) (fun c_2 => ?_)
  · have hf := it_t c_2 hf
    refine lv_lload_n hx hb d_Mo_clock_39 rfl (lv_at hl 1 rfl) ?_
    refine lv_ldc2 (v := 86400) hx hb hown (hts (.constantLong "ZoneFilesModel" 335 86400) m_7_224) d_Mo_clock_40 ?_
    obtain ⟨r_3, hc, hf⟩ := ob hf
    refine cl_S (v := (some (.long r_3))) (st1 := [.long r_3]) (va_runS (As := [.long x1, .long 86400]) (rest := []) ⟨hx, hb, hml, hown, hts⟩ (c_Mo_floor l dC dI nf x1 86400 hc) (va_cwS 2 hts (gdS m_7_225 m_7_226 m_1_10 m_7_227) rfl rfl rfl (by decide +kernel) ⟨Nat.le_trans (Nat.le_of_ble_eq_true rfl) hRf, Nat.le_trans (Nat.le_of_ble_eq_true rfl) hRl⟩) (RO.pre0 hK (hST.ro hS)).sta rfl rfl hl.1 rfl (lv_room (Nat.le_of_ble_eq_true rfl)) d_Mo_clock_43 ⟨Nat.zero_le _, Nat.zero_le _⟩) rfl ?_
    refine lv_lstore (lv' := [(4, .long r_3), (0, .ref h0), (1, .long x1), (3, .int x3)]) hx hb d_Mo_clock_46 hl (by decide) rfl (fun ls hl => ?_)
    refine lv_lload_n hx hb d_Mo_clock_48 rfl (lv_at hl 2 rfl) ?_
    refine lv_lload hx hb d_Mo_clock_49 (lv_at hl 0 rfl) ?_
    refine lv_ldc2 (v := 86400) hx hb hown (hts (.constantLong "ZoneFilesModel" 335 86400) m_7_224) d_Mo_clock_51 ?_
    refine lv_lmul hx hb d_Mo_clock_54 ?_
    refine lv_lsub hx hb d_Mo_clock_55 ?_
    refine lv_lstore (lv' := [(6, .long (x1 - (r_3 * 86400))), (4, .long r_3), (0, .ref h0), (1, .long x1), (3, .int x3)]) hx hb d_Mo_clock_56 hl (by decide) rfl (fun ls hl => ?_)
    refine lv_aload_n hx hb d_Mo_clock_58 rfl (lv_at hl 2 rfl) ?_
    refine lv_lload hx hb d_Mo_clock_59 (lv_at hl 1 rfl) ?_
    obtain ⟨⟨i_4, j_5, a_6, b_7⟩, hc, hf⟩ := ob hf
    have hFc := mo_free hD hS hA
    refine cl_M (v := none) (st1 := []) (va_runV (As := [.long r_3]) (rest := []) ⟨hx, hb, hml, hown, hts⟩ (c_Mo_date l dC dI h0 r cA H.size nf r_3 (va_up si 3 s0) sj sa sb hc) (cwV 1 hts (gdV m_7_228 m_7_230 msel_79 m_1_10 m_7_231) rfl rfl rfl (by decide +kernel) ⟨Nat.le_trans (Nat.le_of_ble_eq_true rfl) hRf, Nat.le_trans (Nat.le_of_ble_eq_true rfl) hRl⟩) ((MU.pre hP hK hD (hST.mu hS hFc)).vir (va_recv hK hP (ci := 10) (q0 := 0) rfl rfl)) rfl rfl hl.1 rfl (lv_room (Nat.le_of_ble_eq_true rfl)) d_Mo_clock_61 ⟨Nat.zero_le _, Nat.zero_le _⟩) rfl hS (fun q _ h => hFc q h) hFc (fun t H1 locs ht hvm hB hz1 hk1 hS => ?_)
    obtain ⟨hP, hD⟩ := mo_back ht hD hB
    generalize H1 = H at hP hS ⊢
    refine lv_iload_n hx hb d_Mo_clock_64 rfl (lv_at hl 4 rfl) ?_
    by_cases c_8 : x3 = 0
    · have hf := it_t c_8 hf
      refine lv_tableIn (tgt := 108) hx hb d_Mo_clock_65 (by rw [c_8]; decide) (by rw [c_8]; decide) (by rw [c_8]; rfl) (by decide) ?_
      refine lv_aload_n hx hb d_Mo_clock_108 rfl (lv_at hl 2 rfl) ?_
      refine mg_40 (v := j_5 40) hx hb hts hown hK hP rfl d_Mo_clock_109 ?_
      cases rs hf
      exact hE _ _ _ _ d_Mo_clock_112 hP hD hS
    · have hf := it_f c_8 hf
      by_cases c_9 : x3 = 1
      · have hf := it_t c_9 hf
        refine lv_tableIn (tgt := 113) hx hb d_Mo_clock_65 (by rw [c_9]; decide) (by rw [c_9]; decide) (by rw [c_9]; rfl) (by decide) ?_
        refine lv_aload_n hx hb d_Mo_clock_113 rfl (lv_at hl 2 rfl) ?_
        refine mg_41 (v := i_4 41) hx hb hts hown hK hP rfl d_Mo_clock_114 ?_
        refine lv_i2l hx hb d_Mo_clock_117 rfl ?_
        cases rs hf
        exact hE _ _ _ _ d_Mo_clock_118 hP hD hS
      · have hf := it_f c_9 hf
        by_cases c_10 : x3 = 2
        · have hf := it_t c_10 hf
          refine lv_tableIn (tgt := 119) hx hb d_Mo_clock_65 (by rw [c_10]; decide) (by rw [c_10]; decide) (by rw [c_10]; rfl) (by decide) ?_
          refine lv_aload_n hx hb d_Mo_clock_119 rfl (lv_at hl 2 rfl) ?_
          refine mg_42 (v := i_4 42) hx hb hts hown hK hP rfl d_Mo_clock_120 ?_
          refine lv_i2l hx hb d_Mo_clock_123 rfl ?_
          cases rs hf
          exact hE _ _ _ _ d_Mo_clock_124 hP hD hS
        · have hf := it_f c_10 hf
          by_cases c_11 : x3 = 3
          · have hf := it_t c_11 hf
            refine lv_tableIn (tgt := 125) hx hb d_Mo_clock_65 (by rw [c_11]; decide) (by rw [c_11]; decide) (by rw [c_11]; rfl) (by decide) ?_
            refine lv_lload hx hb d_Mo_clock_125 (lv_at hl 0 rfl) ?_
            refine lv_ldc2 (v := 3600) hx hb hown (hts (.constantLong "ZoneFilesModel" 341 3600) m_8_32) d_Mo_clock_127 ?_
            refine lv_ldiv hx hb d_Mo_clock_130 (by decide) ?_
            cases rs hf
            exact hE _ _ _ _ d_Mo_clock_131 hP hD hS
          · have hf := it_f c_11 hf
            by_cases c_12 : x3 = 4
            · have hf := it_t c_12 hf
              refine lv_tableIn (tgt := 132) hx hb d_Mo_clock_65 (by rw [c_12]; decide) (by rw [c_12]; decide) (by rw [c_12]; rfl) (by decide) ?_
              refine lv_lload hx hb d_Mo_clock_132 (lv_at hl 0 rfl) ?_
              refine lv_ldc2 (v := 60) hx hb hown (hts (.constantLong "ZoneFilesModel" 343 60) m_8_33) d_Mo_clock_134 ?_
              refine lv_ldiv hx hb d_Mo_clock_137 (by decide) ?_
              refine lv_ldc2 (v := 60) hx hb hown (hts (.constantLong "ZoneFilesModel" 343 60) m_8_33) d_Mo_clock_138 ?_
              refine lv_lrem hx hb d_Mo_clock_141 (by decide) ?_
              cases rs hf
              exact hE _ _ _ _ d_Mo_clock_142 hP hD hS
            · have hf := it_f c_12 hf
              by_cases c_13 : x3 = 5
              · have hf := it_t c_13 hf
                refine lv_tableIn (tgt := 143) hx hb d_Mo_clock_65 (by rw [c_13]; decide) (by rw [c_13]; decide) (by rw [c_13]; rfl) (by decide) ?_
                refine lv_lload hx hb d_Mo_clock_143 (lv_at hl 0 rfl) ?_
                refine lv_ldc2 (v := 60) hx hb hown (hts (.constantLong "ZoneFilesModel" 343 60) m_8_33) d_Mo_clock_145 ?_
                refine lv_lrem hx hb d_Mo_clock_148 (by decide) ?_
                cases rs hf
                exact hE _ _ _ _ d_Mo_clock_149 hP hD hS
              · have hf := it_f c_13 hf
                by_cases c_14 : x3 = 6
                · have hf := it_t c_14 hf
                  refine lv_tableIn (tgt := 150) hx hb d_Mo_clock_65 (by rw [c_14]; decide) (by rw [c_14]; decide) (by rw [c_14]; rfl) (by decide) ?_
                  refine lv_lload hx hb d_Mo_clock_150 (lv_at hl 1 rfl) ?_
                  obtain ⟨r_15, hc, hf⟩ := ob hf
                  refine cl_S (v := (some (.int r_15))) (st1 := [.int r_15]) (va_runS (As := [.long r_3]) (rest := []) ⟨hx, hb, hml, hown, hts⟩ (c_Mo_weekday l dC dI nf r_3 hc) (va_cwS 1 hts (gdS m_8_17 m_8_18 m_1_10 m_8_19) rfl rfl rfl (by decide +kernel) ⟨Nat.le_trans (Nat.le_of_ble_eq_true rfl) hRf, Nat.le_trans (Nat.le_of_ble_eq_true rfl) hRl⟩) (RO.pre0 hK (hST.ro hS)).sta rfl rfl hl.1 rfl (lv_room (Nat.le_of_ble_eq_true rfl)) d_Mo_clock_152 ⟨Nat.zero_le _, Nat.zero_le _⟩) rfl ?_
                  refine lv_i2l hx hb d_Mo_clock_155 rfl ?_
                  cases rs hf
                  exact hE _ _ _ _ d_Mo_clock_156 hP hD hS
                · have hf := it_f c_14 hf
                  have hsw : x3.toInt < 0 ∨ 6 < x3.toInt := by
                    have hsw0 := lv_neT c_8 (a := 0) rfl
                    have hsw1 := lv_neT c_9 (a := 1) rfl
                    have hsw2 := lv_neT c_10 (a := 2) rfl
                    have hsw3 := lv_neT c_11 (a := 3) rfl
                    have hsw4 := lv_neT c_12 (a := 4) rfl
                    have hsw5 := lv_neT c_13 (a := 5) rfl
                    have hsw6 := lv_neT c_14 (a := 6) rfl
                    omega
                  refine lv_tableOut (tgt := 157) hx hb d_Mo_clock_65 hsw (by decide) ?_
                  refine lv_lload hx hb d_Mo_clock_157 (lv_at hl 1 rfl) ?_
                  refine lv_aload_n hx hb d_Mo_clock_159 rfl (lv_at hl 2 rfl) ?_
                  refine mg_40 (v := j_5 40) hx hb hts hown hK hP rfl d_Mo_clock_160 ?_
                  refine lv_iconst (v := 1) hx hb d_Mo_clock_163 (by decide) ?_
                  refine lv_iconst (v := 1) hx hb d_Mo_clock_164 (by decide) ?_
                  obtain ⟨r_16, hc, hf⟩ := ob hf
                  refine cl_S (v := (some (.long r_16))) (st1 := [.long r_16, .long r_3]) (va_runS (As := [.long (j_5 40), .int 1, .int 1]) (rest := [.long r_3]) ⟨hx, hb, hml, hown, hts⟩ (c_Mo_days l dC dI nf (j_5 40) 1 1 hc) (va_cwS 3 hts (gdS m_8_11 m_8_12 m_1_10 m_8_13) rfl rfl rfl (by decide +kernel) ⟨Nat.le_trans (Nat.le_of_ble_eq_true rfl) hRf, Nat.le_trans (Nat.le_of_ble_eq_true rfl) hRl⟩) (RO.pre0 hK (hST.ro hS)).sta rfl rfl hl.1 rfl (lv_room (Nat.le_of_ble_eq_true rfl)) d_Mo_clock_165 ⟨Nat.zero_le _, Nat.zero_le _⟩) rfl ?_
                  refine lv_lsub hx hb d_Mo_clock_168 ?_
                  refine lv_lconst (v := 1) hx hb d_Mo_clock_169 (by decide) ?_
                  refine lv_ladd hx hb d_Mo_clock_170 ?_
                  cases rs hf
                  exact hE _ _ _ _ d_Mo_clock_171 hP hD hS
  · have hf := it_f c_2 hf
    refine lv_lconst (v := 0) hx hb d_Mo_clock_37 (by decide) ?_
    cases rs hf
    exact hE _ _ _ _ d_Mo_clock_38 hP hD hS
set_option maxHeartbeats 400000 in
set_option maxRecDepth 100000 in
theorem k_Mo_clock_11 (C0 : Cx p s m meth c args R b_Mo_clock "ZoneFilesModel" 8 (some .long) 2 58) (hST : ST A s s.heap) (hA : ∀ q, s.heap.size ≤ q → A q) (hK : va_K (dC, dI) classes (moT cA) s) (hE : ∀ (pc : Nat) (ls : Array Slot) (H : Heap) (locs : List Loc), decode b_Mo_clock pc = .ok (.lreturn, 1) → va_P (dC, dI) classes (moW h0 r cA vi vj va vb) H → va_D A (moW h0 r cA vi vj va vb) → va_S A s.heap H locs → W p l e R s m args below meth c H locs 0 0 Q (F0 m pc ls [.long r0])) {x1 : Int64} {x3 : Int32} {si : Nat → Int32} {sj : Nat → Int64} {sa : Nat → Nat → Int32} {sb : Nat → Nat → Int64} (hf : f_Mo_clock_11 nf x1 x3 si sj sa sb = some (r0, vi, vj, va, vb)) {H : Heap} {locs : List Loc} {ls : Array Slot} (hP : va_P (dC, dI) classes (moW h0 r cA si sj sa sb) H) (hD : va_D A (moW h0 r cA si sj sa sb)) (hS : va_S A s.heap H locs) (hl : lv_has ls 8 [(0, .ref h0), (1, .long x1), (3, .int x3)]) : W p l e R s m args below meth c H locs 0 0 Q (F0 m 11 ls [.ref h0]) := by
  obtain ⟨hx, hb, hr, hml, hown, hts, hlocks, hRf, hRl⟩ := id C0
  unfold f_Mo_clock_11 at hf
  refine lv_iconst (v := 1) hx hb d_Mo_clock_11 (by decide) ?_
  refine lv_goto (tgt := 27) hx hb d_Mo_clock_12 (by decide) ?_
  exact k_Mo_clock_27 C0 hST hA hK hE hf hP hD hS (lv_sub hl [0, 1, 2] rfl)
set_option maxHeartbeats 400000 in
set_option maxRecDepth 100000 in
theorem k_Mo_clock_0 (C0 : Cx p s m meth c args R b_Mo_clock "ZoneFilesModel" 8 (some .long) 2 58) (hST : ST A s s.heap) (hA : ∀ q, s.heap.size ≤ q → A q) (hK : va_K (dC, dI) classes (moT cA) s) (hE : ∀ (pc : Nat) (ls : Array Slot) (H : Heap) (locs : List Loc), decode b_Mo_clock pc = .ok (.lreturn, 1) → va_P (dC, dI) classes (moW h0 r cA vi vj va vb) H → va_D A (moW h0 r cA vi vj va vb) → va_S A s.heap H locs → W p l e R s m args below meth c H locs 0 0 Q (F0 m pc ls [.long r0])) {x1 : Int64} {x3 : Int32} {si : Nat → Int32} {sj : Nat → Int64} {sa : Nat → Nat → Int32} {sb : Nat → Nat → Int64} (hf : f_Mo_clock_0 nf x1 x3 si sj sa sb = some (r0, vi, vj, va, vb)) {H : Heap} {locs : List Loc} {ls : Array Slot} (hP : va_P (dC, dI) classes (moW h0 r cA si sj sa sb) H) (hD : va_D A (moW h0 r cA si sj sa sb)) (hS : va_S A s.heap H locs) (hl : lv_has ls 8 [(0, .ref h0), (1, .long x1), (3, .int x3)]) : W p l e R s m args below meth c H locs 0 0 Q (F0 m 0 ls []) := by
  obtain ⟨hx, hb, hr, hml, hown, hts, hlocks, hRf, hRl⟩ := id C0
  unfold f_Mo_clock_0 at hf
  refine lv_aload_n hx hb d_Mo_clock_0 rfl (lv_at hl 0 rfl) ?_
  refine lv_iload_n hx hb d_Mo_clock_1 rfl (lv_at hl 2 rfl) ?_
  refine lv_if_lt (tgt := 11) hx hb d_Mo_clock_2 (by decide) (fun c_1 => ?_) (fun c_1 => ?_)
  · have hf := it_t c_1 hf
    exact k_Mo_clock_11 C0 hST hA hK hE hf hP hD hS (lv_sub hl [0, 1, 2] rfl)
  · have hf := it_f c_1 hf
    refine lv_iload_n hx hb d_Mo_clock_5 rfl (lv_at hl 2 rfl) ?_
    refine lv_bipush (v := 7) hx hb d_Mo_clock_6 (by decide) ?_
    refine lv_icmp_le (tgt := 15) hx hb d_Mo_clock_8 (by decide) (fun c_17 => ?_) (fun c_17 => ?_)
    · have hf := it_t c_17 hf
      refine lv_lload_n hx hb d_Mo_clock_15 rfl (lv_at hl 1 rfl) ?_
      obtain ⟨r_18, hc, hf⟩ := ob hf
      refine cl_S (v := (some (.int r_18))) (st1 := [.int r_18, .ref h0]) (va_runS (As := [.long x1]) (rest := [.ref h0]) ⟨hx, hb, hml, hown, hts⟩ (c_Mo_isInstant l dC dI nf x1 hc) (va_cwS 1 hts (gdS m_7_159 m_7_160 m_1_10 m_7_161) rfl rfl rfl (by decide +kernel) ⟨Nat.le_trans (Nat.le_of_ble_eq_true rfl) hRf, Nat.le_trans (Nat.le_of_ble_eq_true rfl) hRl⟩) (RO.pre0 hK (hST.ro hS)).sta rfl rfl hl.1 rfl (lv_room (Nat.le_of_ble_eq_true rfl)) d_Mo_clock_16 ⟨Nat.zero_le _, Nat.zero_le _⟩) rfl ?_
      refine lv_if_ne (tgt := 26) hx hb d_Mo_clock_19 (by decide) (fun c_19 => ?_) (fun c_19 => ?_)
      · have hf := it_f c_19 hf
        refine lv_iconst (v := 0) hx hb d_Mo_clock_26 (by decide) ?_
        exact k_Mo_clock_27 C0 hST hA hK hE hf hP hD hS (lv_sub hl [0, 1, 2] rfl)
      · have hf := it_t c_19 hf
        refine lv_iconst (v := 2) hx hb d_Mo_clock_22 (by decide) ?_
        refine lv_goto (tgt := 27) hx hb d_Mo_clock_23 (by decide) ?_
        exact k_Mo_clock_27 C0 hST hA hK hE hf hP hD hS (lv_sub hl [0, 1, 2] rfl)
    · have hf := it_f c_17 hf
      exact k_Mo_clock_11 C0 hST hA hK hE hf hP hD hS (lv_sub hl [0, 1, 2] rfl)
end
set_option maxHeartbeats 400000 in
set_option maxRecDepth 100000 in
theorem c_Mo_clock (l : Launch) (dC : Nat → ClassId) (dI : Nat → Nat → Nat) (h0 : Nat) (r : Nat → Nat) (cA : Nat → ClassId) (sz : Nat) (nf : Nat) (p0 : Int64) (p1 : Int32) (si : Nat → Int32) (sj : Nat → Int64) (sa : Nat → Nat → Int32) (sb : Nat → Nat → Int64) {r0 : Int64} {vi : Nat → Int32} {vj : Nat → Int64} {va : Nat → Nat → Int32} {vb : Nat → Nat → Int64} (hf : f_Mo_clock nf p0 p1 si sj sa sb = some (r0, vi, vj, va, vb)) : Met l y_Mo_clock (wd y_Mo_clock b_Mo_clock 8 (some .long)) ({ frames := 2, cells := 0, slots := 0, locals := 58 }) (MU dC dI (moW h0 r cA si sj sa sb) (moT cA) sz [.ref h0, .long p0, .int p1]) (MV (some (.long r0)) (fun t => va_P (dC, dI) classes (moW h0 r cA vi vj va vb) t.heap) (va_A (moW h0 r cA si sj sa sb) sz)) 0 0 (va_A (moW h0 r cA si sj sa sb) sz) :=
  met_M (plainFor_of_name (by decide)) (Nat.le_of_ble_eq_true rfl) (fun p e R s m args below meth c ls hRc hRs hsz hin C0 hST hK hP hD hl => by
    obtain ⟨hx, hb, hr, hml, hown, hts, hlocks, hRf, hRl⟩ := id C0
    subst hsz
    have hA : ∀ q : Nat, s.heap.size ≤ q → va_A (moW h0 r cA si sj sa sb) s.heap.size q := fun q h => Or.inr h
    have hS : va_S (va_A (moW h0 r cA si sj sa sb) s.heap.size) s.heap s.heap [] := va_S.rf
    unfold f_Mo_clock at hf
    exact k_Mo_clock_0 C0 hST hA hK (fun pc ls H locs hd hP hD hS => W.lret hx hb hr (fun t ht hW => ⟨⟨rfl, mo_end ht hP⟩, hS.F ht⟩) hS.2.2 hd) hf hP hD hS (lv_sub hl [0, 1, 2] rfl))
-- ZoneFilesModel.seconds(JIII)J
def f_Mo_seconds_113 (nf : Nat) (s0 : Int64) (si : Nat → Int32) (sj : Nat → Int64) (sa : Nat → Nat → Int32) (sb : Nat → Nat → Int64) : Option (Int64 × (Nat → Int32) × (Nat → Int64) × (Nat → Nat → Int32) × (Nat → Nat → Int64)) :=
  some (s0, si, sj, sa, sb)
def f_Mo_seconds_86 (nf : Nat) (x6 : Int32) (x1 : Int64) (x3 : Int32) (x4 : Int32) (x5 : Int32) (s0 : Int32) (si : Nat → Int32) (sj : Nat → Int64) (sa : Nat → Nat → Int32) (sb : Nat → Nat → Int64) : Option (Int64 × (Nat → Int32) × (Nat → Int64) × (Nat → Nat → Int32) × (Nat → Nat → Int64)) :=
  if x6 = 0 then
  f_Mo_seconds_113 nf 0 (va_up si 3 s0) sj sa sb
  else
  (f_Mo_days nf x1 x3 x4).bind fun r_5 =>
    f_Mo_seconds_113 nf ((r_5 * 86400) + x5.toInt64) (va_up si 3 s0) sj sa sb
def f_Mo_seconds_73 (nf : Nat) (x1 : Int64) (x3 : Int32) (x4 : Int32) (x5 : Int32) (s0 : Int32) (si : Nat → Int32) (sj : Nat → Int64) (sa : Nat → Nat → Int32) (sb : Nat → Nat → Int64) : Option (Int64 × (Nat → Int32) × (Nat → Int64) × (Nat → Nat → Int32) × (Nat → Nat → Int64)) :=
  if s0 = 0 then
  f_Mo_seconds_86 nf s0 x1 x3 x4 x5 1 si sj sa sb
  else
  f_Mo_seconds_86 nf s0 x1 x3 x4 x5 0 si sj sa sb
def f_Mo_seconds_72 (nf : Nat) (x1 : Int64) (x3 : Int32) (x4 : Int32) (x5 : Int32) (si : Nat → Int32) (sj : Nat → Int64) (sa : Nat → Nat → Int32) (sb : Nat → Nat → Int64) : Option (Int64 × (Nat → Int32) × (Nat → Int64) × (Nat → Nat → Int32) × (Nat → Nat → Int64)) :=
  f_Mo_seconds_73 nf x1 x3 x4 x5 0 si sj sa sb
def f_Mo_seconds_32 (nf : Nat) (x1 : Int64) (x3 : Int32) (x4 : Int32) (x5 : Int32) (s0 : Int32) (si : Nat → Int32) (sj : Nat → Int64) (sa : Nat → Nat → Int32) (sb : Nat → Nat → Int64) : Option (Int64 × (Nat → Int32) × (Nat → Int64) × (Nat → Nat → Int32) × (Nat → Nat → Int64)) :=
  if s0 = 0 then
  f_Mo_seconds_72 nf x1 x3 x4 x5 si sj sa sb
  else
  if x4 < (1 : Int32) then
    f_Mo_seconds_72 nf x1 x3 x4 x5 si sj sa sb
    else
    (f_Mo_length nf x1 x3).bind fun r_7 =>
      if r_7 < x4 then
      f_Mo_seconds_72 nf x1 x3 x4 x5 si sj sa sb
      else
      if x5 < 0 then
        f_Mo_seconds_72 nf x1 x3 x4 x5 si sj sa sb
        else
        if (86400 : Int32) ≤ x5 then
          f_Mo_seconds_72 nf x1 x3 x4 x5 si sj sa sb
          else
          f_Mo_seconds_73 nf x1 x3 x4 x5 1 si sj sa sb
def f_Mo_seconds_31 (nf : Nat) (x1 : Int64) (x3 : Int32) (x4 : Int32) (x5 : Int32) (si : Nat → Int32) (sj : Nat → Int64) (sa : Nat → Nat → Int32) (sb : Nat → Nat → Int64) : Option (Int64 × (Nat → Int32) × (Nat → Int64) × (Nat → Nat → Int32) × (Nat → Nat → Int64)) :=
  f_Mo_seconds_32 nf x1 x3 x4 x5 0 si sj sa sb
def f_Mo_seconds_0 (nf : Nat) (x1 : Int64) (x3 : Int32) (x4 : Int32) (x5 : Int32) (si : Nat → Int32) (sj : Nat → Int64) (sa : Nat → Nat → Int32) (sb : Nat → Nat → Int64) : Option (Int64 × (Nat → Int32) × (Nat → Int64) × (Nat → Nat → Int32) × (Nat → Nat → Int64)) :=
  if x1 < (-30000000000 : Int64) then
  f_Mo_seconds_31 nf x1 x3 x4 x5 si sj sa sb
  else
  if (30000000000 : Int64) < x1 then
    f_Mo_seconds_31 nf x1 x3 x4 x5 si sj sa sb
    else
    if x3 < (1 : Int32) then
      f_Mo_seconds_31 nf x1 x3 x4 x5 si sj sa sb
      else
      if (12 : Int32) < x3 then
        f_Mo_seconds_31 nf x1 x3 x4 x5 si sj sa sb
        else
        f_Mo_seconds_32 nf x1 x3 x4 x5 1 si sj sa sb
def f_Mo_seconds (nf : Nat) (p0 : Int64) (p1 : Int32) (p2 : Int32) (p3 : Int32) (si : Nat → Int32) (sj : Nat → Int64) (sa : Nat → Nat → Int32) (sb : Nat → Nat → Int64) : Option (Int64 × (Nat → Int32) × (Nat → Int64) × (Nat → Nat → Int32) × (Nat → Nat → Int64)) :=
  f_Mo_seconds_0 nf p0 p1 p2 p3 si sj sa sb
section
variable {p : Program} {l : Launch} {e : Env} {R : Room} {s : State} {m : MethodId} {args : Array Value} {below : List Frame} {meth : Method} {c : Code} {Q : State → Prop} {dC : Nat → ClassId} {dI : Nat → Nat → Nat} {nf : Nat} {A : Nat → Prop} {h0 : Nat} {r : Nat → Nat} {cA : Nat → ClassId}
variable {r0 : Int64} {vi : Nat → Int32} {vj : Nat → Int64} {va : Nat → Nat → Int32} {vb : Nat → Nat → Int64}
set_option maxHeartbeats 400000 in
set_option maxRecDepth 100000 in
theorem k_Mo_seconds_113 (C0 : Cx p s m meth c args R b_Mo_seconds "ZoneFilesModel" 7 (some .long) 3 68) (hST : ST A s s.heap) (hA : ∀ q, s.heap.size ≤ q → A q) (hK : va_K (dC, dI) classes (moT cA) s) (hE : ∀ (pc : Nat) (ls : Array Slot) (H : Heap) (locs : List Loc), decode b_Mo_seconds pc = .ok (.lreturn, 1) → va_P (dC, dI) classes (moW h0 r cA vi vj va vb) H → va_D A (moW h0 r cA vi vj va vb) → va_S A s.heap H locs → W p l e R s m args below meth c H locs 0 0 Q (F0 m pc ls [.long r0])) {s0 : Int64} {si : Nat → Int32} {sj : Nat → Int64} {sa : Nat → Nat → Int32} {sb : Nat → Nat → Int64} (hf : f_Mo_seconds_113 nf s0 si sj sa sb = some (r0, vi, vj, va, vb)) {H : Heap} {locs : List Loc} {ls : Array Slot} (hP : va_P (dC, dI) classes (moW h0 r cA si sj sa sb) H) (hD : va_D A (moW h0 r cA si sj sa sb)) (hS : va_S A s.heap H locs) (hl : lv_has ls 7 []) : W p l e R s m args below meth c H locs 0 0 Q (F0 m 113 ls [.long s0]) := by
  obtain ⟨hx, hb, hr, hml, hown, hts, hlocks, hRf, hRl⟩ := id C0
  unfold f_Mo_seconds_113 at hf
  cases rs hf
  exact hE _ _ _ _ d_Mo_seconds_113 hP hD hS
set_option maxHeartbeats 400000 in
set_option maxRecDepth 100000 in
theorem k_Mo_seconds_86 (C0 : Cx p s m meth c args R b_Mo_seconds "ZoneFilesModel" 7 (some .long) 3 68) (hST : ST A s s.heap) (hA : ∀ q, s.heap.size ≤ q → A q) (hK : va_K (dC, dI) classes (moT cA) s) (hE : ∀ (pc : Nat) (ls : Array Slot) (H : Heap) (locs : List Loc), decode b_Mo_seconds pc = .ok (.lreturn, 1) → va_P (dC, dI) classes (moW h0 r cA vi vj va vb) H → va_D A (moW h0 r cA vi vj va vb) → va_S A s.heap H locs → W p l e R s m args below meth c H locs 0 0 Q (F0 m pc ls [.long r0])) {x6 : Int32} {x1 : Int64} {x3 : Int32} {x4 : Int32} {x5 : Int32} {s0 : Int32} {si : Nat → Int32} {sj : Nat → Int64} {sa : Nat → Nat → Int32} {sb : Nat → Nat → Int64} (hf : f_Mo_seconds_86 nf x6 x1 x3 x4 x5 s0 si sj sa sb = some (r0, vi, vj, va, vb)) {H : Heap} {locs : List Loc} {ls : Array Slot} (hP : va_P (dC, dI) classes (moW h0 r cA si sj sa sb) H) (hD : va_D A (moW h0 r cA si sj sa sb)) (hS : va_S A s.heap H locs) (hl : lv_has ls 7 [(6, .int x6), (1, .long x1), (3, .int x3), (4, .int x4), (5, .int x5)]) : W p l e R s m args below meth c H locs 0 0 Q (F0 m 86 ls [.int s0, .ref h0]) := by
  obtain ⟨hx, hb, hr, hml, hown, hts, hlocks, hRf, hRl⟩ := id C0
  unfold f_Mo_seconds_86 at hf
  refine mp_3 hx hb hts hown hK hP hD hS d_Mo_seconds_86 (fun H locs hP hD hS => ?_)
  refine lv_iload hx hb d_Mo_seconds_89 (lv_at hl 0 rfl) ?_
  refine lv_if_eq (tgt := 112) hx hb d_Mo_seconds_91 (by decide) (fun c_4 => ?_) (fun c_4 => ?_)
  · have hf := it_t c_4 hf
    refine lv_lconst (v := 0) hx hb d_Mo_seconds_112 (by decide) ?_
    exact k_Mo_seconds_113 C0 hST hA hK hE hf hP hD hS (lv_sub hl [] rfl)
  · have hf := it_f c_4 hf
    refine lv_lload_n hx hb d_Mo_seconds_94 rfl (lv_at hl 1 rfl) ?_
    refine lv_iload_n hx hb d_Mo_seconds_95 rfl (lv_at hl 2 rfl) ?_
    refine lv_iload hx hb d_Mo_seconds_96 (lv_at hl 3 rfl) ?_
    obtain ⟨r_5, hc, hf⟩ := ob hf
    refine cl_S (v := (some (.long r_5))) (st1 := [.long r_5]) (va_runS (As := [.long x1, .int x3, .int x4]) (rest := []) ⟨hx, hb, hml, hown, hts⟩ (c_Mo_days l dC dI nf x1 x3 x4 hc) (va_cwS 3 hts (gdS m_8_11 m_8_12 m_1_10 m_8_13) rfl rfl rfl (by decide +kernel) ⟨Nat.le_trans (Nat.le_of_ble_eq_true rfl) hRf, Nat.le_trans (Nat.le_of_ble_eq_true rfl) hRl⟩) (RO.pre0 hK (hST.ro hS)).sta rfl rfl hl.1 rfl (lv_room (Nat.le_of_ble_eq_true rfl)) d_Mo_seconds_98 ⟨Nat.zero_le _, Nat.zero_le _⟩) rfl ?_
    refine lv_ldc2 (v := 86400) hx hb hown (hts (.constantLong "ZoneFilesModel" 335 86400) m_7_224) d_Mo_seconds_101 ?_
    refine lv_lmul hx hb d_Mo_seconds_104 ?_
    refine lv_iload hx hb d_Mo_seconds_105 (lv_at hl 4 rfl) ?_
    refine lv_i2l hx hb d_Mo_seconds_107 rfl ?_
    refine lv_ladd hx hb d_Mo_seconds_108 ?_
    refine lv_goto (tgt := 113) hx hb d_Mo_seconds_109 (by decide) ?_
    exact k_Mo_seconds_113 C0 hST hA hK hE hf hP hD hS (lv_sub hl [] rfl)
set_option maxHeartbeats 400000 in
set_option maxRecDepth 100000 in
theorem k_Mo_seconds_73 (C0 : Cx p s m meth c args R b_Mo_seconds "ZoneFilesModel" 7 (some .long) 3 68) (hST : ST A s s.heap) (hA : ∀ q, s.heap.size ≤ q → A q) (hK : va_K (dC, dI) classes (moT cA) s) (hE : ∀ (pc : Nat) (ls : Array Slot) (H : Heap) (locs : List Loc), decode b_Mo_seconds pc = .ok (.lreturn, 1) → va_P (dC, dI) classes (moW h0 r cA vi vj va vb) H → va_D A (moW h0 r cA vi vj va vb) → va_S A s.heap H locs → W p l e R s m args below meth c H locs 0 0 Q (F0 m pc ls [.long r0])) {x1 : Int64} {x3 : Int32} {x4 : Int32} {x5 : Int32} {s0 : Int32} {si : Nat → Int32} {sj : Nat → Int64} {sa : Nat → Nat → Int32} {sb : Nat → Nat → Int64} (hf : f_Mo_seconds_73 nf x1 x3 x4 x5 s0 si sj sa sb = some (r0, vi, vj, va, vb)) {H : Heap} {locs : List Loc} {ls : Array Slot} (hP : va_P (dC, dI) classes (moW h0 r cA si sj sa sb) H) (hD : va_D A (moW h0 r cA si sj sa sb)) (hS : va_S A s.heap H locs) (hl : lv_has ls 7 [(0, .ref h0), (1, .long x1), (3, .int x3), (4, .int x4), (5, .int x5)]) : W p l e R s m args below meth c H locs 0 0 Q (F0 m 73 ls [.int s0]) := by
  obtain ⟨hx, hb, hr, hml, hown, hts, hlocks, hRf, hRl⟩ := id C0
  unfold f_Mo_seconds_73 at hf
  refine lv_istore (lv' := [(6, .int s0), (0, .ref h0), (1, .long x1), (3, .int x3), (4, .int x4), (5, .int x5)]) hx hb d_Mo_seconds_73 hl (by decide) rfl (fun ls hl => ?_)
  refine lv_aload_n hx hb d_Mo_seconds_75 rfl (lv_at hl 1 rfl) ?_
  refine lv_iload hx hb d_Mo_seconds_76 (lv_at hl 0 rfl) ?_
  refine lv_if_eq (tgt := 85) hx hb d_Mo_seconds_78 (by decide) (fun c_3 => ?_) (fun c_3 => ?_)
  · have hf := it_t c_3 hf
    refine lv_iconst (v := 1) hx hb d_Mo_seconds_85 (by decide) ?_
    exact k_Mo_seconds_86 C0 hST hA hK hE hf hP hD hS (lv_sub hl [0, 2, 3, 4, 5] rfl)
  · have hf := it_f c_3 hf
    refine lv_iconst (v := 0) hx hb d_Mo_seconds_81 (by decide) ?_
    refine lv_goto (tgt := 86) hx hb d_Mo_seconds_82 (by decide) ?_
    exact k_Mo_seconds_86 C0 hST hA hK hE hf hP hD hS (lv_sub hl [0, 2, 3, 4, 5] rfl)
set_option maxHeartbeats 400000 in
set_option maxRecDepth 100000 in
theorem k_Mo_seconds_72 (C0 : Cx p s m meth c args R b_Mo_seconds "ZoneFilesModel" 7 (some .long) 3 68) (hST : ST A s s.heap) (hA : ∀ q, s.heap.size ≤ q → A q) (hK : va_K (dC, dI) classes (moT cA) s) (hE : ∀ (pc : Nat) (ls : Array Slot) (H : Heap) (locs : List Loc), decode b_Mo_seconds pc = .ok (.lreturn, 1) → va_P (dC, dI) classes (moW h0 r cA vi vj va vb) H → va_D A (moW h0 r cA vi vj va vb) → va_S A s.heap H locs → W p l e R s m args below meth c H locs 0 0 Q (F0 m pc ls [.long r0])) {x1 : Int64} {x3 : Int32} {x4 : Int32} {x5 : Int32} {si : Nat → Int32} {sj : Nat → Int64} {sa : Nat → Nat → Int32} {sb : Nat → Nat → Int64} (hf : f_Mo_seconds_72 nf x1 x3 x4 x5 si sj sa sb = some (r0, vi, vj, va, vb)) {H : Heap} {locs : List Loc} {ls : Array Slot} (hP : va_P (dC, dI) classes (moW h0 r cA si sj sa sb) H) (hD : va_D A (moW h0 r cA si sj sa sb)) (hS : va_S A s.heap H locs) (hl : lv_has ls 7 [(0, .ref h0), (1, .long x1), (3, .int x3), (4, .int x4), (5, .int x5)]) : W p l e R s m args below meth c H locs 0 0 Q (F0 m 72 ls []) := by
  obtain ⟨hx, hb, hr, hml, hown, hts, hlocks, hRf, hRl⟩ := id C0
  unfold f_Mo_seconds_72 at hf
  refine lv_iconst (v := 0) hx hb d_Mo_seconds_72 (by decide) ?_
  exact k_Mo_seconds_73 C0 hST hA hK hE hf hP hD hS (lv_sub hl [0, 1, 2, 3, 4] rfl)
set_option maxHeartbeats 400000 in
set_option maxRecDepth 100000 in
theorem k_Mo_seconds_32 (C0 : Cx p s m meth c args R b_Mo_seconds "ZoneFilesModel" 7 (some .long) 3 68) (hST : ST A s s.heap) (hA : ∀ q, s.heap.size ≤ q → A q) (hK : va_K (dC, dI) classes (moT cA) s) (hE : ∀ (pc : Nat) (ls : Array Slot) (H : Heap) (locs : List Loc), decode b_Mo_seconds pc = .ok (.lreturn, 1) → va_P (dC, dI) classes (moW h0 r cA vi vj va vb) H → va_D A (moW h0 r cA vi vj va vb) → va_S A s.heap H locs → W p l e R s m args below meth c H locs 0 0 Q (F0 m pc ls [.long r0])) {x1 : Int64} {x3 : Int32} {x4 : Int32} {x5 : Int32} {s0 : Int32} {si : Nat → Int32} {sj : Nat → Int64} {sa : Nat → Nat → Int32} {sb : Nat → Nat → Int64} (hf : f_Mo_seconds_32 nf x1 x3 x4 x5 s0 si sj sa sb = some (r0, vi, vj, va, vb)) {H : Heap} {locs : List Loc} {ls : Array Slot} (hP : va_P (dC, dI) classes (moW h0 r cA si sj sa sb) H) (hD : va_D A (moW h0 r cA si sj sa sb)) (hS : va_S A s.heap H locs) (hl : lv_has ls 7 [(0, .ref h0), (1, .long x1), (3, .int x3), (4, .int x4), (5, .int x5)]) : W p l e R s m args below meth c H locs 0 0 Q (F0 m 32 ls [.int s0]) := by
  obtain ⟨hx, hb, hr, hml, hown, hts, hlocks, hRf, hRl⟩ := id C0
  unfold f_Mo_seconds_32 at hf
  refine lv_istore (lv' := [(6, .int s0), (0, .ref h0), (1, .long x1), (3, .int x3), (4, .int x4), (5, .int x5)]) hx hb d_Mo_seconds_32 hl (by decide) rfl (fun ls hl => ?_)
  refine lv_iload hx hb d_Mo_seconds_34 (lv_at hl 0 rfl) ?_
  refine lv_if_eq (tgt := 72) hx hb d_Mo_seconds_36 (by decide) (fun c_2 => ?_) (fun c_2 => ?_)
  · have hf := it_t c_2 hf
    exact k_Mo_seconds_72 C0 hST hA hK hE hf hP hD hS (lv_sub hl [1, 2, 3, 4, 5] rfl)
  · have hf := it_f c_2 hf
    refine lv_iload hx hb d_Mo_seconds_39 (lv_at hl 4 rfl) ?_
    refine lv_iconst (v := 1) hx hb d_Mo_seconds_41 (by decide) ?_
    refine lv_icmp_lt (tgt := 72) hx hb d_Mo_seconds_42 (by decide) (fun c_6 => ?_) (fun c_6 => ?_)
    · have hf := it_t c_6 hf
      exact k_Mo_seconds_72 C0 hST hA hK hE hf hP hD hS (lv_sub hl [1, 2, 3, 4, 5] rfl)
    · have hf := it_f c_6 hf
      refine lv_iload hx hb d_Mo_seconds_45 (lv_at hl 4 rfl) ?_
      refine lv_lload_n hx hb d_Mo_seconds_47 rfl (lv_at hl 2 rfl) ?_
      refine lv_iload_n hx hb d_Mo_seconds_48 rfl (lv_at hl 3 rfl) ?_
      obtain ⟨r_7, hc, hf⟩ := ob hf
      refine cl_S (v := (some (.int r_7))) (st1 := [.int r_7, .int x4]) (va_runS (As := [.long x1, .int x3]) (rest := [.int x4]) ⟨hx, hb, hml, hown, hts⟩ (c_Mo_length l dC dI nf x1 x3 hc) (va_cwS 2 hts (gdS m_8_21 m_8_22 m_1_10 m_8_23) rfl rfl rfl (by decide +kernel) ⟨Nat.le_trans (Nat.le_of_ble_eq_true rfl) hRf, Nat.le_trans (Nat.le_of_ble_eq_true rfl) hRl⟩) (RO.pre0 hK (hST.ro hS)).sta rfl rfl hl.1 rfl (lv_room (Nat.le_of_ble_eq_true rfl)) d_Mo_seconds_49 ⟨Nat.zero_le _, Nat.zero_le _⟩) rfl ?_
      refine lv_icmp_gt (tgt := 72) hx hb d_Mo_seconds_52 (by decide) (fun c_8 => ?_) (fun c_8 => ?_)
      · have hf := it_t c_8 hf
        exact k_Mo_seconds_72 C0 hST hA hK hE hf hP hD hS (lv_sub hl [1, 2, 3, 4, 5] rfl)
      · have hf := it_f c_8 hf
        refine lv_iload hx hb d_Mo_seconds_55 (lv_at hl 5 rfl) ?_
        refine lv_if_lt (tgt := 72) hx hb d_Mo_seconds_57 (by decide) (fun c_9 => ?_) (fun c_9 => ?_)
        · have hf := it_t c_9 hf
          exact k_Mo_seconds_72 C0 hST hA hK hE hf hP hD hS (lv_sub hl [1, 2, 3, 4, 5] rfl)
        · have hf := it_f c_9 hf
          refine lv_iload hx hb d_Mo_seconds_60 (lv_at hl 5 rfl) ?_
          refine lv_ldcw (v := 86400) hx hb hown (hts (.constant "ZoneFilesModel" 361 86400) m_8_40) d_Mo_seconds_62 ?_
          refine lv_icmp_ge (tgt := 72) hx hb d_Mo_seconds_65 (by decide) (fun c_10 => ?_) (fun c_10 => ?_)
          · have hf := it_t c_10 hf
            exact k_Mo_seconds_72 C0 hST hA hK hE hf hP hD hS (lv_sub hl [1, 2, 3, 4, 5] rfl)
          · have hf := it_f c_10 hf
            refine lv_iconst (v := 1) hx hb d_Mo_seconds_68 (by decide) ?_
            refine lv_goto (tgt := 73) hx hb d_Mo_seconds_69 (by decide) ?_
            exact k_Mo_seconds_73 C0 hST hA hK hE hf hP hD hS (lv_sub hl [1, 2, 3, 4, 5] rfl)
set_option maxHeartbeats 400000 in
set_option maxRecDepth 100000 in
theorem k_Mo_seconds_31 (C0 : Cx p s m meth c args R b_Mo_seconds "ZoneFilesModel" 7 (some .long) 3 68) (hST : ST A s s.heap) (hA : ∀ q, s.heap.size ≤ q → A q) (hK : va_K (dC, dI) classes (moT cA) s) (hE : ∀ (pc : Nat) (ls : Array Slot) (H : Heap) (locs : List Loc), decode b_Mo_seconds pc = .ok (.lreturn, 1) → va_P (dC, dI) classes (moW h0 r cA vi vj va vb) H → va_D A (moW h0 r cA vi vj va vb) → va_S A s.heap H locs → W p l e R s m args below meth c H locs 0 0 Q (F0 m pc ls [.long r0])) {x1 : Int64} {x3 : Int32} {x4 : Int32} {x5 : Int32} {si : Nat → Int32} {sj : Nat → Int64} {sa : Nat → Nat → Int32} {sb : Nat → Nat → Int64} (hf : f_Mo_seconds_31 nf x1 x3 x4 x5 si sj sa sb = some (r0, vi, vj, va, vb)) {H : Heap} {locs : List Loc} {ls : Array Slot} (hP : va_P (dC, dI) classes (moW h0 r cA si sj sa sb) H) (hD : va_D A (moW h0 r cA si sj sa sb)) (hS : va_S A s.heap H locs) (hl : lv_has ls 7 [(0, .ref h0), (1, .long x1), (3, .int x3), (4, .int x4), (5, .int x5)]) : W p l e R s m args below meth c H locs 0 0 Q (F0 m 31 ls []) := by
  obtain ⟨hx, hb, hr, hml, hown, hts, hlocks, hRf, hRl⟩ := id C0
  unfold f_Mo_seconds_31 at hf
  refine lv_iconst (v := 0) hx hb d_Mo_seconds_31 (by decide) ?_
  exact k_Mo_seconds_32 C0 hST hA hK hE hf hP hD hS (lv_sub hl [0, 1, 2, 3, 4] rfl)
set_option maxHeartbeats 400000 in
set_option maxRecDepth 100000 in
theorem k_Mo_seconds_0 (C0 : Cx p s m meth c args R b_Mo_seconds "ZoneFilesModel" 7 (some .long) 3 68) (hST : ST A s s.heap) (hA : ∀ q, s.heap.size ≤ q → A q) (hK : va_K (dC, dI) classes (moT cA) s) (hE : ∀ (pc : Nat) (ls : Array Slot) (H : Heap) (locs : List Loc), decode b_Mo_seconds pc = .ok (.lreturn, 1) → va_P (dC, dI) classes (moW h0 r cA vi vj va vb) H → va_D A (moW h0 r cA vi vj va vb) → va_S A s.heap H locs → W p l e R s m args below meth c H locs 0 0 Q (F0 m pc ls [.long r0])) {x1 : Int64} {x3 : Int32} {x4 : Int32} {x5 : Int32} {si : Nat → Int32} {sj : Nat → Int64} {sa : Nat → Nat → Int32} {sb : Nat → Nat → Int64} (hf : f_Mo_seconds_0 nf x1 x3 x4 x5 si sj sa sb = some (r0, vi, vj, va, vb)) {H : Heap} {locs : List Loc} {ls : Array Slot} (hP : va_P (dC, dI) classes (moW h0 r cA si sj sa sb) H) (hD : va_D A (moW h0 r cA si sj sa sb)) (hS : va_S A s.heap H locs) (hl : lv_has ls 7 [(0, .ref h0), (1, .long x1), (3, .int x3), (4, .int x4), (5, .int x5)]) : W p l e R s m args below meth c H locs 0 0 Q (F0 m 0 ls []) := by
  obtain ⟨hx, hb, hr, hml, hown, hts, hlocks, hRf, hRl⟩ := id C0
  unfold f_Mo_seconds_0 at hf
  refine lv_lload_n hx hb d_Mo_seconds_0 rfl (lv_at hl 1 rfl) ?_
  refine lv_ldc2 (v := (-30000000000)) hx hb hown (hts (.constantLong "ZoneFilesModel" 353 (-30000000000)) m_8_38) d_Mo_seconds_1 ?_
  refine lc_lt (tgt := 31) hx hb d_Mo_seconds_4 d_Mo_seconds_5 (by decide) (fun c_1 => ?_) (fun c_1 => ?_)
  · have hf := it_t c_1 hf
    exact k_Mo_seconds_31 C0 hST hA hK hE hf hP hD hS (lv_sub hl [0, 1, 2, 3, 4] rfl)
  · have hf := it_f c_1 hf
    refine lv_lload_n hx hb d_Mo_seconds_8 rfl (lv_at hl 1 rfl) ?_
    refine lv_ldc2 (v := 30000000000) hx hb hown (hts (.constantLong "ZoneFilesModel" 355 30000000000) m_8_39) d_Mo_seconds_9 ?_
    refine lc_gt (tgt := 31) hx hb d_Mo_seconds_12 d_Mo_seconds_13 (by decide) (fun c_11 => ?_) (fun c_11 => ?_)
    · have hf := it_t c_11 hf
      exact k_Mo_seconds_31 C0 hST hA hK hE hf hP hD hS (lv_sub hl [0, 1, 2, 3, 4] rfl)
    · have hf := it_f c_11 hf
      refine lv_iload_n hx hb d_Mo_seconds_16 rfl (lv_at hl 2 rfl) ?_
      refine lv_iconst (v := 1) hx hb d_Mo_seconds_17 (by decide) ?_
      refine lv_icmp_lt (tgt := 31) hx hb d_Mo_seconds_18 (by decide) (fun c_12 => ?_) (fun c_12 => ?_)
      · have hf := it_t c_12 hf
        exact k_Mo_seconds_31 C0 hST hA hK hE hf hP hD hS (lv_sub hl [0, 1, 2, 3, 4] rfl)
      · have hf := it_f c_12 hf
        refine lv_iload_n hx hb d_Mo_seconds_21 rfl (lv_at hl 2 rfl) ?_
        refine lv_bipush (v := 12) hx hb d_Mo_seconds_22 (by decide) ?_
        refine lv_icmp_gt (tgt := 31) hx hb d_Mo_seconds_24 (by decide) (fun c_13 => ?_) (fun c_13 => ?_)
        · have hf := it_t c_13 hf
          exact k_Mo_seconds_31 C0 hST hA hK hE hf hP hD hS (lv_sub hl [0, 1, 2, 3, 4] rfl)
        · have hf := it_f c_13 hf
          refine lv_iconst (v := 1) hx hb d_Mo_seconds_27 (by decide) ?_
          refine lv_goto (tgt := 32) hx hb d_Mo_seconds_28 (by decide) ?_
          exact k_Mo_seconds_32 C0 hST hA hK hE hf hP hD hS (lv_sub hl [0, 1, 2, 3, 4] rfl)
end
set_option maxHeartbeats 400000 in
set_option maxRecDepth 100000 in
theorem c_Mo_seconds (l : Launch) (dC : Nat → ClassId) (dI : Nat → Nat → Nat) (h0 : Nat) (r : Nat → Nat) (cA : Nat → ClassId) (sz : Nat) (nf : Nat) (p0 : Int64) (p1 : Int32) (p2 : Int32) (p3 : Int32) (si : Nat → Int32) (sj : Nat → Int64) (sa : Nat → Nat → Int32) (sb : Nat → Nat → Int64) {r0 : Int64} {vi : Nat → Int32} {vj : Nat → Int64} {va : Nat → Nat → Int32} {vb : Nat → Nat → Int64} (hf : f_Mo_seconds nf p0 p1 p2 p3 si sj sa sb = some (r0, vi, vj, va, vb)) : Met l y_Mo_seconds (wd y_Mo_seconds b_Mo_seconds 7 (some .long)) ({ frames := 3, cells := 0, slots := 0, locals := 68 }) (MU dC dI (moW h0 r cA si sj sa sb) (moT cA) sz [.ref h0, .long p0, .int p1, .int p2, .int p3]) (MV (some (.long r0)) (fun t => va_P (dC, dI) classes (moW h0 r cA vi vj va vb) t.heap) (va_A (moW h0 r cA si sj sa sb) sz)) 0 0 (va_A (moW h0 r cA si sj sa sb) sz) :=
  met_M (plainFor_of_name (by decide)) (Nat.le_of_ble_eq_true rfl) (fun p e R s m args below meth c ls hRc hRs hsz hin C0 hST hK hP hD hl => by
    obtain ⟨hx, hb, hr, hml, hown, hts, hlocks, hRf, hRl⟩ := id C0
    subst hsz
    have hA : ∀ q : Nat, s.heap.size ≤ q → va_A (moW h0 r cA si sj sa sb) s.heap.size q := fun q h => Or.inr h
    have hS : va_S (va_A (moW h0 r cA si sj sa sb) s.heap.size) s.heap s.heap [] := va_S.rf
    unfold f_Mo_seconds at hf
    exact k_Mo_seconds_0 C0 hST hA hK (fun pc ls H locs hd hP hD hS => W.lret hx hb hr (fun t ht hW => ⟨⟨rfl, mo_end ht hP⟩, hS.F ht⟩) hS.2.2 hd) hf hP hD hS (lv_sub hl [0, 1, 2, 3, 4] rfl))
-- ZoneFilesModel.state(IJ)V
def f_Mo_state_140 (nf : Nat) (si : Nat → Int32) (sj : Nat → Int64) (sa : Nat → Nat → Int32) (sb : Nat → Nat → Int64) : Option ((Nat → Int32) × (Nat → Int64) × (Nat → Nat → Int32) × (Nat → Nat → Int64)) :=
  some (si, sj, sa, sb)
def f_Mo_state_96 (nf : Nat) : Nat → Int32 → Int32 → Int64 → (Nat → Int32) → (Nat → Int64) → (Nat → Nat → Int32) → (Nat → Nat → Int64) → Option ((Nat → Int32) × (Nat → Int64) × (Nat → Nat → Int32) × (Nat → Nat → Int64))
  | 0, _, _, _, _, _, _, _ => none
  | n + 1, x5, x1, x2, si, sj, sa, sb =>
    if (((200 * x1) + x5) + 1) < 0 ∨ 1000 ≤ (((200 * x1) + x5) + 1).toNatClampNeg then none else
    if x2 < (sb 12 (((200 * x1) + x5) + 1).toNatClampNeg) then
    if ((200 * x1) + x5) < 0 ∨ 1000 ≤ ((200 * x1) + x5).toNatClampNeg then none else
      (f_Mo_byType nf x1 (sa 13 ((200 * x1) + x5).toNatClampNeg) si sj sa sb).bind fun (i_10, j_11, a_12, b_13) =>
      f_Mo_state_140 nf i_10 j_11 a_12 b_13
    else
    f_Mo_state_96 nf n (x5 + 1) x1 x2 si sj sa sb
def f_Mo_state_0 (nf : Nat) (x1 : Int32) (x2 : Int64) (si : Nat → Int32) (sj : Nat → Int64) (sa : Nat → Nat → Int32) (sb : Nat → Nat → Int64) : Option ((Nat → Int32) × (Nat → Int64) × (Nat → Nat → Int32) × (Nat → Nat → Int64)) :=
  if x1 < 0 ∨ 5 ≤ x1.toNatClampNeg then none else
  if (sa 5 x1.toNatClampNeg) = 0 then
  if x1 < 0 ∨ 5 ≤ x1.toNatClampNeg then none else
    if (sa 23 x1.toNatClampNeg) ≤ 0 then
    (f_Mo_byType nf x1 0 si sj sa sb).bind fun (i_24, j_25, a_26, b_27) =>
      f_Mo_state_140 nf i_24 j_25 a_26 b_27
    else
    (f_Mo_byRule nf x1 x2 si sj sa sb).bind fun (i_28, j_29, a_30, b_31) =>
      f_Mo_state_140 nf i_28 j_29 a_30 b_31
  else
  if (200 * x1) < 0 ∨ 1000 ≤ (200 * x1).toNatClampNeg then none else
    if (sb 12 (200 * x1).toNatClampNeg) ≤ x2 then
    if (((200 * x1) + (sa 5 x1.toNatClampNeg)) - 1) < 0 ∨ 1000 ≤ (((200 * x1) + (sa 5 x1.toNatClampNeg)) - 1).toNatClampNeg then none else
      if x2 < (sb 12 (((200 * x1) + (sa 5 x1.toNatClampNeg)) - 1).toNatClampNeg) then
      f_Mo_state_96 nf nf 0 x1 x2 si sj sa sb
      else
      (f_Mo_byRule nf x1 x2 si sj sa sb).bind fun (i_14, j_15, a_16, b_17) =>
        f_Mo_state_140 nf i_14 j_15 a_16 b_17
    else
    (f_Mo_byType nf x1 0 si sj sa sb).bind fun (i_18, j_19, a_20, b_21) =>
      f_Mo_state_140 nf i_18 j_19 a_20 b_21
def f_Mo_state (nf : Nat) (p0 : Int32) (p1 : Int64) (si : Nat → Int32) (sj : Nat → Int64) (sa : Nat → Nat → Int32) (sb : Nat → Nat → Int64) : Option ((Nat → Int32) × (Nat → Int64) × (Nat → Nat → Int32) × (Nat → Nat → Int64)) :=
  f_Mo_state_0 nf p0 p1 si sj sa sb
section
variable {p : Program} {l : Launch} {e : Env} {R : Room} {s : State} {m : MethodId} {args : Array Value} {below : List Frame} {meth : Method} {c : Code} {Q : State → Prop} {dC : Nat → ClassId} {dI : Nat → Nat → Nat} {nf : Nat} {A : Nat → Prop} {h0 : Nat} {r : Nat → Nat} {cA : Nat → ClassId}
variable {vi : Nat → Int32} {vj : Nat → Int64} {va : Nat → Nat → Int32} {vb : Nat → Nat → Int64}
set_option maxHeartbeats 400000 in
set_option maxRecDepth 100000 in
theorem k_Mo_state_140 (C0 : Cx p s m meth c args R b_Mo_state "ZoneFilesModel" 6 none 7 179) (hST : ST A s s.heap) (hA : ∀ q, s.heap.size ≤ q → A q) (hK : va_K (dC, dI) classes (moT cA) s) (hE : ∀ (pc : Nat) (ls : Array Slot) (H : Heap) (locs : List Loc), decode b_Mo_state pc = .ok (.return_, 1) → va_P (dC, dI) classes (moW h0 r cA vi vj va vb) H → va_D A (moW h0 r cA vi vj va vb) → va_S A s.heap H locs → W p l e R s m args below meth c H locs 0 0 Q (F0 m pc ls [])) {si : Nat → Int32} {sj : Nat → Int64} {sa : Nat → Nat → Int32} {sb : Nat → Nat → Int64} (hf : f_Mo_state_140 nf si sj sa sb = some (vi, vj, va, vb)) {H : Heap} {locs : List Loc} {ls : Array Slot} (hP : va_P (dC, dI) classes (moW h0 r cA si sj sa sb) H) (hD : va_D A (moW h0 r cA si sj sa sb)) (hS : va_S A s.heap H locs) (hl : lv_has ls 6 []) : W p l e R s m args below meth c H locs 0 0 Q (F0 m 140 ls []) := by
  obtain ⟨hx, hb, hr, hml, hown, hts, hlocks, hRf, hRl⟩ := id C0
  unfold f_Mo_state_140 at hf
  cases rs hf
  exact hE _ _ _ _ d_Mo_state_140 hP hD hS
set_option maxHeartbeats 400000 in
set_option maxRecDepth 100000 in
theorem k_Mo_state_96 (C0 : Cx p s m meth c args R b_Mo_state "ZoneFilesModel" 6 none 7 179) (hST : ST A s s.heap) (hA : ∀ q, s.heap.size ≤ q → A q) (hK : va_K (dC, dI) classes (moT cA) s) (hE : ∀ (pc : Nat) (ls : Array Slot) (H : Heap) (locs : List Loc), decode b_Mo_state pc = .ok (.return_, 1) → va_P (dC, dI) classes (moW h0 r cA vi vj va vb) H → va_D A (moW h0 r cA vi vj va vb) → va_S A s.heap H locs → W p l e R s m args below meth c H locs 0 0 Q (F0 m pc ls [])) : ∀ (n : Nat) {x5 : Int32} {x1 : Int32} {x2 : Int64} {si : Nat → Int32} {sj : Nat → Int64} {sa : Nat → Nat → Int32} {sb : Nat → Nat → Int64}, f_Mo_state_96 nf n x5 x1 x2 si sj sa sb = some (vi, vj, va, vb) → ∀ {H : Heap} {locs : List Loc} {ls : Array Slot}, va_P (dC, dI) classes (moW h0 r cA si sj sa sb) H → va_D A (moW h0 r cA si sj sa sb) → va_S A s.heap H locs → lv_has ls 6 [(5, .int x5), (0, .ref h0), (1, .int x1), (2, .long x2)] → W p l e R s m args below meth c H locs 0 0 Q (F0 m 96 ls []) := by
  obtain ⟨hx, hb, hr, hml, hown, hts, hlocks, hRf, hRl⟩ := id C0
  intro n
  induction n with
  | zero =>
    intro x5 x1 x2 si sj sa sb hf
    exact absurd hf (by simp [f_Mo_state_96])
  | succ n ih =>
    intro x5 x1 x2 si sj sa sb hf H locs ls hP hD hS hl
    unfold f_Mo_state_96 at hf
    refine lv_aload_n hx hb d_Mo_state_96 rfl (lv_at hl 1 rfl) ?_
    refine mg_12 hx hb hts hown hK hP d_Mo_state_97 ?_
    refine lv_sipush (v := 200) hx hb d_Mo_state_100 (by decide) ?_
    refine lv_iload_n hx hb d_Mo_state_103 rfl (lv_at hl 2 rfl) ?_
    refine lv_imul hx hb d_Mo_state_104 ?_
    refine lv_iload hx hb d_Mo_state_105 (lv_at hl 0 rfl) ?_
    refine lv_iadd hx hb d_Mo_state_107 ?_
    refine lv_iconst (v := 1) hx hb d_Mo_state_108 (by decide) ?_
    refine lv_iadd hx hb d_Mo_state_109 ?_
    obtain ⟨c_7, hf⟩ := it_n hf
    refine ma_12 (v := sb 12 (((200 * x1) + x5) + 1).toNatClampNeg) hx hb hK hP c_7 rfl d_Mo_state_110 ?_
    refine lv_lload_n hx hb d_Mo_state_111 rfl (lv_at hl 3 rfl) ?_
    refine lc_gt (tgt := 122) hx hb d_Mo_state_112 d_Mo_state_113 (by decide) (fun c_8 => ?_) (fun c_8 => ?_)
    · have hf := it_t c_8 hf
      refine lv_aload_n hx hb d_Mo_state_122 rfl (lv_at hl 1 rfl) ?_
      refine lv_iload_n hx hb d_Mo_state_123 rfl (lv_at hl 2 rfl) ?_
      refine lv_aload_n hx hb d_Mo_state_124 rfl (lv_at hl 1 rfl) ?_
      refine mg_13 hx hb hts hown hK hP d_Mo_state_125 ?_
      refine lv_sipush (v := 200) hx hb d_Mo_state_128 (by decide) ?_
      refine lv_iload_n hx hb d_Mo_state_131 rfl (lv_at hl 2 rfl) ?_
      refine lv_imul hx hb d_Mo_state_132 ?_
      refine lv_iload hx hb d_Mo_state_133 (lv_at hl 0 rfl) ?_
      refine lv_iadd hx hb d_Mo_state_135 ?_
      obtain ⟨c_9, hf⟩ := it_n hf
      refine ma_13 (v := sa 13 ((200 * x1) + x5).toNatClampNeg) hx hb hK hP c_9 rfl d_Mo_state_136 ?_
      obtain ⟨⟨i_10, j_11, a_12, b_13⟩, hc, hf⟩ := ob hf
      have hFc := mo_free hD hS hA
      refine cl_M (v := none) (st1 := []) (va_runV (As := [.int x1, .int (sa 13 ((200 * x1) + x5).toNatClampNeg)]) (rest := []) ⟨hx, hb, hml, hown, hts⟩ (c_Mo_byType l dC dI h0 r cA H.size nf x1 (sa 13 ((200 * x1) + x5).toNatClampNeg) si sj sa sb hc) (cwV 2 hts (gdV m_7_200 m_7_202 msel_73 m_1_10 m_7_203) rfl rfl rfl (by decide +kernel) ⟨Nat.le_trans (Nat.le_of_ble_eq_true rfl) hRf, Nat.le_trans (Nat.le_of_ble_eq_true rfl) hRl⟩) ((MU.pre hP hK hD (hST.mu hS hFc)).vir (va_recv hK hP (ci := 10) (q0 := 0) rfl rfl)) rfl rfl hl.1 rfl (lv_room (Nat.le_of_ble_eq_true rfl)) d_Mo_state_137 ⟨Nat.zero_le _, Nat.zero_le _⟩) rfl hS (fun q _ h => hFc q h) hFc (fun t H1 locs ht hvm hB hz1 hk1 hS => ?_)
      obtain ⟨hP, hD⟩ := mo_back ht hD hB
      generalize H1 = H at hP hS ⊢
      exact k_Mo_state_140 C0 hST hA hK hE hf hP hD hS (lv_sub hl [] rfl)
    · have hf := it_f c_8 hf
      refine lv_iinc (v := x5 + 1) (lv' := [(5, .int (x5 + 1)), (0, .ref h0), (1, .int x1), (2, .long x2)]) hx hb d_Mo_state_116 hl (k := 0) rfl rfl (by decide) rfl (fun ls hl => ?_)
      refine lv_goto (tgt := 96) hx hb d_Mo_state_119 (by decide) ?_
      exact ih hf hP hD hS (lv_sub hl [0, 1, 2, 3] rfl)
set_option maxHeartbeats 400000 in
set_option maxRecDepth 100000 in
theorem k_Mo_state_0 (C0 : Cx p s m meth c args R b_Mo_state "ZoneFilesModel" 6 none 7 179) (hST : ST A s s.heap) (hA : ∀ q, s.heap.size ≤ q → A q) (hK : va_K (dC, dI) classes (moT cA) s) (hE : ∀ (pc : Nat) (ls : Array Slot) (H : Heap) (locs : List Loc), decode b_Mo_state pc = .ok (.return_, 1) → va_P (dC, dI) classes (moW h0 r cA vi vj va vb) H → va_D A (moW h0 r cA vi vj va vb) → va_S A s.heap H locs → W p l e R s m args below meth c H locs 0 0 Q (F0 m pc ls [])) {x1 : Int32} {x2 : Int64} {si : Nat → Int32} {sj : Nat → Int64} {sa : Nat → Nat → Int32} {sb : Nat → Nat → Int64} (hf : f_Mo_state_0 nf x1 x2 si sj sa sb = some (vi, vj, va, vb)) {H : Heap} {locs : List Loc} {ls : Array Slot} (hP : va_P (dC, dI) classes (moW h0 r cA si sj sa sb) H) (hD : va_D A (moW h0 r cA si sj sa sb)) (hS : va_S A s.heap H locs) (hl : lv_has ls 6 [(0, .ref h0), (1, .int x1), (2, .long x2)]) : W p l e R s m args below meth c H locs 0 0 Q (F0 m 0 ls []) := by
  obtain ⟨hx, hb, hr, hml, hown, hts, hlocks, hRf, hRl⟩ := id C0
  unfold f_Mo_state_0 at hf
  refine lv_aload_n hx hb d_Mo_state_0 rfl (lv_at hl 0 rfl) ?_
  refine mg_5 hx hb hts hown hK hP d_Mo_state_1 ?_
  refine lv_iload_n hx hb d_Mo_state_4 rfl (lv_at hl 1 rfl) ?_
  obtain ⟨c_1, hf⟩ := it_n hf
  refine ma_5 (v := sa 5 x1.toNatClampNeg) hx hb hK hP c_1 rfl d_Mo_state_5 ?_
  refine lv_istore (lv' := [(4, .int (sa 5 x1.toNatClampNeg)), (0, .ref h0), (1, .int x1), (2, .long x2)]) hx hb d_Mo_state_6 hl (by decide) rfl (fun ls hl => ?_)
  refine lv_iload hx hb d_Mo_state_8 (lv_at hl 0 rfl) ?_
  refine lv_if_ne (tgt := 40) hx hb d_Mo_state_10 (by decide) (fun c_2 => ?_) (fun c_2 => ?_)
  · have hf := it_f c_2 hf
    refine lv_lload_n hx hb d_Mo_state_40 rfl (lv_at hl 3 rfl) ?_
    refine lv_aload_n hx hb d_Mo_state_41 rfl (lv_at hl 1 rfl) ?_
    refine mg_12 hx hb hts hown hK hP d_Mo_state_42 ?_
    refine lv_sipush (v := 200) hx hb d_Mo_state_45 (by decide) ?_
    refine lv_iload_n hx hb d_Mo_state_48 rfl (lv_at hl 2 rfl) ?_
    refine lv_imul hx hb d_Mo_state_49 ?_
    obtain ⟨c_3, hf⟩ := it_n hf
    refine ma_12 (v := sb 12 (200 * x1).toNatClampNeg) hx hb hK hP c_3 rfl d_Mo_state_50 ?_
    refine lc_ge (tgt := 64) hx hb d_Mo_state_51 d_Mo_state_52 (by decide) (fun c_4 => ?_) (fun c_4 => ?_)
    · have hf := it_t c_4 hf
      refine lv_lload_n hx hb d_Mo_state_64 rfl (lv_at hl 3 rfl) ?_
      refine lv_aload_n hx hb d_Mo_state_65 rfl (lv_at hl 1 rfl) ?_
      refine mg_12 hx hb hts hown hK hP d_Mo_state_66 ?_
      refine lv_sipush (v := 200) hx hb d_Mo_state_69 (by decide) ?_
      refine lv_iload_n hx hb d_Mo_state_72 rfl (lv_at hl 2 rfl) ?_
      refine lv_imul hx hb d_Mo_state_73 ?_
      refine lv_iload hx hb d_Mo_state_74 (lv_at hl 0 rfl) ?_
      refine lv_iadd hx hb d_Mo_state_76 ?_
      refine lv_iconst (v := 1) hx hb d_Mo_state_77 (by decide) ?_
      refine lv_isub hx hb d_Mo_state_78 ?_
      obtain ⟨c_5, hf⟩ := it_n hf
      refine ma_12 (v := sb 12 (((200 * x1) + (sa 5 x1.toNatClampNeg)) - 1).toNatClampNeg) hx hb hK hP c_5 rfl d_Mo_state_79 ?_
      refine lc_lt (tgt := 93) hx hb d_Mo_state_80 d_Mo_state_81 (by decide) (fun c_6 => ?_) (fun c_6 => ?_)
      · have hf := it_t c_6 hf
        refine lv_iconst (v := 0) hx hb d_Mo_state_93 (by decide) ?_
        refine lv_istore (lv' := [(5, .int 0), (4, .int (sa 5 x1.toNatClampNeg)), (0, .ref h0), (1, .int x1), (2, .long x2)]) hx hb d_Mo_state_94 hl (by decide) rfl (fun ls hl => ?_)
        exact k_Mo_state_96 C0 hST hA hK hE nf hf hP hD hS (lv_sub hl [0, 2, 3, 4] rfl)
      · have hf := it_f c_6 hf
        refine lv_aload_n hx hb d_Mo_state_84 rfl (lv_at hl 1 rfl) ?_
        refine lv_iload_n hx hb d_Mo_state_85 rfl (lv_at hl 2 rfl) ?_
        refine lv_lload_n hx hb d_Mo_state_86 rfl (lv_at hl 3 rfl) ?_
        obtain ⟨⟨i_14, j_15, a_16, b_17⟩, hc, hf⟩ := ob hf
        have hFc := mo_free hD hS hA
        refine cl_M (v := none) (st1 := []) (va_runV (As := [.int x1, .long x2]) (rest := []) ⟨hx, hb, hml, hown, hts⟩ (c_Mo_byRule l dC dI h0 r cA H.size nf x1 x2 si sj sa sb hc) (cwV 2 hts (gdV m_7_208 m_7_210 msel_75 m_1_10 m_7_211) rfl rfl rfl (by decide +kernel) ⟨Nat.le_trans (Nat.le_of_ble_eq_true rfl) hRf, Nat.le_trans (Nat.le_of_ble_eq_true rfl) hRl⟩) ((MU.pre hP hK hD (hST.mu hS hFc)).vir (va_recv hK hP (ci := 10) (q0 := 0) rfl rfl)) rfl rfl hl.1 rfl (lv_room (Nat.le_of_ble_eq_true rfl)) d_Mo_state_87 ⟨Nat.zero_le _, Nat.zero_le _⟩) rfl hS (fun q _ h => hFc q h) hFc (fun t H1 locs ht hvm hB hz1 hk1 hS => ?_)
        obtain ⟨hP, hD⟩ := mo_back ht hD hB
        generalize H1 = H at hP hS ⊢
        refine lv_goto (tgt := 140) hx hb d_Mo_state_90 (by decide) ?_
        exact k_Mo_state_140 C0 hST hA hK hE hf hP hD hS (lv_sub hl [] rfl)
    · have hf := it_f c_4 hf
      refine lv_aload_n hx hb d_Mo_state_55 rfl (lv_at hl 1 rfl) ?_
      refine lv_iload_n hx hb d_Mo_state_56 rfl (lv_at hl 2 rfl) ?_
      refine lv_iconst (v := 0) hx hb d_Mo_state_57 (by decide) ?_
      obtain ⟨⟨i_18, j_19, a_20, b_21⟩, hc, hf⟩ := ob hf
      have hFc := mo_free hD hS hA
      refine cl_M (v := none) (st1 := []) (va_runV (As := [.int x1, .int 0]) (rest := []) ⟨hx, hb, hml, hown, hts⟩ (c_Mo_byType l dC dI h0 r cA H.size nf x1 0 si sj sa sb hc) (cwV 2 hts (gdV m_7_200 m_7_202 msel_73 m_1_10 m_7_203) rfl rfl rfl (by decide +kernel) ⟨Nat.le_trans (Nat.le_of_ble_eq_true rfl) hRf, Nat.le_trans (Nat.le_of_ble_eq_true rfl) hRl⟩) ((MU.pre hP hK hD (hST.mu hS hFc)).vir (va_recv hK hP (ci := 10) (q0 := 0) rfl rfl)) rfl rfl hl.1 rfl (lv_room (Nat.le_of_ble_eq_true rfl)) d_Mo_state_58 ⟨Nat.zero_le _, Nat.zero_le _⟩) rfl hS (fun q _ h => hFc q h) hFc (fun t H1 locs ht hvm hB hz1 hk1 hS => ?_)
      obtain ⟨hP, hD⟩ := mo_back ht hD hB
      generalize H1 = H at hP hS ⊢
      refine lv_goto (tgt := 140) hx hb d_Mo_state_61 (by decide) ?_
      exact k_Mo_state_140 C0 hST hA hK hE hf hP hD hS (lv_sub hl [] rfl)
  · have hf := it_t c_2 hf
    refine lv_aload_n hx hb d_Mo_state_13 rfl (lv_at hl 1 rfl) ?_
    refine mg_23 hx hb hts hown hK hP d_Mo_state_14 ?_
    refine lv_iload_n hx hb d_Mo_state_17 rfl (lv_at hl 2 rfl) ?_
    obtain ⟨c_22, hf⟩ := it_n hf
    refine ma_23 (v := sa 23 x1.toNatClampNeg) hx hb hK hP c_22 rfl d_Mo_state_18 ?_
    refine lv_if_le (tgt := 31) hx hb d_Mo_state_19 (by decide) (fun c_23 => ?_) (fun c_23 => ?_)
    · have hf := it_t c_23 hf
      refine lv_aload_n hx hb d_Mo_state_31 rfl (lv_at hl 1 rfl) ?_
      refine lv_iload_n hx hb d_Mo_state_32 rfl (lv_at hl 2 rfl) ?_
      refine lv_iconst (v := 0) hx hb d_Mo_state_33 (by decide) ?_
      obtain ⟨⟨i_24, j_25, a_26, b_27⟩, hc, hf⟩ := ob hf
      have hFc := mo_free hD hS hA
      refine cl_M (v := none) (st1 := []) (va_runV (As := [.int x1, .int 0]) (rest := []) ⟨hx, hb, hml, hown, hts⟩ (c_Mo_byType l dC dI h0 r cA H.size nf x1 0 si sj sa sb hc) (cwV 2 hts (gdV m_7_200 m_7_202 msel_73 m_1_10 m_7_203) rfl rfl rfl (by decide +kernel) ⟨Nat.le_trans (Nat.le_of_ble_eq_true rfl) hRf, Nat.le_trans (Nat.le_of_ble_eq_true rfl) hRl⟩) ((MU.pre hP hK hD (hST.mu hS hFc)).vir (va_recv hK hP (ci := 10) (q0 := 0) rfl rfl)) rfl rfl hl.1 rfl (lv_room (Nat.le_of_ble_eq_true rfl)) d_Mo_state_34 ⟨Nat.zero_le _, Nat.zero_le _⟩) rfl hS (fun q _ h => hFc q h) hFc (fun t H1 locs ht hvm hB hz1 hk1 hS => ?_)
      obtain ⟨hP, hD⟩ := mo_back ht hD hB
      generalize H1 = H at hP hS ⊢
      refine lv_goto (tgt := 140) hx hb d_Mo_state_37 (by decide) ?_
      exact k_Mo_state_140 C0 hST hA hK hE hf hP hD hS (lv_sub hl [] rfl)
    · have hf := it_f c_23 hf
      refine lv_aload_n hx hb d_Mo_state_22 rfl (lv_at hl 1 rfl) ?_
      refine lv_iload_n hx hb d_Mo_state_23 rfl (lv_at hl 2 rfl) ?_
      refine lv_lload_n hx hb d_Mo_state_24 rfl (lv_at hl 3 rfl) ?_
      obtain ⟨⟨i_28, j_29, a_30, b_31⟩, hc, hf⟩ := ob hf
      have hFc := mo_free hD hS hA
      refine cl_M (v := none) (st1 := []) (va_runV (As := [.int x1, .long x2]) (rest := []) ⟨hx, hb, hml, hown, hts⟩ (c_Mo_byRule l dC dI h0 r cA H.size nf x1 x2 si sj sa sb hc) (cwV 2 hts (gdV m_7_208 m_7_210 msel_75 m_1_10 m_7_211) rfl rfl rfl (by decide +kernel) ⟨Nat.le_trans (Nat.le_of_ble_eq_true rfl) hRf, Nat.le_trans (Nat.le_of_ble_eq_true rfl) hRl⟩) ((MU.pre hP hK hD (hST.mu hS hFc)).vir (va_recv hK hP (ci := 10) (q0 := 0) rfl rfl)) rfl rfl hl.1 rfl (lv_room (Nat.le_of_ble_eq_true rfl)) d_Mo_state_25 ⟨Nat.zero_le _, Nat.zero_le _⟩) rfl hS (fun q _ h => hFc q h) hFc (fun t H1 locs ht hvm hB hz1 hk1 hS => ?_)
      obtain ⟨hP, hD⟩ := mo_back ht hD hB
      generalize H1 = H at hP hS ⊢
      refine lv_goto (tgt := 140) hx hb d_Mo_state_28 (by decide) ?_
      exact k_Mo_state_140 C0 hST hA hK hE hf hP hD hS (lv_sub hl [] rfl)
end
set_option maxHeartbeats 400000 in
set_option maxRecDepth 100000 in
theorem c_Mo_state (l : Launch) (dC : Nat → ClassId) (dI : Nat → Nat → Nat) (h0 : Nat) (r : Nat → Nat) (cA : Nat → ClassId) (sz : Nat) (nf : Nat) (p0 : Int32) (p1 : Int64) (si : Nat → Int32) (sj : Nat → Int64) (sa : Nat → Nat → Int32) (sb : Nat → Nat → Int64) {vi : Nat → Int32} {vj : Nat → Int64} {va : Nat → Nat → Int32} {vb : Nat → Nat → Int64} (hf : f_Mo_state nf p0 p1 si sj sa sb = some (vi, vj, va, vb)) : Met l y_Mo_state (wd y_Mo_state b_Mo_state 6 none) ({ frames := 7, cells := 0, slots := 0, locals := 179 }) (MU dC dI (moW h0 r cA si sj sa sb) (moT cA) sz [.ref h0, .int p0, .long p1]) (MV none (fun t => va_P (dC, dI) classes (moW h0 r cA vi vj va vb) t.heap) (va_A (moW h0 r cA si sj sa sb) sz)) 0 0 (va_A (moW h0 r cA si sj sa sb) sz) :=
  met_M (plainFor_of_name (by decide)) (Nat.le_of_ble_eq_true rfl) (fun p e R s m args below meth c ls hRc hRs hsz hin C0 hST hK hP hD hl => by
    obtain ⟨hx, hb, hr, hml, hown, hts, hlocks, hRf, hRl⟩ := id C0
    subst hsz
    have hA : ∀ q : Nat, s.heap.size ≤ q → va_A (moW h0 r cA si sj sa sb) s.heap.size q := fun q h => Or.inr h
    have hS : va_S (va_A (moW h0 r cA si sj sa sb) s.heap.size) s.heap s.heap [] := va_S.rf
    unfold f_Mo_state at hf
    exact k_Mo_state_0 C0 hST hA hK (fun pc ls H locs hd hP hD hS => W.vret hx hb hr (fun t ht hW => ⟨⟨rfl, mo_end ht hP⟩, hS.F ht⟩) hS.2.2 hd) hf hP hD hS (lv_sub hl [0, 1, 2] rfl))
-- ZoneFilesModel.noZone(I)Z
def f_Mo_noZone_14 (nf : Nat) (s0 : Int32) : Option (Int32) :=
  if s0 = 0 ∨ s0 = 1 then some s0 else none
def f_Mo_noZone_9 (nf : Nat) : Option (Int32) :=
  f_Mo_noZone_14 nf 1
def f_Mo_noZone_0 (nf : Nat) (x1 : Int32) : Option (Int32) :=
  if x1 < 0 then
  f_Mo_noZone_9 nf
  else
  if x1 < (4 : Int32) then
    f_Mo_noZone_14 nf 0
    else
    f_Mo_noZone_9 nf
def f_Mo_noZone (nf : Nat) (p0 : Int32) (si : Nat → Int32) (sj : Nat → Int64) (sa : Nat → Nat → Int32) (sb : Nat → Nat → Int64) : Option (Int32) :=
  f_Mo_noZone_0 nf p0
section
variable {p : Program} {l : Launch} {e : Env} {R : Room} {s : State} {m : MethodId} {args : Array Value} {below : List Frame} {meth : Method} {c : Code} {Q : State → Prop} {dC : Nat → ClassId} {dI : Nat → Nat → Nat} {nf : Nat} {A : Nat → Prop} {h0 : Nat} {r : Nat → Nat} {cA : Nat → ClassId}
variable {si : Nat → Int32} {sj : Nat → Int64} {sa : Nat → Nat → Int32} {sb : Nat → Nat → Int64} {r0 : Int32}
set_option maxHeartbeats 400000 in
set_option maxRecDepth 100000 in
theorem k_Mo_noZone_14 (C0 : Cx p s m meth c args R b_Mo_noZone "ZoneFilesModel" 2 (some .boolean) 0 0) (hST : ST (fun _ => False) s s.heap) (hK : va_K (dC, dI) classes (moT cA) s) (hP : va_P (dC, dI) classes (moW h0 r cA si sj sa sb) s.heap) (hE : ∀ (pc : Nat) (ls : Array Slot), decode b_Mo_noZone pc = .ok (.ireturn, 1) → narrow .boolean (.int r0) = .int r0 → W p l e R s m args below meth c s.heap [] 0 0 Q (F0 m pc ls [.int r0])) {s0 : Int32} (hf : f_Mo_noZone_14 nf s0 = some r0) {ls : Array Slot} (hl : lv_has ls 2 []) : W p l e R s m args below meth c s.heap [] 0 0 Q (F0 m 14 ls [.int s0]) := by
  obtain ⟨hx, hb, hr, hml, hown, hts, hlocks, hRf, hRl⟩ := id C0
  obtain ⟨tms, hZms, hTms, tmg, hZmg, hTmg, hNW⟩ := id hST
  unfold f_Mo_noZone_14 at hf
  obtain ⟨c_2, hf⟩ := it_g hf
  cases rs hf
  exact hE _ _ d_Mo_noZone_14 (nb_of c_2)
set_option maxHeartbeats 400000 in
set_option maxRecDepth 100000 in
theorem k_Mo_noZone_9 (C0 : Cx p s m meth c args R b_Mo_noZone "ZoneFilesModel" 2 (some .boolean) 0 0) (hST : ST (fun _ => False) s s.heap) (hK : va_K (dC, dI) classes (moT cA) s) (hP : va_P (dC, dI) classes (moW h0 r cA si sj sa sb) s.heap) (hE : ∀ (pc : Nat) (ls : Array Slot), decode b_Mo_noZone pc = .ok (.ireturn, 1) → narrow .boolean (.int r0) = .int r0 → W p l e R s m args below meth c s.heap [] 0 0 Q (F0 m pc ls [.int r0])) (hf : f_Mo_noZone_9 nf = some r0) {ls : Array Slot} (hl : lv_has ls 2 []) : W p l e R s m args below meth c s.heap [] 0 0 Q (F0 m 9 ls []) := by
  obtain ⟨hx, hb, hr, hml, hown, hts, hlocks, hRf, hRl⟩ := id C0
  obtain ⟨tms, hZms, hTms, tmg, hZmg, hTmg, hNW⟩ := id hST
  unfold f_Mo_noZone_9 at hf
  refine lv_iconst (v := 1) hx hb d_Mo_noZone_9 (by decide) ?_
  refine lv_goto (tgt := 14) hx hb d_Mo_noZone_10 (by decide) ?_
  exact k_Mo_noZone_14 C0 hST hK hP hE hf (lv_sub hl [] rfl)
set_option maxHeartbeats 400000 in
set_option maxRecDepth 100000 in
theorem k_Mo_noZone_0 (C0 : Cx p s m meth c args R b_Mo_noZone "ZoneFilesModel" 2 (some .boolean) 0 0) (hST : ST (fun _ => False) s s.heap) (hK : va_K (dC, dI) classes (moT cA) s) (hP : va_P (dC, dI) classes (moW h0 r cA si sj sa sb) s.heap) (hE : ∀ (pc : Nat) (ls : Array Slot), decode b_Mo_noZone pc = .ok (.ireturn, 1) → narrow .boolean (.int r0) = .int r0 → W p l e R s m args below meth c s.heap [] 0 0 Q (F0 m pc ls [.int r0])) {x1 : Int32} (hf : f_Mo_noZone_0 nf x1 = some r0) {ls : Array Slot} (hl : lv_has ls 2 [(1, .int x1)]) : W p l e R s m args below meth c s.heap [] 0 0 Q (F0 m 0 ls []) := by
  obtain ⟨hx, hb, hr, hml, hown, hts, hlocks, hRf, hRl⟩ := id C0
  obtain ⟨tms, hZms, hTms, tmg, hZmg, hTmg, hNW⟩ := id hST
  unfold f_Mo_noZone_0 at hf
  refine lv_iload_n hx hb d_Mo_noZone_0 rfl (lv_at hl 0 rfl) ?_
  refine lv_if_lt (tgt := 9) hx hb d_Mo_noZone_1 (by decide) (fun c_1 => ?_) (fun c_1 => ?_)
  · have hf := it_t c_1 hf
    exact k_Mo_noZone_9 C0 hST hK hP hE hf (lv_sub hl [] rfl)
  · have hf := it_f c_1 hf
    refine lv_iload_n hx hb d_Mo_noZone_4 rfl (lv_at hl 0 rfl) ?_
    refine lv_iconst (v := 4) hx hb d_Mo_noZone_5 (by decide) ?_
    refine lv_icmp_lt (tgt := 13) hx hb d_Mo_noZone_6 (by decide) (fun c_3 => ?_) (fun c_3 => ?_)
    · have hf := it_t c_3 hf
      refine lv_iconst (v := 0) hx hb d_Mo_noZone_13 (by decide) ?_
      exact k_Mo_noZone_14 C0 hST hK hP hE hf (lv_sub hl [] rfl)
    · have hf := it_f c_3 hf
      exact k_Mo_noZone_9 C0 hST hK hP hE hf (lv_sub hl [] rfl)
end
set_option maxHeartbeats 400000 in
set_option maxRecDepth 100000 in
theorem c_Mo_noZone (l : Launch) (dC : Nat → ClassId) (dI : Nat → Nat → Nat) (h0 : Nat) (r : Nat → Nat) (cA : Nat → ClassId) (nf : Nat) (p0 : Int32) (si : Nat → Int32) (sj : Nat → Int64) (sa : Nat → Nat → Int32) (sb : Nat → Nat → Int64) {r0 : Int32} (hf : f_Mo_noZone nf p0 si sj sa sb = some r0) : Met l y_Mo_noZone (wd y_Mo_noZone b_Mo_noZone 2 (some .boolean)) ({ frames := 0, cells := 0, slots := 0, locals := 0 }) (RO dC dI (moW h0 r cA si sj sa sb) (moT cA) [.ref h0, .int p0]) (SV (some (.int r0))) 0 0 (fun _ => False) :=
  met_S (plainFor_of_name (by decide)) (Nat.le_of_ble_eq_true rfl) (fun p e R s m args below meth c ls C0 hST hK hP hl => by
    obtain ⟨hx, hb, hr, hml, hown, hts, hlocks, hRf, hRl⟩ := id C0
    unfold f_Mo_noZone at hf
    exact k_Mo_noZone_0 C0 hST hK hP (fun pc ls hd hn => W.zret hx hb hr hn (fun t ht hW => ⟨rfl, ht⟩) (fun q h => by cases h) hd) hf (lv_sub hl [1] rfl))
-- ZoneFilesModel.at(IJI)I
def f_Mo_at_110 (nf : Nat) (s0 : Int32) (si : Nat → Int32) (sj : Nat → Int64) (sa : Nat → Nat → Int32) (sb : Nat → Nat → Int64) : Option (Int32 × (Nat → Int32) × (Nat → Int64) × (Nat → Nat → Int32) × (Nat → Nat → Int64)) :=
  some (s0, si, sj, sa, sb)
def f_Mo_at_36 (nf : Nat) (x1 : Int32) (x2 : Int64) (x4 : Int32) (s0 : Int32) (si : Nat → Int32) (sj : Nat → Int64) (sa : Nat → Nat → Int32) (sb : Nat → Nat → Int64) : Option (Int32 × (Nat → Int32) × (Nat → Int64) × (Nat → Nat → Int32) × (Nat → Nat → Int64)) :=
  if s0 ≤ 0 then
  (f_Mo_state nf x1 x2 (va_up si 3 s0) sj sa sb).bind fun (i_4, j_5, a_6, b_7) =>
    if (i_4 43) = (2 : Int32) then
    f_Mo_at_110 nf (-2147483648) i_4 j_5 a_6 b_7
    else
    if x4 = 0 then
      f_Mo_at_110 nf (i_4 45) i_4 j_5 a_6 b_7
      else
      if x4 = (1 : Int32) then
        f_Mo_at_110 nf (i_4 46) i_4 j_5 a_6 b_7
        else
        if x4 = (2 : Int32) then
          f_Mo_at_110 nf (i_4 47) i_4 j_5 a_6 b_7
          else
          f_Mo_at_110 nf (i_4 44) i_4 j_5 a_6 b_7
  else
  some (0, va_up si 3 s0, sj, sa, sb)
def f_Mo_at_20 (nf : Nat) (x1 : Int32) (x2 : Int64) (x4 : Int32) (si : Nat → Int32) (sj : Nat → Int64) (sa : Nat → Nat → Int32) (sb : Nat → Nat → Int64) : Option (Int32 × (Nat → Int32) × (Nat → Int64) × (Nat → Nat → Int32) × (Nat → Nat → Int64)) :=
  f_Mo_at_36 nf x1 x2 x4 1 si sj sa sb
def f_Mo_at_0 (nf : Nat) (x1 : Int32) (x2 : Int64) (x4 : Int32) (si : Nat → Int32) (sj : Nat → Int64) (sa : Nat → Nat → Int32) (sb : Nat → Nat → Int64) : Option (Int32 × (Nat → Int32) × (Nat → Int64) × (Nat → Nat → Int32) × (Nat → Nat → Int64)) :=
  (f_Mo_noZone nf x1 si sj sa sb).bind fun r_1 =>
  if r_1 = 0 then
  if x4 < 0 then
    f_Mo_at_20 nf x1 x2 x4 si sj sa sb
    else
    if x4 ≤ (3 : Int32) then
      (f_Mo_isInstant nf x2).bind fun r_14 =>
        if r_14 = 0 then
        f_Mo_at_36 nf x1 x2 x4 2 si sj sa sb
        else
        f_Mo_at_36 nf x1 x2 x4 0 si sj sa sb
      else
      f_Mo_at_20 nf x1 x2 x4 si sj sa sb
  else
  f_Mo_at_20 nf x1 x2 x4 si sj sa sb
def f_Mo_at (nf : Nat) (p0 : Int32) (p1 : Int64) (p2 : Int32) (si : Nat → Int32) (sj : Nat → Int64) (sa : Nat → Nat → Int32) (sb : Nat → Nat → Int64) : Option (Int32 × (Nat → Int32) × (Nat → Int64) × (Nat → Nat → Int32) × (Nat → Nat → Int64)) :=
  f_Mo_at_0 nf p0 p1 p2 si sj sa sb
section
variable {p : Program} {l : Launch} {e : Env} {R : Room} {s : State} {m : MethodId} {args : Array Value} {below : List Frame} {meth : Method} {c : Code} {Q : State → Prop} {dC : Nat → ClassId} {dI : Nat → Nat → Nat} {nf : Nat} {A : Nat → Prop} {h0 : Nat} {r : Nat → Nat} {cA : Nat → ClassId}
variable {r0 : Int32} {vi : Nat → Int32} {vj : Nat → Int64} {va : Nat → Nat → Int32} {vb : Nat → Nat → Int64}
set_option maxHeartbeats 400000 in
set_option maxRecDepth 100000 in
theorem k_Mo_at_110 (C0 : Cx p s m meth c args R b_Mo_at "ZoneFilesModel" 5 (some .int) 8 204) (hST : ST A s s.heap) (hA : ∀ q, s.heap.size ≤ q → A q) (hK : va_K (dC, dI) classes (moT cA) s) (hE : ∀ (pc : Nat) (ls : Array Slot) (H : Heap) (locs : List Loc), decode b_Mo_at pc = .ok (.ireturn, 1) → narrow .int (.int r0) = .int r0 → va_P (dC, dI) classes (moW h0 r cA vi vj va vb) H → va_D A (moW h0 r cA vi vj va vb) → va_S A s.heap H locs → W p l e R s m args below meth c H locs 0 0 Q (F0 m pc ls [.int r0])) {s0 : Int32} {si : Nat → Int32} {sj : Nat → Int64} {sa : Nat → Nat → Int32} {sb : Nat → Nat → Int64} (hf : f_Mo_at_110 nf s0 si sj sa sb = some (r0, vi, vj, va, vb)) {H : Heap} {locs : List Loc} {ls : Array Slot} (hP : va_P (dC, dI) classes (moW h0 r cA si sj sa sb) H) (hD : va_D A (moW h0 r cA si sj sa sb)) (hS : va_S A s.heap H locs) (hl : lv_has ls 5 []) : W p l e R s m args below meth c H locs 0 0 Q (F0 m 110 ls [.int s0]) := by
  obtain ⟨hx, hb, hr, hml, hown, hts, hlocks, hRf, hRl⟩ := id C0
  unfold f_Mo_at_110 at hf
  cases rs hf
  exact hE _ _ _ _ d_Mo_at_110 rfl hP hD hS
set_option maxHeartbeats 400000 in
set_option maxRecDepth 100000 in
theorem k_Mo_at_36 (C0 : Cx p s m meth c args R b_Mo_at "ZoneFilesModel" 5 (some .int) 8 204) (hST : ST A s s.heap) (hA : ∀ q, s.heap.size ≤ q → A q) (hK : va_K (dC, dI) classes (moT cA) s) (hE : ∀ (pc : Nat) (ls : Array Slot) (H : Heap) (locs : List Loc), decode b_Mo_at pc = .ok (.ireturn, 1) → narrow .int (.int r0) = .int r0 → va_P (dC, dI) classes (moW h0 r cA vi vj va vb) H → va_D A (moW h0 r cA vi vj va vb) → va_S A s.heap H locs → W p l e R s m args below meth c H locs 0 0 Q (F0 m pc ls [.int r0])) {x1 : Int32} {x2 : Int64} {x4 : Int32} {s0 : Int32} {si : Nat → Int32} {sj : Nat → Int64} {sa : Nat → Nat → Int32} {sb : Nat → Nat → Int64} (hf : f_Mo_at_36 nf x1 x2 x4 s0 si sj sa sb = some (r0, vi, vj, va, vb)) {H : Heap} {locs : List Loc} {ls : Array Slot} (hP : va_P (dC, dI) classes (moW h0 r cA si sj sa sb) H) (hD : va_D A (moW h0 r cA si sj sa sb)) (hS : va_S A s.heap H locs) (hl : lv_has ls 5 [(0, .ref h0), (1, .int x1), (2, .long x2), (4, .int x4)]) : W p l e R s m args below meth c H locs 0 0 Q (F0 m 36 ls [.int s0, .ref h0]) := by
  obtain ⟨hx, hb, hr, hml, hown, hts, hlocks, hRf, hRl⟩ := id C0
  unfold f_Mo_at_36 at hf
  refine mp_3 hx hb hts hown hK hP hD hS d_Mo_at_36 (fun H locs hP hD hS => ?_)
  refine lv_aload_n hx hb d_Mo_at_39 rfl (lv_at hl 0 rfl) ?_
  refine mg_3 (v := s0) hx hb hts hown hK hP rfl d_Mo_at_40 ?_
  refine lv_if_le (tgt := 48) hx hb d_Mo_at_43 (by decide) (fun c_3 => ?_) (fun c_3 => ?_)
  · have hf := it_t c_3 hf
    refine lv_aload_n hx hb d_Mo_at_48 rfl (lv_at hl 0 rfl) ?_
    refine lv_iload_n hx hb d_Mo_at_49 rfl (lv_at hl 1 rfl) ?_
    refine lv_lload_n hx hb d_Mo_at_50 rfl (lv_at hl 2 rfl) ?_
    obtain ⟨⟨i_4, j_5, a_6, b_7⟩, hc, hf⟩ := ob hf
    have hFc := mo_free hD hS hA
    refine cl_M (v := none) (st1 := []) (va_runV (As := [.int x1, .long x2]) (rest := []) ⟨hx, hb, hml, hown, hts⟩ (c_Mo_state l dC dI h0 r cA H.size nf x1 x2 (va_up si 3 s0) sj sa sb hc) (cwV 2 hts (gdV m_8_49 m_8_51 msel_84 m_1_10 m_8_52) rfl rfl rfl (by decide +kernel) ⟨Nat.le_trans (Nat.le_of_ble_eq_true rfl) hRf, Nat.le_trans (Nat.le_of_ble_eq_true rfl) hRl⟩) ((MU.pre hP hK hD (hST.mu hS hFc)).vir (va_recv hK hP (ci := 10) (q0 := 0) rfl rfl)) rfl rfl hl.1 rfl (lv_room (Nat.le_of_ble_eq_true rfl)) d_Mo_at_51 ⟨Nat.zero_le _, Nat.zero_le _⟩) rfl hS (fun q _ h => hFc q h) hFc (fun t H1 locs ht hvm hB hz1 hk1 hS => ?_)
    obtain ⟨hP, hD⟩ := mo_back ht hD hB
    generalize H1 = H at hP hS ⊢
    refine lv_aload_n hx hb d_Mo_at_54 rfl (lv_at hl 0 rfl) ?_
    refine mg_43 (v := i_4 43) hx hb hts hown hK hP rfl d_Mo_at_55 ?_
    refine lv_iconst (v := 2) hx hb d_Mo_at_58 (by decide) ?_
    refine lv_icmp_ne (tgt := 68) hx hb d_Mo_at_59 (by decide) (fun c_8 => ?_) (fun c_8 => ?_)
    · have hf := it_f c_8 hf
      refine lv_iload hx hb d_Mo_at_68 (lv_at hl 3 rfl) ?_
      refine lv_if_ne (tgt := 80) hx hb d_Mo_at_70 (by decide) (fun c_9 => ?_) (fun c_9 => ?_)
      · have hf := it_f c_9 hf
        refine lv_iload hx hb d_Mo_at_80 (lv_at hl 3 rfl) ?_
        refine lv_iconst (v := 1) hx hb d_Mo_at_82 (by decide) ?_
        refine lv_icmp_ne (tgt := 93) hx hb d_Mo_at_83 (by decide) (fun c_10 => ?_) (fun c_10 => ?_)
        · have hf := it_f c_10 hf
          refine lv_iload hx hb d_Mo_at_93 (lv_at hl 3 rfl) ?_
          refine lv_iconst (v := 2) hx hb d_Mo_at_95 (by decide) ?_
          refine lv_icmp_ne (tgt := 106) hx hb d_Mo_at_96 (by decide) (fun c_11 => ?_) (fun c_11 => ?_)
          · have hf := it_f c_11 hf
            refine lv_aload_n hx hb d_Mo_at_106 rfl (lv_at hl 0 rfl) ?_
            refine mg_44 (v := i_4 44) hx hb hts hown hK hP rfl d_Mo_at_107 ?_
            exact k_Mo_at_110 C0 hST hA hK hE hf hP hD hS (lv_sub hl [] rfl)
          · have hf := it_t c_11 hf
            refine lv_aload_n hx hb d_Mo_at_99 rfl (lv_at hl 0 rfl) ?_
            refine mg_47 (v := i_4 47) hx hb hts hown hK hP rfl d_Mo_at_100 ?_
            refine lv_goto (tgt := 110) hx hb d_Mo_at_103 (by decide) ?_
            exact k_Mo_at_110 C0 hST hA hK hE hf hP hD hS (lv_sub hl [] rfl)
        · have hf := it_t c_10 hf
          refine lv_aload_n hx hb d_Mo_at_86 rfl (lv_at hl 0 rfl) ?_
          refine mg_46 (v := i_4 46) hx hb hts hown hK hP rfl d_Mo_at_87 ?_
          refine lv_goto (tgt := 110) hx hb d_Mo_at_90 (by decide) ?_
          exact k_Mo_at_110 C0 hST hA hK hE hf hP hD hS (lv_sub hl [] rfl)
      · have hf := it_t c_9 hf
        refine lv_aload_n hx hb d_Mo_at_73 rfl (lv_at hl 0 rfl) ?_
        refine mg_45 (v := i_4 45) hx hb hts hown hK hP rfl d_Mo_at_74 ?_
        refine lv_goto (tgt := 110) hx hb d_Mo_at_77 (by decide) ?_
        exact k_Mo_at_110 C0 hST hA hK hE hf hP hD hS (lv_sub hl [] rfl)
    · have hf := it_t c_8 hf
      refine lv_ldcw (v := (-2147483648)) hx hb hown (hts (.constant "ZoneFilesModel" 429 (-2147483648)) m_8_53) d_Mo_at_62 ?_
      refine lv_goto (tgt := 110) hx hb d_Mo_at_65 (by decide) ?_
      exact k_Mo_at_110 C0 hST hA hK hE hf hP hD hS (lv_sub hl [] rfl)
  · have hf := it_f c_3 hf
    refine lv_iconst (v := 0) hx hb d_Mo_at_46 (by decide) ?_
    cases rs hf
    exact hE _ _ _ _ d_Mo_at_47 rfl hP hD hS
set_option maxHeartbeats 400000 in
set_option maxRecDepth 100000 in
theorem k_Mo_at_20 (C0 : Cx p s m meth c args R b_Mo_at "ZoneFilesModel" 5 (some .int) 8 204) (hST : ST A s s.heap) (hA : ∀ q, s.heap.size ≤ q → A q) (hK : va_K (dC, dI) classes (moT cA) s) (hE : ∀ (pc : Nat) (ls : Array Slot) (H : Heap) (locs : List Loc), decode b_Mo_at pc = .ok (.ireturn, 1) → narrow .int (.int r0) = .int r0 → va_P (dC, dI) classes (moW h0 r cA vi vj va vb) H → va_D A (moW h0 r cA vi vj va vb) → va_S A s.heap H locs → W p l e R s m args below meth c H locs 0 0 Q (F0 m pc ls [.int r0])) {x1 : Int32} {x2 : Int64} {x4 : Int32} {si : Nat → Int32} {sj : Nat → Int64} {sa : Nat → Nat → Int32} {sb : Nat → Nat → Int64} (hf : f_Mo_at_20 nf x1 x2 x4 si sj sa sb = some (r0, vi, vj, va, vb)) {H : Heap} {locs : List Loc} {ls : Array Slot} (hP : va_P (dC, dI) classes (moW h0 r cA si sj sa sb) H) (hD : va_D A (moW h0 r cA si sj sa sb)) (hS : va_S A s.heap H locs) (hl : lv_has ls 5 [(0, .ref h0), (1, .int x1), (2, .long x2), (4, .int x4)]) : W p l e R s m args below meth c H locs 0 0 Q (F0 m 20 ls [.ref h0]) := by
  obtain ⟨hx, hb, hr, hml, hown, hts, hlocks, hRf, hRl⟩ := id C0
  unfold f_Mo_at_20 at hf
  refine lv_iconst (v := 1) hx hb d_Mo_at_20 (by decide) ?_
  refine lv_goto (tgt := 36) hx hb d_Mo_at_21 (by decide) ?_
  exact k_Mo_at_36 C0 hST hA hK hE hf hP hD hS (lv_sub hl [0, 1, 2, 3] rfl)
set_option maxHeartbeats 400000 in
set_option maxRecDepth 100000 in
theorem k_Mo_at_0 (C0 : Cx p s m meth c args R b_Mo_at "ZoneFilesModel" 5 (some .int) 8 204) (hST : ST A s s.heap) (hA : ∀ q, s.heap.size ≤ q → A q) (hK : va_K (dC, dI) classes (moT cA) s) (hE : ∀ (pc : Nat) (ls : Array Slot) (H : Heap) (locs : List Loc), decode b_Mo_at pc = .ok (.ireturn, 1) → narrow .int (.int r0) = .int r0 → va_P (dC, dI) classes (moW h0 r cA vi vj va vb) H → va_D A (moW h0 r cA vi vj va vb) → va_S A s.heap H locs → W p l e R s m args below meth c H locs 0 0 Q (F0 m pc ls [.int r0])) {x1 : Int32} {x2 : Int64} {x4 : Int32} {si : Nat → Int32} {sj : Nat → Int64} {sa : Nat → Nat → Int32} {sb : Nat → Nat → Int64} (hf : f_Mo_at_0 nf x1 x2 x4 si sj sa sb = some (r0, vi, vj, va, vb)) {H : Heap} {locs : List Loc} {ls : Array Slot} (hP : va_P (dC, dI) classes (moW h0 r cA si sj sa sb) H) (hD : va_D A (moW h0 r cA si sj sa sb)) (hS : va_S A s.heap H locs) (hl : lv_has ls 5 [(0, .ref h0), (1, .int x1), (2, .long x2), (4, .int x4)]) : W p l e R s m args below meth c H locs 0 0 Q (F0 m 0 ls []) := by
  obtain ⟨hx, hb, hr, hml, hown, hts, hlocks, hRf, hRl⟩ := id C0
  unfold f_Mo_at_0 at hf
  refine lv_aload_n hx hb d_Mo_at_0 rfl (lv_at hl 0 rfl) ?_
  refine lv_aload_n hx hb d_Mo_at_1 rfl (lv_at hl 0 rfl) ?_
  refine lv_iload_n hx hb d_Mo_at_2 rfl (lv_at hl 1 rfl) ?_
  obtain ⟨r_1, hc, hf⟩ := ob hf
  refine cl_S (v := (some (.int r_1))) (st1 := [.int r_1, .ref h0]) (va_runV (As := [.int x1]) (rest := [.ref h0]) ⟨hx, hb, hml, hown, hts⟩ (c_Mo_noZone l dC dI h0 r cA nf x1 si sj sa sb hc) (cwV 1 hts (gdV m_8_45 m_8_47 msel_83 m_1_10 m_8_48) rfl rfl rfl (by decide +kernel) ⟨Nat.le_trans (Nat.le_of_ble_eq_true rfl) hRf, Nat.le_trans (Nat.le_of_ble_eq_true rfl) hRl⟩) ((RO.pre hP hK (hST.ro hS)).vir (va_recv hK hP (ci := 10) (q0 := 0) rfl rfl)) rfl rfl hl.1 rfl (lv_room (Nat.le_of_ble_eq_true rfl)) d_Mo_at_3 ⟨Nat.zero_le _, Nat.zero_le _⟩) rfl ?_
  refine lv_if_ne (tgt := 20) hx hb d_Mo_at_6 (by decide) (fun c_2 => ?_) (fun c_2 => ?_)
  · have hf := it_f c_2 hf
    exact k_Mo_at_20 C0 hST hA hK hE hf hP hD hS (lv_sub hl [0, 1, 2, 3] rfl)
  · have hf := it_t c_2 hf
    refine lv_iload hx hb d_Mo_at_9 (lv_at hl 3 rfl) ?_
    refine lv_if_lt (tgt := 20) hx hb d_Mo_at_11 (by decide) (fun c_12 => ?_) (fun c_12 => ?_)
    · have hf := it_t c_12 hf
      exact k_Mo_at_20 C0 hST hA hK hE hf hP hD hS (lv_sub hl [0, 1, 2, 3] rfl)
    · have hf := it_f c_12 hf
      refine lv_iload hx hb d_Mo_at_14 (lv_at hl 3 rfl) ?_
      refine lv_iconst (v := 3) hx hb d_Mo_at_16 (by decide) ?_
      refine lv_icmp_le (tgt := 24) hx hb d_Mo_at_17 (by decide) (fun c_13 => ?_) (fun c_13 => ?_)
      · have hf := it_t c_13 hf
        refine lv_lload_n hx hb d_Mo_at_24 rfl (lv_at hl 2 rfl) ?_
        obtain ⟨r_14, hc, hf⟩ := ob hf
        refine cl_S (v := (some (.int r_14))) (st1 := [.int r_14, .ref h0]) (va_runS (As := [.long x2]) (rest := [.ref h0]) ⟨hx, hb, hml, hown, hts⟩ (c_Mo_isInstant l dC dI nf x2 hc) (va_cwS 1 hts (gdS m_7_159 m_7_160 m_1_10 m_7_161) rfl rfl rfl (by decide +kernel) ⟨Nat.le_trans (Nat.le_of_ble_eq_true rfl) hRf, Nat.le_trans (Nat.le_of_ble_eq_true rfl) hRl⟩) (RO.pre0 hK (hST.ro hS)).sta rfl rfl hl.1 rfl (lv_room (Nat.le_of_ble_eq_true rfl)) d_Mo_at_25 ⟨Nat.zero_le _, Nat.zero_le _⟩) rfl ?_
        refine lv_if_ne (tgt := 35) hx hb d_Mo_at_28 (by decide) (fun c_15 => ?_) (fun c_15 => ?_)
        · have hf := it_f c_15 hf
          refine lv_iconst (v := 0) hx hb d_Mo_at_35 (by decide) ?_
          exact k_Mo_at_36 C0 hST hA hK hE hf hP hD hS (lv_sub hl [0, 1, 2, 3] rfl)
        · have hf := it_t c_15 hf
          refine lv_iconst (v := 2) hx hb d_Mo_at_31 (by decide) ?_
          refine lv_goto (tgt := 36) hx hb d_Mo_at_32 (by decide) ?_
          exact k_Mo_at_36 C0 hST hA hK hE hf hP hD hS (lv_sub hl [0, 1, 2, 3] rfl)
      · have hf := it_f c_13 hf
        exact k_Mo_at_20 C0 hST hA hK hE hf hP hD hS (lv_sub hl [0, 1, 2, 3] rfl)
end
set_option maxHeartbeats 400000 in
set_option maxRecDepth 100000 in
theorem c_Mo_at (l : Launch) (dC : Nat → ClassId) (dI : Nat → Nat → Nat) (h0 : Nat) (r : Nat → Nat) (cA : Nat → ClassId) (sz : Nat) (nf : Nat) (p0 : Int32) (p1 : Int64) (p2 : Int32) (si : Nat → Int32) (sj : Nat → Int64) (sa : Nat → Nat → Int32) (sb : Nat → Nat → Int64) {r0 : Int32} {vi : Nat → Int32} {vj : Nat → Int64} {va : Nat → Nat → Int32} {vb : Nat → Nat → Int64} (hf : f_Mo_at nf p0 p1 p2 si sj sa sb = some (r0, vi, vj, va, vb)) : Met l y_Mo_at (wd y_Mo_at b_Mo_at 5 (some .int)) ({ frames := 8, cells := 0, slots := 0, locals := 204 }) (MU dC dI (moW h0 r cA si sj sa sb) (moT cA) sz [.ref h0, .int p0, .long p1, .int p2]) (MV (some (.int r0)) (fun t => va_P (dC, dI) classes (moW h0 r cA vi vj va vb) t.heap) (va_A (moW h0 r cA si sj sa sb) sz)) 0 0 (va_A (moW h0 r cA si sj sa sb) sz) :=
  met_M (plainFor_of_name (by decide)) (Nat.le_of_ble_eq_true rfl) (fun p e R s m args below meth c ls hRc hRs hsz hin C0 hST hK hP hD hl => by
    obtain ⟨hx, hb, hr, hml, hown, hts, hlocks, hRf, hRl⟩ := id C0
    subst hsz
    have hA : ∀ q : Nat, s.heap.size ≤ q → va_A (moW h0 r cA si sj sa sb) s.heap.size q := fun q h => Or.inr h
    have hS : va_S (va_A (moW h0 r cA si sj sa sb) s.heap.size) s.heap s.heap [] := va_S.rf
    unfold f_Mo_at at hf
    exact k_Mo_at_0 C0 hST hA hK (fun pc ls H locs hd hn hP hD hS => W.zret hx hb hr hn (fun t ht hW => ⟨⟨rfl, mo_end ht hP⟩, hS.F ht⟩) hS.2.2 hd) hf hP hD hS (lv_sub hl [0, 1, 2, 3] rfl))
-- ZoneFilesModel.name(IJI)I
def f_Mo_name_84 (nf : Nat) (s0 : Int32) (si : Nat → Int32) (sj : Nat → Int64) (sa : Nat → Nat → Int32) (sb : Nat → Nat → Int64) : Option (Int32 × (Nat → Int32) × (Nat → Int64) × (Nat → Nat → Int32) × (Nat → Nat → Int64)) :=
  some (s0, si, sj, sa, sb)
def f_Mo_name_63 (nf : Nat) (x4 : Int32) (s0 : Int32) (si : Nat → Int32) (sj : Nat → Int64) (sa : Nat → Nat → Int32) (sb : Nat → Nat → Int64) : Option (Int32 × (Nat → Int32) × (Nat → Int64) × (Nat → Nat → Int32) × (Nat → Nat → Int64)) :=
  if s0 ≤ 0 then
  if x4 < 0 ∨ 10 ≤ x4.toNatClampNeg then none else
    f_Mo_name_84 nf (sa 48 x4.toNatClampNeg) (va_up si 3 s0) sj sa sb
  else
  f_Mo_name_84 nf 0 (va_up si 3 s0) sj sa sb
def f_Mo_name_58 (nf : Nat) (x4 : Int32) (si : Nat → Int32) (sj : Nat → Int64) (sa : Nat → Nat → Int32) (sb : Nat → Nat → Int64) : Option (Int32 × (Nat → Int32) × (Nat → Int64) × (Nat → Nat → Int32) × (Nat → Nat → Int64)) :=
  f_Mo_name_63 nf x4 3 si sj sa sb
def f_Mo_name_25 (nf : Nat) (x1 : Int32) (x2 : Int64) (x4 : Int32) (s0 : Int32) (si : Nat → Int32) (sj : Nat → Int64) (sa : Nat → Nat → Int32) (sb : Nat → Nat → Int64) : Option (Int32 × (Nat → Int32) × (Nat → Int64) × (Nat → Nat → Int32) × (Nat → Nat → Int64)) :=
  if s0 ≤ 0 then
  (f_Mo_state nf x1 x2 (va_up si 3 s0) sj sa sb).bind fun (i_6, j_7, a_8, b_9) =>
    if x4 < 0 then
    f_Mo_name_58 nf x4 i_6 j_7 a_8 b_9
    else
    if x4 < (i_6 47) then
      f_Mo_name_63 nf x4 0 i_6 j_7 a_8 b_9
      else
      f_Mo_name_58 nf x4 i_6 j_7 a_8 b_9
  else
  some (0, va_up si 3 s0, sj, sa, sb)
def f_Mo_name_0 (nf : Nat) (x1 : Int32) (x2 : Int64) (x4 : Int32) (si : Nat → Int32) (sj : Nat → Int64) (sa : Nat → Nat → Int32) (sb : Nat → Nat → Int64) : Option (Int32 × (Nat → Int32) × (Nat → Int64) × (Nat → Nat → Int32) × (Nat → Nat → Int64)) :=
  (f_Mo_noZone nf x1 si sj sa sb).bind fun r_1 =>
  if r_1 = 0 then
  (f_Mo_isInstant nf x2).bind fun r_3 =>
    if r_3 = 0 then
    f_Mo_name_25 nf x1 x2 x4 2 si sj sa sb
    else
    f_Mo_name_25 nf x1 x2 x4 0 si sj sa sb
  else
  f_Mo_name_25 nf x1 x2 x4 1 si sj sa sb
def f_Mo_name (nf : Nat) (p0 : Int32) (p1 : Int64) (p2 : Int32) (si : Nat → Int32) (sj : Nat → Int64) (sa : Nat → Nat → Int32) (sb : Nat → Nat → Int64) : Option (Int32 × (Nat → Int32) × (Nat → Int64) × (Nat → Nat → Int32) × (Nat → Nat → Int64)) :=
  f_Mo_name_0 nf p0 p1 p2 si sj sa sb
section
variable {p : Program} {l : Launch} {e : Env} {R : Room} {s : State} {m : MethodId} {args : Array Value} {below : List Frame} {meth : Method} {c : Code} {Q : State → Prop} {dC : Nat → ClassId} {dI : Nat → Nat → Nat} {nf : Nat} {A : Nat → Prop} {h0 : Nat} {r : Nat → Nat} {cA : Nat → ClassId}
variable {r0 : Int32} {vi : Nat → Int32} {vj : Nat → Int64} {va : Nat → Nat → Int32} {vb : Nat → Nat → Int64}
set_option maxHeartbeats 400000 in
set_option maxRecDepth 100000 in
theorem k_Mo_name_84 (C0 : Cx p s m meth c args R b_Mo_name "ZoneFilesModel" 5 (some .int) 8 204) (hST : ST A s s.heap) (hA : ∀ q, s.heap.size ≤ q → A q) (hK : va_K (dC, dI) classes (moT cA) s) (hE : ∀ (pc : Nat) (ls : Array Slot) (H : Heap) (locs : List Loc), decode b_Mo_name pc = .ok (.ireturn, 1) → narrow .int (.int r0) = .int r0 → va_P (dC, dI) classes (moW h0 r cA vi vj va vb) H → va_D A (moW h0 r cA vi vj va vb) → va_S A s.heap H locs → W p l e R s m args below meth c H locs 0 0 Q (F0 m pc ls [.int r0])) {s0 : Int32} {si : Nat → Int32} {sj : Nat → Int64} {sa : Nat → Nat → Int32} {sb : Nat → Nat → Int64} (hf : f_Mo_name_84 nf s0 si sj sa sb = some (r0, vi, vj, va, vb)) {H : Heap} {locs : List Loc} {ls : Array Slot} (hP : va_P (dC, dI) classes (moW h0 r cA si sj sa sb) H) (hD : va_D A (moW h0 r cA si sj sa sb)) (hS : va_S A s.heap H locs) (hl : lv_has ls 5 []) : W p l e R s m args below meth c H locs 0 0 Q (F0 m 84 ls [.int s0]) := by
  obtain ⟨hx, hb, hr, hml, hown, hts, hlocks, hRf, hRl⟩ := id C0
  unfold f_Mo_name_84 at hf
  cases rs hf
  exact hE _ _ _ _ d_Mo_name_84 rfl hP hD hS
set_option maxHeartbeats 400000 in
set_option maxRecDepth 100000 in
theorem k_Mo_name_63 (C0 : Cx p s m meth c args R b_Mo_name "ZoneFilesModel" 5 (some .int) 8 204) (hST : ST A s s.heap) (hA : ∀ q, s.heap.size ≤ q → A q) (hK : va_K (dC, dI) classes (moT cA) s) (hE : ∀ (pc : Nat) (ls : Array Slot) (H : Heap) (locs : List Loc), decode b_Mo_name pc = .ok (.ireturn, 1) → narrow .int (.int r0) = .int r0 → va_P (dC, dI) classes (moW h0 r cA vi vj va vb) H → va_D A (moW h0 r cA vi vj va vb) → va_S A s.heap H locs → W p l e R s m args below meth c H locs 0 0 Q (F0 m pc ls [.int r0])) {x4 : Int32} {s0 : Int32} {si : Nat → Int32} {sj : Nat → Int64} {sa : Nat → Nat → Int32} {sb : Nat → Nat → Int64} (hf : f_Mo_name_63 nf x4 s0 si sj sa sb = some (r0, vi, vj, va, vb)) {H : Heap} {locs : List Loc} {ls : Array Slot} (hP : va_P (dC, dI) classes (moW h0 r cA si sj sa sb) H) (hD : va_D A (moW h0 r cA si sj sa sb)) (hS : va_S A s.heap H locs) (hl : lv_has ls 5 [(0, .ref h0), (4, .int x4)]) : W p l e R s m args below meth c H locs 0 0 Q (F0 m 63 ls [.int s0, .ref h0]) := by
  obtain ⟨hx, hb, hr, hml, hown, hts, hlocks, hRf, hRl⟩ := id C0
  unfold f_Mo_name_63 at hf
  refine mp_3 hx hb hts hown hK hP hD hS d_Mo_name_63 (fun H locs hP hD hS => ?_)
  refine lv_aload_n hx hb d_Mo_name_66 rfl (lv_at hl 0 rfl) ?_
  refine mg_3 (v := s0) hx hb hts hown hK hP rfl d_Mo_name_67 ?_
  refine lv_if_le (tgt := 77) hx hb d_Mo_name_70 (by decide) (fun c_11 => ?_) (fun c_11 => ?_)
  · have hf := it_t c_11 hf
    refine lv_aload_n hx hb d_Mo_name_77 rfl (lv_at hl 0 rfl) ?_
    refine mg_48 hx hb hts hown hK hP d_Mo_name_78 ?_
    refine lv_iload hx hb d_Mo_name_81 (lv_at hl 1 rfl) ?_
    obtain ⟨c_12, hf⟩ := it_n hf
    refine ma_48 (v := sa 48 x4.toNatClampNeg) hx hb hK hP c_12 rfl d_Mo_name_83 ?_
    exact k_Mo_name_84 C0 hST hA hK hE hf hP hD hS (lv_sub hl [] rfl)
  · have hf := it_f c_11 hf
    refine lv_iconst (v := 0) hx hb d_Mo_name_73 (by decide) ?_
    refine lv_goto (tgt := 84) hx hb d_Mo_name_74 (by decide) ?_
    exact k_Mo_name_84 C0 hST hA hK hE hf hP hD hS (lv_sub hl [] rfl)
set_option maxHeartbeats 400000 in
set_option maxRecDepth 100000 in
theorem k_Mo_name_58 (C0 : Cx p s m meth c args R b_Mo_name "ZoneFilesModel" 5 (some .int) 8 204) (hST : ST A s s.heap) (hA : ∀ q, s.heap.size ≤ q → A q) (hK : va_K (dC, dI) classes (moT cA) s) (hE : ∀ (pc : Nat) (ls : Array Slot) (H : Heap) (locs : List Loc), decode b_Mo_name pc = .ok (.ireturn, 1) → narrow .int (.int r0) = .int r0 → va_P (dC, dI) classes (moW h0 r cA vi vj va vb) H → va_D A (moW h0 r cA vi vj va vb) → va_S A s.heap H locs → W p l e R s m args below meth c H locs 0 0 Q (F0 m pc ls [.int r0])) {x4 : Int32} {si : Nat → Int32} {sj : Nat → Int64} {sa : Nat → Nat → Int32} {sb : Nat → Nat → Int64} (hf : f_Mo_name_58 nf x4 si sj sa sb = some (r0, vi, vj, va, vb)) {H : Heap} {locs : List Loc} {ls : Array Slot} (hP : va_P (dC, dI) classes (moW h0 r cA si sj sa sb) H) (hD : va_D A (moW h0 r cA si sj sa sb)) (hS : va_S A s.heap H locs) (hl : lv_has ls 5 [(0, .ref h0), (4, .int x4)]) : W p l e R s m args below meth c H locs 0 0 Q (F0 m 58 ls [.ref h0]) := by
  obtain ⟨hx, hb, hr, hml, hown, hts, hlocks, hRf, hRl⟩ := id C0
  unfold f_Mo_name_58 at hf
  refine lv_iconst (v := 3) hx hb d_Mo_name_58 (by decide) ?_
  refine lv_goto (tgt := 63) hx hb d_Mo_name_59 (by decide) ?_
  exact k_Mo_name_63 C0 hST hA hK hE hf hP hD hS (lv_sub hl [0, 1] rfl)
set_option maxHeartbeats 400000 in
set_option maxRecDepth 100000 in
theorem k_Mo_name_25 (C0 : Cx p s m meth c args R b_Mo_name "ZoneFilesModel" 5 (some .int) 8 204) (hST : ST A s s.heap) (hA : ∀ q, s.heap.size ≤ q → A q) (hK : va_K (dC, dI) classes (moT cA) s) (hE : ∀ (pc : Nat) (ls : Array Slot) (H : Heap) (locs : List Loc), decode b_Mo_name pc = .ok (.ireturn, 1) → narrow .int (.int r0) = .int r0 → va_P (dC, dI) classes (moW h0 r cA vi vj va vb) H → va_D A (moW h0 r cA vi vj va vb) → va_S A s.heap H locs → W p l e R s m args below meth c H locs 0 0 Q (F0 m pc ls [.int r0])) {x1 : Int32} {x2 : Int64} {x4 : Int32} {s0 : Int32} {si : Nat → Int32} {sj : Nat → Int64} {sa : Nat → Nat → Int32} {sb : Nat → Nat → Int64} (hf : f_Mo_name_25 nf x1 x2 x4 s0 si sj sa sb = some (r0, vi, vj, va, vb)) {H : Heap} {locs : List Loc} {ls : Array Slot} (hP : va_P (dC, dI) classes (moW h0 r cA si sj sa sb) H) (hD : va_D A (moW h0 r cA si sj sa sb)) (hS : va_S A s.heap H locs) (hl : lv_has ls 5 [(0, .ref h0), (1, .int x1), (2, .long x2), (4, .int x4)]) : W p l e R s m args below meth c H locs 0 0 Q (F0 m 25 ls [.int s0, .ref h0]) := by
  obtain ⟨hx, hb, hr, hml, hown, hts, hlocks, hRf, hRl⟩ := id C0
  unfold f_Mo_name_25 at hf
  refine mp_3 hx hb hts hown hK hP hD hS d_Mo_name_25 (fun H locs hP hD hS => ?_)
  refine lv_aload_n hx hb d_Mo_name_28 rfl (lv_at hl 0 rfl) ?_
  refine mg_3 (v := s0) hx hb hts hown hK hP rfl d_Mo_name_29 ?_
  refine lv_if_le (tgt := 37) hx hb d_Mo_name_32 (by decide) (fun c_5 => ?_) (fun c_5 => ?_)
  · have hf := it_t c_5 hf
    refine lv_aload_n hx hb d_Mo_name_37 rfl (lv_at hl 0 rfl) ?_
    refine lv_iload_n hx hb d_Mo_name_38 rfl (lv_at hl 1 rfl) ?_
    refine lv_lload_n hx hb d_Mo_name_39 rfl (lv_at hl 2 rfl) ?_
    obtain ⟨⟨i_6, j_7, a_8, b_9⟩, hc, hf⟩ := ob hf
    have hFc := mo_free hD hS hA
    refine cl_M (v := none) (st1 := []) (va_runV (As := [.int x1, .long x2]) (rest := []) ⟨hx, hb, hml, hown, hts⟩ (c_Mo_state l dC dI h0 r cA H.size nf x1 x2 (va_up si 3 s0) sj sa sb hc) (cwV 2 hts (gdV m_8_49 m_8_51 msel_84 m_1_10 m_8_52) rfl rfl rfl (by decide +kernel) ⟨Nat.le_trans (Nat.le_of_ble_eq_true rfl) hRf, Nat.le_trans (Nat.le_of_ble_eq_true rfl) hRl⟩) ((MU.pre hP hK hD (hST.mu hS hFc)).vir (va_recv hK hP (ci := 10) (q0 := 0) rfl rfl)) rfl rfl hl.1 rfl (lv_room (Nat.le_of_ble_eq_true rfl)) d_Mo_name_40 ⟨Nat.zero_le _, Nat.zero_le _⟩) rfl hS (fun q _ h => hFc q h) hFc (fun t H1 locs ht hvm hB hz1 hk1 hS => ?_)
    obtain ⟨hP, hD⟩ := mo_back ht hD hB
    generalize H1 = H at hP hS ⊢
    refine lv_aload_n hx hb d_Mo_name_43 rfl (lv_at hl 0 rfl) ?_
    refine lv_iload hx hb d_Mo_name_44 (lv_at hl 3 rfl) ?_
    refine lv_if_lt (tgt := 58) hx hb d_Mo_name_46 (by decide) (fun c_10 => ?_) (fun c_10 => ?_)
    · have hf := it_t c_10 hf
      exact k_Mo_name_58 C0 hST hA hK hE hf hP hD hS (lv_sub hl [0, 3] rfl)
    · have hf := it_f c_10 hf
      refine lv_iload hx hb d_Mo_name_49 (lv_at hl 3 rfl) ?_
      refine lv_aload_n hx hb d_Mo_name_51 rfl (lv_at hl 0 rfl) ?_
      refine mg_47 (v := i_6 47) hx hb hts hown hK hP rfl d_Mo_name_52 ?_
      refine lv_icmp_lt (tgt := 62) hx hb d_Mo_name_55 (by decide) (fun c_13 => ?_) (fun c_13 => ?_)
      · have hf := it_t c_13 hf
        refine lv_iconst (v := 0) hx hb d_Mo_name_62 (by decide) ?_
        exact k_Mo_name_63 C0 hST hA hK hE hf hP hD hS (lv_sub hl [0, 3] rfl)
      · have hf := it_f c_13 hf
        exact k_Mo_name_58 C0 hST hA hK hE hf hP hD hS (lv_sub hl [0, 3] rfl)
  · have hf := it_f c_5 hf
    refine lv_iconst (v := 0) hx hb d_Mo_name_35 (by decide) ?_
    cases rs hf
    exact hE _ _ _ _ d_Mo_name_36 rfl hP hD hS
set_option maxHeartbeats 400000 in
set_option maxRecDepth 100000 in
theorem k_Mo_name_0 (C0 : Cx p s m meth c args R b_Mo_name "ZoneFilesModel" 5 (some .int) 8 204) (hST : ST A s s.heap) (hA : ∀ q, s.heap.size ≤ q → A q) (hK : va_K (dC, dI) classes (moT cA) s) (hE : ∀ (pc : Nat) (ls : Array Slot) (H : Heap) (locs : List Loc), decode b_Mo_name pc = .ok (.ireturn, 1) → narrow .int (.int r0) = .int r0 → va_P (dC, dI) classes (moW h0 r cA vi vj va vb) H → va_D A (moW h0 r cA vi vj va vb) → va_S A s.heap H locs → W p l e R s m args below meth c H locs 0 0 Q (F0 m pc ls [.int r0])) {x1 : Int32} {x2 : Int64} {x4 : Int32} {si : Nat → Int32} {sj : Nat → Int64} {sa : Nat → Nat → Int32} {sb : Nat → Nat → Int64} (hf : f_Mo_name_0 nf x1 x2 x4 si sj sa sb = some (r0, vi, vj, va, vb)) {H : Heap} {locs : List Loc} {ls : Array Slot} (hP : va_P (dC, dI) classes (moW h0 r cA si sj sa sb) H) (hD : va_D A (moW h0 r cA si sj sa sb)) (hS : va_S A s.heap H locs) (hl : lv_has ls 5 [(0, .ref h0), (1, .int x1), (2, .long x2), (4, .int x4)]) : W p l e R s m args below meth c H locs 0 0 Q (F0 m 0 ls []) := by
  obtain ⟨hx, hb, hr, hml, hown, hts, hlocks, hRf, hRl⟩ := id C0
  unfold f_Mo_name_0 at hf
  refine lv_aload_n hx hb d_Mo_name_0 rfl (lv_at hl 0 rfl) ?_
  refine lv_aload_n hx hb d_Mo_name_1 rfl (lv_at hl 0 rfl) ?_
  refine lv_iload_n hx hb d_Mo_name_2 rfl (lv_at hl 1 rfl) ?_
  obtain ⟨r_1, hc, hf⟩ := ob hf
  refine cl_S (v := (some (.int r_1))) (st1 := [.int r_1, .ref h0]) (va_runV (As := [.int x1]) (rest := [.ref h0]) ⟨hx, hb, hml, hown, hts⟩ (c_Mo_noZone l dC dI h0 r cA nf x1 si sj sa sb hc) (cwV 1 hts (gdV m_8_45 m_8_47 msel_83 m_1_10 m_8_48) rfl rfl rfl (by decide +kernel) ⟨Nat.le_trans (Nat.le_of_ble_eq_true rfl) hRf, Nat.le_trans (Nat.le_of_ble_eq_true rfl) hRl⟩) ((RO.pre hP hK (hST.ro hS)).vir (va_recv hK hP (ci := 10) (q0 := 0) rfl rfl)) rfl rfl hl.1 rfl (lv_room (Nat.le_of_ble_eq_true rfl)) d_Mo_name_3 ⟨Nat.zero_le _, Nat.zero_le _⟩) rfl ?_
  refine lv_if_eq (tgt := 13) hx hb d_Mo_name_6 (by decide) (fun c_2 => ?_) (fun c_2 => ?_)
  · have hf := it_t c_2 hf
    refine lv_lload_n hx hb d_Mo_name_13 rfl (lv_at hl 2 rfl) ?_
    obtain ⟨r_3, hc, hf⟩ := ob hf
    refine cl_S (v := (some (.int r_3))) (st1 := [.int r_3, .ref h0]) (va_runS (As := [.long x2]) (rest := [.ref h0]) ⟨hx, hb, hml, hown, hts⟩ (c_Mo_isInstant l dC dI nf x2 hc) (va_cwS 1 hts (gdS m_7_159 m_7_160 m_1_10 m_7_161) rfl rfl rfl (by decide +kernel) ⟨Nat.le_trans (Nat.le_of_ble_eq_true rfl) hRf, Nat.le_trans (Nat.le_of_ble_eq_true rfl) hRl⟩) (RO.pre0 hK (hST.ro hS)).sta rfl rfl hl.1 rfl (lv_room (Nat.le_of_ble_eq_true rfl)) d_Mo_name_14 ⟨Nat.zero_le _, Nat.zero_le _⟩) rfl ?_
    refine lv_if_ne (tgt := 24) hx hb d_Mo_name_17 (by decide) (fun c_4 => ?_) (fun c_4 => ?_)
    · have hf := it_f c_4 hf
      refine lv_iconst (v := 0) hx hb d_Mo_name_24 (by decide) ?_
      exact k_Mo_name_25 C0 hST hA hK hE hf hP hD hS (lv_sub hl [0, 1, 2, 3] rfl)
    · have hf := it_t c_4 hf
      refine lv_iconst (v := 2) hx hb d_Mo_name_20 (by decide) ?_
      refine lv_goto (tgt := 25) hx hb d_Mo_name_21 (by decide) ?_
      exact k_Mo_name_25 C0 hST hA hK hE hf hP hD hS (lv_sub hl [0, 1, 2, 3] rfl)
  · have hf := it_f c_2 hf
    refine lv_iconst (v := 1) hx hb d_Mo_name_9 (by decide) ?_
    refine lv_goto (tgt := 25) hx hb d_Mo_name_10 (by decide) ?_
    exact k_Mo_name_25 C0 hST hA hK hE hf hP hD hS (lv_sub hl [0, 1, 2, 3] rfl)
end
set_option maxHeartbeats 400000 in
set_option maxRecDepth 100000 in
theorem c_Mo_name (l : Launch) (dC : Nat → ClassId) (dI : Nat → Nat → Nat) (h0 : Nat) (r : Nat → Nat) (cA : Nat → ClassId) (sz : Nat) (nf : Nat) (p0 : Int32) (p1 : Int64) (p2 : Int32) (si : Nat → Int32) (sj : Nat → Int64) (sa : Nat → Nat → Int32) (sb : Nat → Nat → Int64) {r0 : Int32} {vi : Nat → Int32} {vj : Nat → Int64} {va : Nat → Nat → Int32} {vb : Nat → Nat → Int64} (hf : f_Mo_name nf p0 p1 p2 si sj sa sb = some (r0, vi, vj, va, vb)) : Met l y_Mo_name (wd y_Mo_name b_Mo_name 5 (some .int)) ({ frames := 8, cells := 0, slots := 0, locals := 204 }) (MU dC dI (moW h0 r cA si sj sa sb) (moT cA) sz [.ref h0, .int p0, .long p1, .int p2]) (MV (some (.int r0)) (fun t => va_P (dC, dI) classes (moW h0 r cA vi vj va vb) t.heap) (va_A (moW h0 r cA si sj sa sb) sz)) 0 0 (va_A (moW h0 r cA si sj sa sb) sz) :=
  met_M (plainFor_of_name (by decide)) (Nat.le_of_ble_eq_true rfl) (fun p e R s m args below meth c ls hRc hRs hsz hin C0 hST hK hP hD hl => by
    obtain ⟨hx, hb, hr, hml, hown, hts, hlocks, hRf, hRl⟩ := id C0
    subst hsz
    have hA : ∀ q : Nat, s.heap.size ≤ q → va_A (moW h0 r cA si sj sa sb) s.heap.size q := fun q h => Or.inr h
    have hS : va_S (va_A (moW h0 r cA si sj sa sb) s.heap.size) s.heap s.heap [] := va_S.rf
    unfold f_Mo_name at hf
    exact k_Mo_name_0 C0 hST hA hK (fun pc ls H locs hd hn hP hD hS => W.zret hx hb hr hn (fun t ht hW => ⟨⟨rfl, mo_end ht hP⟩, hS.F ht⟩) hS.2.2 hd) hf hP hD hS (lv_sub hl [0, 1, 2, 3] rfl))
