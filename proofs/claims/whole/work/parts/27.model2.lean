theorem m_6_75 : Cond.methodLink "ZoneFilesModel" 138 ⟨"ZoneFilesModel", "ruleText", "(III)Z"⟩ ∈ T0 := tb_6 75 rfl rfl
theorem m_6_77 : Cond.instanceMethod ⟨"ZoneFilesModel", "ruleText", "(III)Z"⟩ ∈ T0 := tb_6 77 rfl rfl
theorem m_6_78 : Cond.code ⟨"ZoneFilesModel", "ruleText", "(III)Z"⟩ prog_14_method_15_code 5 (some .boolean) ∈ T0 := tb_6 78 rfl rfl
theorem m_6_116 : Cond.methodLink "ZoneFilesModel" 142 ⟨"ZoneFilesModel", "takeRule", "(III)V"⟩ ∈ T0 := tb_6 116 rfl rfl
theorem m_6_118 : Cond.instanceMethod ⟨"ZoneFilesModel", "takeRule", "(III)V"⟩ ∈ T0 := tb_6 118 rfl rfl
theorem m_6_119 : Cond.code ⟨"ZoneFilesModel", "takeRule", "(III)V"⟩ prog_14_method_16_code 6 none ∈ T0 := tb_6 119 rfl rfl
theorem m_6_120 : Cond.methodLink "ZoneFilesModel" 203 ⟨"ZoneFilesModel", "addName", "(II)V"⟩ ∈ T0 := tb_6 120 rfl rfl
theorem m_6_122 : Cond.instanceMethod ⟨"ZoneFilesModel", "addName", "(II)V"⟩ ∈ T0 := tb_6 122 rfl rfl
theorem m_6_123 : Cond.code ⟨"ZoneFilesModel", "addName", "(II)V"⟩ prog_14_method_17_code 5 none ∈ T0 := tb_6 123 rfl rfl
theorem m_6_124 : Cond.methodLink "ZoneFilesModel" 146 ⟨"ZoneFilesModel", "put", "(II)V"⟩ ∈ T0 := tb_6 124 rfl rfl
theorem m_6_126 : Cond.instanceMethod ⟨"ZoneFilesModel", "put", "(II)V"⟩ ∈ T0 := tb_6 126 rfl rfl
theorem m_6_127 : Cond.code ⟨"ZoneFilesModel", "put", "(II)V"⟩ prog_14_method_4_code 4 none ∈ T0 := tb_6 127 rfl rfl
theorem m_7_130 : Cond.methodLink "ZoneFilesModel" 213 ⟨"ZoneFilesModel", "magic", "(I)I"⟩ ∈ T0 := tb_7 130 rfl rfl
theorem m_7_131 : Cond.static ⟨"ZoneFilesModel", "magic", "(I)I"⟩ ∈ T0 := tb_7 131 rfl rfl
theorem m_7_132 : Cond.code ⟨"ZoneFilesModel", "magic", "(I)I"⟩ prog_14_method_22_code 1 (some .int) ∈ T0 := tb_7 132 rfl rfl
theorem m_7_133 : Cond.methodLink "ZoneFilesModel" 217 ⟨"ZoneFilesModel", "faulty", "(II)Z"⟩ ∈ T0 := tb_7 133 rfl rfl
theorem m_7_135 : Cond.instanceMethod ⟨"ZoneFilesModel", "faulty", "(II)Z"⟩ ∈ T0 := tb_7 135 rfl rfl
theorem m_7_136 : Cond.code ⟨"ZoneFilesModel", "faulty", "(II)Z"⟩ prog_14_method_19_code 3 (some .boolean) ∈ T0 := tb_7 136 rfl rfl
theorem m_7_137 : Cond.methodLink "ZoneFilesModel" 209 ⟨"ZoneFilesModel", "unsigned", "(II)J"⟩ ∈ T0 := tb_7 137 rfl rfl
theorem m_7_139 : Cond.instanceMethod ⟨"ZoneFilesModel", "unsigned", "(II)J"⟩ ∈ T0 := tb_7 139 rfl rfl
theorem m_7_140 : Cond.code ⟨"ZoneFilesModel", "unsigned", "(II)J"⟩ prog_14_method_20_code 6 (some .long) ∈ T0 := tb_7 140 rfl rfl
theorem m_7_141 : Cond.constantLong "ZoneFilesModel" 224 40 ∈ T0 := tb_7 141 rfl rfl
theorem m_7_142 : Cond.constantLong "ZoneFilesModel" 226 200 ∈ T0 := tb_7 142 rfl rfl
theorem m_7_151 : Cond.methodLink "ZoneFilesModel" 244 ⟨"ZoneFilesModel", "needs", "(J)Z"⟩ ∈ T0 := tb_7 151 rfl rfl
theorem m_7_153 : Cond.instanceMethod ⟨"ZoneFilesModel", "needs", "(J)Z"⟩ ∈ T0 := tb_7 153 rfl rfl
theorem m_7_154 : Cond.code ⟨"ZoneFilesModel", "needs", "(J)Z"⟩ prog_14_method_24_code 3 (some .boolean) ∈ T0 := tb_7 154 rfl rfl
theorem m_7_155 : Cond.methodLink "ZoneFilesModel" 248 ⟨"ZoneFilesModel", "signed", "(II)J"⟩ ∈ T0 := tb_7 155 rfl rfl
theorem m_7_157 : Cond.instanceMethod ⟨"ZoneFilesModel", "signed", "(II)J"⟩ ∈ T0 := tb_7 157 rfl rfl
theorem m_7_158 : Cond.code ⟨"ZoneFilesModel", "signed", "(II)J"⟩ prog_14_method_21_code 5 (some .long) ∈ T0 := tb_7 158 rfl rfl
theorem m_7_162 : Cond.constantLong "ZoneFilesModel" 331 (-1152921504606846976) ∈ T0 := tb_7 162 rfl rfl
theorem m_7_163 : Cond.constantLong "ZoneFilesModel" 333 1152921504606846976 ∈ T0 := tb_7 163 rfl rfl
theorem m_7_175 : Cond.methodLink "ZoneFilesModel" 260 ⟨"ZoneFilesModel", "nameSize", "(II)I"⟩ ∈ T0 := tb_7 175 rfl rfl
theorem m_7_177 : Cond.instanceMethod ⟨"ZoneFilesModel", "nameSize", "(II)I"⟩ ∈ T0 := tb_7 177 rfl rfl
theorem m_7_178 : Cond.code ⟨"ZoneFilesModel", "nameSize", "(II)I"⟩ prog_14_method_28_code 5 (some .int) ∈ T0 := tb_7 178 rfl rfl
theorem m_7_183 : Cond.constantLong "ZoneFilesModel" 263 4 ∈ T0 := tb_7 183 rfl rfl
theorem m_7_184 : Cond.constantLong "ZoneFilesModel" 265 2419199 ∈ T0 := tb_7 184 rfl rfl
theorem m_7_185 : Cond.constantLong "ZoneFilesModel" 267 (-1) ∈ T0 := tb_7 185 rfl rfl
theorem msel_47 : Cond.selects "ZoneFilesModel" ⟨"ZoneFilesModel", "ruleText", "(III)Z"⟩ ⟨"ZoneFilesModel", "ruleText", "(III)Z"⟩ ∈ T0 := ps_3 (q := (⟨"ZoneFilesModel", "ruleText", "(III)Z"⟩, 72)) 15 rfl
theorem msel_55 : Cond.selects "ZoneFilesModel" ⟨"ZoneFilesModel", "takeRule", "(III)V"⟩ ⟨"ZoneFilesModel", "takeRule", "(III)V"⟩ ∈ T0 := ps_4 (q := (⟨"ZoneFilesModel", "takeRule", "(III)V"⟩, 72)) 7 rfl
theorem msel_56 : Cond.selects "ZoneFilesModel" ⟨"ZoneFilesModel", "addName", "(II)V"⟩ ⟨"ZoneFilesModel", "addName", "(II)V"⟩ ∈ T0 := ps_4 (q := (⟨"ZoneFilesModel", "addName", "(II)V"⟩, 72)) 8 rfl
theorem msel_57 : Cond.selects "ZoneFilesModel" ⟨"ZoneFilesModel", "put", "(II)V"⟩ ⟨"ZoneFilesModel", "put", "(II)V"⟩ ∈ T0 := ps_4 (q := (⟨"ZoneFilesModel", "put", "(II)V"⟩, 72)) 9 rfl
theorem msel_60 : Cond.selects "ZoneFilesModel" ⟨"ZoneFilesModel", "faulty", "(II)Z"⟩ ⟨"ZoneFilesModel", "faulty", "(II)Z"⟩ ∈ T0 := ps_4 (q := (⟨"ZoneFilesModel", "faulty", "(II)Z"⟩, 72)) 12 rfl
theorem msel_61 : Cond.selects "ZoneFilesModel" ⟨"ZoneFilesModel", "unsigned", "(II)J"⟩ ⟨"ZoneFilesModel", "unsigned", "(II)J"⟩ ∈ T0 := ps_4 (q := (⟨"ZoneFilesModel", "unsigned", "(II)J"⟩, 72)) 13 rfl
theorem msel_64 : Cond.selects "ZoneFilesModel" ⟨"ZoneFilesModel", "needs", "(J)Z"⟩ ⟨"ZoneFilesModel", "needs", "(J)Z"⟩ ∈ T0 := ps_5 (q := (⟨"ZoneFilesModel", "needs", "(J)Z"⟩, 72)) 0 rfl
theorem msel_65 : Cond.selects "ZoneFilesModel" ⟨"ZoneFilesModel", "signed", "(II)J"⟩ ⟨"ZoneFilesModel", "signed", "(II)J"⟩ ∈ T0 := ps_5 (q := (⟨"ZoneFilesModel", "signed", "(II)J"⟩, 72)) 1 rfl
theorem msel_68 : Cond.selects "ZoneFilesModel" ⟨"ZoneFilesModel", "nameSize", "(II)I"⟩ ⟨"ZoneFilesModel", "nameSize", "(II)I"⟩ ∈ T0 := ps_5 (q := (⟨"ZoneFilesModel", "nameSize", "(II)I"⟩, 72)) 4 rfl
abbrev b_Mo_addName : ByteArray := prog_14_method_17_code
def y_Mo_addName : MethodName := ⟨"ZoneFilesModel", "addName", "(II)V"⟩
theorem d_Mo_addName_0 : decode b_Mo_addName 0 = .ok (.aload_n 0, 1) := by decide +kernel
theorem d_Mo_addName_1 : decode b_Mo_addName 1 = .ok (.getfield 81, 3) := by decide +kernel
theorem d_Mo_addName_4 : decode b_Mo_addName 4 = .ok (.iconst 2, 1) := by decide +kernel
theorem d_Mo_addName_5 : decode b_Mo_addName 5 = .ok (.iload_n 1, 1) := by decide +kernel
theorem d_Mo_addName_6 : decode b_Mo_addName 6 = .ok (.imul, 1) := by decide +kernel
theorem d_Mo_addName_7 : decode b_Mo_addName 7 = .ok (.iload_n 2, 1) := by decide +kernel
theorem d_Mo_addName_8 : decode b_Mo_addName 8 = .ok (.iadd, 1) := by decide +kernel
theorem d_Mo_addName_9 : decode b_Mo_addName 9 = .ok (.iaload, 1) := by decide +kernel
theorem d_Mo_addName_10 : decode b_Mo_addName 10 = .ok (.istore_n 3, 1) := by decide +kernel
theorem d_Mo_addName_11 : decode b_Mo_addName 11 = .ok (.iconst 0, 1) := by decide +kernel
theorem d_Mo_addName_12 : decode b_Mo_addName 12 = .ok (.istore 4, 2) := by decide +kernel
theorem d_Mo_addName_14 : decode b_Mo_addName 14 = .ok (.iload 4, 2) := by decide +kernel
theorem d_Mo_addName_16 : decode b_Mo_addName 16 = .ok (.iload_n 3, 1) := by decide +kernel
theorem d_Mo_addName_17 : decode b_Mo_addName 17 = .ok (.if_icmp .ge 46, 3) := by decide +kernel
theorem d_Mo_addName_20 : decode b_Mo_addName 20 = .ok (.aload_n 0, 1) := by decide +kernel
theorem d_Mo_addName_21 : decode b_Mo_addName 21 = .ok (.getfield 57, 3) := by decide +kernel
theorem d_Mo_addName_24 : decode b_Mo_addName 24 = .ok (.sipush 200, 3) := by decide +kernel
theorem d_Mo_addName_27 : decode b_Mo_addName 27 = .ok (.iload_n 1, 1) := by decide +kernel
theorem d_Mo_addName_28 : decode b_Mo_addName 28 = .ok (.imul, 1) := by decide +kernel
theorem d_Mo_addName_29 : decode b_Mo_addName 29 = .ok (.aload_n 0, 1) := by decide +kernel
theorem d_Mo_addName_30 : decode b_Mo_addName 30 = .ok (.getfield 26, 3) := by decide +kernel
theorem d_Mo_addName_33 : decode b_Mo_addName 33 = .ok (.iload_n 1, 1) := by decide +kernel
theorem d_Mo_addName_34 : decode b_Mo_addName 34 = .ok (.iaload, 1) := by decide +kernel
theorem d_Mo_addName_35 : decode b_Mo_addName 35 = .ok (.iadd, 1) := by decide +kernel
theorem d_Mo_addName_36 : decode b_Mo_addName 36 = .ok (.iload 4, 2) := by decide +kernel
theorem d_Mo_addName_38 : decode b_Mo_addName 38 = .ok (.iadd, 1) := by decide +kernel
theorem d_Mo_addName_39 : decode b_Mo_addName 39 = .ok (.aload_n 0, 1) := by decide +kernel
theorem d_Mo_addName_40 : decode b_Mo_addName 40 = .ok (.getfield 84, 3) := by decide +kernel
theorem d_Mo_addName_43 : decode b_Mo_addName 43 = .ok (.bipush 20, 2) := by decide +kernel
theorem d_Mo_addName_45 : decode b_Mo_addName 45 = .ok (.iload_n 1, 1) := by decide +kernel
theorem d_Mo_addName_46 : decode b_Mo_addName 46 = .ok (.imul, 1) := by decide +kernel
theorem d_Mo_addName_47 : decode b_Mo_addName 47 = .ok (.bipush 10, 2) := by decide +kernel
theorem d_Mo_addName_49 : decode b_Mo_addName 49 = .ok (.iload_n 2, 1) := by decide +kernel
theorem d_Mo_addName_50 : decode b_Mo_addName 50 = .ok (.imul, 1) := by decide +kernel
theorem d_Mo_addName_51 : decode b_Mo_addName 51 = .ok (.iadd, 1) := by decide +kernel
theorem d_Mo_addName_52 : decode b_Mo_addName 52 = .ok (.iload 4, 2) := by decide +kernel
theorem d_Mo_addName_54 : decode b_Mo_addName 54 = .ok (.iadd, 1) := by decide +kernel
theorem d_Mo_addName_55 : decode b_Mo_addName 55 = .ok (.iaload, 1) := by decide +kernel
theorem d_Mo_addName_56 : decode b_Mo_addName 56 = .ok (.iastore, 1) := by decide +kernel
theorem d_Mo_addName_57 : decode b_Mo_addName 57 = .ok (.iinc 4 1, 3) := by decide +kernel
theorem d_Mo_addName_60 : decode b_Mo_addName 60 = .ok (.goto (-46), 3) := by decide +kernel
theorem d_Mo_addName_63 : decode b_Mo_addName 63 = .ok (.aload_n 0, 1) := by decide +kernel
theorem d_Mo_addName_64 : decode b_Mo_addName 64 = .ok (.getfield 57, 3) := by decide +kernel
theorem d_Mo_addName_67 : decode b_Mo_addName 67 = .ok (.sipush 200, 3) := by decide +kernel
theorem d_Mo_addName_70 : decode b_Mo_addName 70 = .ok (.iload_n 1, 1) := by decide +kernel
theorem d_Mo_addName_71 : decode b_Mo_addName 71 = .ok (.imul, 1) := by decide +kernel
theorem d_Mo_addName_72 : decode b_Mo_addName 72 = .ok (.aload_n 0, 1) := by decide +kernel
theorem d_Mo_addName_73 : decode b_Mo_addName 73 = .ok (.getfield 26, 3) := by decide +kernel
theorem d_Mo_addName_76 : decode b_Mo_addName 76 = .ok (.iload_n 1, 1) := by decide +kernel
theorem d_Mo_addName_77 : decode b_Mo_addName 77 = .ok (.iaload, 1) := by decide +kernel
theorem d_Mo_addName_78 : decode b_Mo_addName 78 = .ok (.iadd, 1) := by decide +kernel
theorem d_Mo_addName_79 : decode b_Mo_addName 79 = .ok (.iload_n 3, 1) := by decide +kernel
theorem d_Mo_addName_80 : decode b_Mo_addName 80 = .ok (.iadd, 1) := by decide +kernel
theorem d_Mo_addName_81 : decode b_Mo_addName 81 = .ok (.iconst 0, 1) := by decide +kernel
theorem d_Mo_addName_82 : decode b_Mo_addName 82 = .ok (.iastore, 1) := by decide +kernel
theorem d_Mo_addName_83 : decode b_Mo_addName 83 = .ok (.aload_n 0, 1) := by decide +kernel
theorem d_Mo_addName_84 : decode b_Mo_addName 84 = .ok (.getfield 26, 3) := by decide +kernel
theorem d_Mo_addName_87 : decode b_Mo_addName 87 = .ok (.iload_n 1, 1) := by decide +kernel
theorem d_Mo_addName_88 : decode b_Mo_addName 88 = .ok (.dup2, 1) := by decide +kernel
theorem d_Mo_addName_89 : decode b_Mo_addName 89 = .ok (.iaload, 1) := by decide +kernel
theorem d_Mo_addName_90 : decode b_Mo_addName 90 = .ok (.iload_n 3, 1) := by decide +kernel
theorem d_Mo_addName_91 : decode b_Mo_addName 91 = .ok (.iconst 1, 1) := by decide +kernel
theorem d_Mo_addName_92 : decode b_Mo_addName 92 = .ok (.iadd, 1) := by decide +kernel
theorem d_Mo_addName_93 : decode b_Mo_addName 93 = .ok (.iadd, 1) := by decide +kernel
theorem d_Mo_addName_94 : decode b_Mo_addName 94 = .ok (.iastore, 1) := by decide +kernel
theorem d_Mo_addName_95 : decode b_Mo_addName 95 = .ok (.return_, 1) := by decide +kernel
abbrev b_Mo_takeRule : ByteArray := prog_14_method_16_code
def y_Mo_takeRule : MethodName := ⟨"ZoneFilesModel", "takeRule", "(III)V"⟩
theorem d_Mo_takeRule_0 : decode b_Mo_takeRule 0 = .ok (.iconst 4, 1) := by decide +kernel
theorem d_Mo_takeRule_1 : decode b_Mo_takeRule 1 = .ok (.istore 4, 2) := by decide +kernel
theorem d_Mo_takeRule_3 : decode b_Mo_takeRule 3 = .ok (.aload_n 0, 1) := by decide +kernel
theorem d_Mo_takeRule_4 : decode b_Mo_takeRule 4 = .ok (.getfield 17, 3) := by decide +kernel
theorem d_Mo_takeRule_7 : decode b_Mo_takeRule 7 = .ok (.iload 4, 2) := by decide +kernel
theorem d_Mo_takeRule_9 : decode b_Mo_takeRule 9 = .ok (.iload_n 1, 1) := by decide +kernel
theorem d_Mo_takeRule_10 : decode b_Mo_takeRule 10 = .ok (.iastore, 1) := by decide +kernel
theorem d_Mo_takeRule_11 : decode b_Mo_takeRule 11 = .ok (.aload_n 0, 1) := by decide +kernel
theorem d_Mo_takeRule_12 : decode b_Mo_takeRule 12 = .ok (.getfield 20, 3) := by decide +kernel
theorem d_Mo_takeRule_15 : decode b_Mo_takeRule 15 = .ok (.iload 4, 2) := by decide +kernel
theorem d_Mo_takeRule_17 : decode b_Mo_takeRule 17 = .ok (.iconst 0, 1) := by decide +kernel
theorem d_Mo_takeRule_18 : decode b_Mo_takeRule 18 = .ok (.iastore, 1) := by decide +kernel
theorem d_Mo_takeRule_19 : decode b_Mo_takeRule 19 = .ok (.aload_n 0, 1) := by decide +kernel
theorem d_Mo_takeRule_20 : decode b_Mo_takeRule 20 = .ok (.getfield 23, 3) := by decide +kernel
theorem d_Mo_takeRule_23 : decode b_Mo_takeRule 23 = .ok (.iload 4, 2) := by decide +kernel
theorem d_Mo_takeRule_25 : decode b_Mo_takeRule 25 = .ok (.aload_n 0, 1) := by decide +kernel
theorem d_Mo_takeRule_26 : decode b_Mo_takeRule 26 = .ok (.getfield 75, 3) := by decide +kernel
theorem d_Mo_takeRule_29 : decode b_Mo_takeRule 29 = .ok (.iload 4, 2) := by decide +kernel
theorem d_Mo_takeRule_31 : decode b_Mo_takeRule 31 = .ok (.iaload, 1) := by decide +kernel
theorem d_Mo_takeRule_32 : decode b_Mo_takeRule 32 = .ok (.iastore, 1) := by decide +kernel
theorem d_Mo_takeRule_33 : decode b_Mo_takeRule 33 = .ok (.aload_n 0, 1) := by decide +kernel
theorem d_Mo_takeRule_34 : decode b_Mo_takeRule 34 = .ok (.getfield 29, 3) := by decide +kernel
theorem d_Mo_takeRule_37 : decode b_Mo_takeRule 37 = .ok (.iload 4, 2) := by decide +kernel
theorem d_Mo_takeRule_39 : decode b_Mo_takeRule 39 = .ok (.iconst 0, 1) := by decide +kernel
theorem d_Mo_takeRule_40 : decode b_Mo_takeRule 40 = .ok (.iastore, 1) := by decide +kernel
theorem d_Mo_takeRule_41 : decode b_Mo_takeRule 41 = .ok (.aload_n 0, 1) := by decide +kernel
theorem d_Mo_takeRule_42 : decode b_Mo_takeRule 42 = .ok (.getfield 32, 3) := by decide +kernel
theorem d_Mo_takeRule_45 : decode b_Mo_takeRule 45 = .ok (.iload 4, 2) := by decide +kernel
theorem d_Mo_takeRule_47 : decode b_Mo_takeRule 47 = .ok (.iconst 0, 1) := by decide +kernel
theorem d_Mo_takeRule_48 : decode b_Mo_takeRule 48 = .ok (.iastore, 1) := by decide +kernel
theorem d_Mo_takeRule_49 : decode b_Mo_takeRule 49 = .ok (.aload_n 0, 1) := by decide +kernel
theorem d_Mo_takeRule_50 : decode b_Mo_takeRule 50 = .ok (.getfield 35, 3) := by decide +kernel
theorem d_Mo_takeRule_53 : decode b_Mo_takeRule 53 = .ok (.iload 4, 2) := by decide +kernel
theorem d_Mo_takeRule_55 : decode b_Mo_takeRule 55 = .ok (.iconst 0, 1) := by decide +kernel
theorem d_Mo_takeRule_56 : decode b_Mo_takeRule 56 = .ok (.iastore, 1) := by decide +kernel
theorem d_Mo_takeRule_57 : decode b_Mo_takeRule 57 = .ok (.aload_n 0, 1) := by decide +kernel
theorem d_Mo_takeRule_58 : decode b_Mo_takeRule 58 = .ok (.getfield 26, 3) := by decide +kernel
theorem d_Mo_takeRule_61 : decode b_Mo_takeRule 61 = .ok (.iload 4, 2) := by decide +kernel
theorem d_Mo_takeRule_63 : decode b_Mo_takeRule 63 = .ok (.iconst 0, 1) := by decide +kernel
theorem d_Mo_takeRule_64 : decode b_Mo_takeRule 64 = .ok (.iastore, 1) := by decide +kernel
theorem d_Mo_takeRule_65 : decode b_Mo_takeRule 65 = .ok (.iconst 0, 1) := by decide +kernel
theorem d_Mo_takeRule_66 : decode b_Mo_takeRule 66 = .ok (.istore 5, 2) := by decide +kernel
theorem d_Mo_takeRule_68 : decode b_Mo_takeRule 68 = .ok (.iload 5, 2) := by decide +kernel
theorem d_Mo_takeRule_70 : decode b_Mo_takeRule 70 = .ok (.aload_n 0, 1) := by decide +kernel
theorem d_Mo_takeRule_71 : decode b_Mo_takeRule 71 = .ok (.getfield 75, 3) := by decide +kernel
theorem d_Mo_takeRule_74 : decode b_Mo_takeRule 74 = .ok (.iload 4, 2) := by decide +kernel
theorem d_Mo_takeRule_76 : decode b_Mo_takeRule 76 = .ok (.iaload, 1) := by decide +kernel
theorem d_Mo_takeRule_77 : decode b_Mo_takeRule 77 = .ok (.if_icmp .ge 77, 3) := by decide +kernel
theorem d_Mo_takeRule_80 : decode b_Mo_takeRule 80 = .ok (.aload_n 0, 1) := by decide +kernel
theorem d_Mo_takeRule_81 : decode b_Mo_takeRule 81 = .ok (.getfield 48, 3) := by decide +kernel
theorem d_Mo_takeRule_84 : decode b_Mo_takeRule 84 = .ok (.bipush 40, 2) := by decide +kernel
theorem d_Mo_takeRule_86 : decode b_Mo_takeRule 86 = .ok (.iload 4, 2) := by decide +kernel
theorem d_Mo_takeRule_88 : decode b_Mo_takeRule 88 = .ok (.imul, 1) := by decide +kernel
theorem d_Mo_takeRule_89 : decode b_Mo_takeRule 89 = .ok (.iload 5, 2) := by decide +kernel
theorem d_Mo_takeRule_91 : decode b_Mo_takeRule 91 = .ok (.iadd, 1) := by decide +kernel
theorem d_Mo_takeRule_92 : decode b_Mo_takeRule 92 = .ok (.aload_n 0, 1) := by decide +kernel
theorem d_Mo_takeRule_93 : decode b_Mo_takeRule 93 = .ok (.getfield 78, 3) := by decide +kernel
theorem d_Mo_takeRule_96 : decode b_Mo_takeRule 96 = .ok (.iconst 2, 1) := by decide +kernel
theorem d_Mo_takeRule_97 : decode b_Mo_takeRule 97 = .ok (.iload 4, 2) := by decide +kernel
theorem d_Mo_takeRule_99 : decode b_Mo_takeRule 99 = .ok (.imul, 1) := by decide +kernel
theorem d_Mo_takeRule_100 : decode b_Mo_takeRule 100 = .ok (.iload 5, 2) := by decide +kernel
theorem d_Mo_takeRule_102 : decode b_Mo_takeRule 102 = .ok (.iadd, 1) := by decide +kernel
theorem d_Mo_takeRule_103 : decode b_Mo_takeRule 103 = .ok (.iaload, 1) := by decide +kernel
theorem d_Mo_takeRule_104 : decode b_Mo_takeRule 104 = .ok (.iastore, 1) := by decide +kernel
theorem d_Mo_takeRule_105 : decode b_Mo_takeRule 105 = .ok (.aload_n 0, 1) := by decide +kernel
theorem d_Mo_takeRule_106 : decode b_Mo_takeRule 106 = .ok (.getfield 51, 3) := by decide +kernel
theorem d_Mo_takeRule_109 : decode b_Mo_takeRule 109 = .ok (.bipush 40, 2) := by decide +kernel
theorem d_Mo_takeRule_111 : decode b_Mo_takeRule 111 = .ok (.iload 4, 2) := by decide +kernel
theorem d_Mo_takeRule_113 : decode b_Mo_takeRule 113 = .ok (.imul, 1) := by decide +kernel
theorem d_Mo_takeRule_114 : decode b_Mo_takeRule 114 = .ok (.iload 5, 2) := by decide +kernel
theorem d_Mo_takeRule_116 : decode b_Mo_takeRule 116 = .ok (.iadd, 1) := by decide +kernel
theorem d_Mo_takeRule_117 : decode b_Mo_takeRule 117 = .ok (.iload 5, 2) := by decide +kernel
theorem d_Mo_takeRule_119 : decode b_Mo_takeRule 119 = .ok (.iastore, 1) := by decide +kernel
theorem d_Mo_takeRule_120 : decode b_Mo_takeRule 120 = .ok (.aload_n 0, 1) := by decide +kernel
theorem d_Mo_takeRule_121 : decode b_Mo_takeRule 121 = .ok (.getfield 54, 3) := by decide +kernel
theorem d_Mo_takeRule_124 : decode b_Mo_takeRule 124 = .ok (.bipush 40, 2) := by decide +kernel
theorem d_Mo_takeRule_126 : decode b_Mo_takeRule 126 = .ok (.iload 4, 2) := by decide +kernel
theorem d_Mo_takeRule_128 : decode b_Mo_takeRule 128 = .ok (.imul, 1) := by decide +kernel
theorem d_Mo_takeRule_129 : decode b_Mo_takeRule 129 = .ok (.iload 5, 2) := by decide +kernel
theorem d_Mo_takeRule_131 : decode b_Mo_takeRule 131 = .ok (.iadd, 1) := by decide +kernel
theorem d_Mo_takeRule_132 : decode b_Mo_takeRule 132 = .ok (.aload_n 0, 1) := by decide +kernel
theorem d_Mo_takeRule_133 : decode b_Mo_takeRule 133 = .ok (.getfield 26, 3) := by decide +kernel
theorem d_Mo_takeRule_136 : decode b_Mo_takeRule 136 = .ok (.iload 4, 2) := by decide +kernel
theorem d_Mo_takeRule_138 : decode b_Mo_takeRule 138 = .ok (.iaload, 1) := by decide +kernel
theorem d_Mo_takeRule_139 : decode b_Mo_takeRule 139 = .ok (.iastore, 1) := by decide +kernel
theorem d_Mo_takeRule_140 : decode b_Mo_takeRule 140 = .ok (.aload_n 0, 1) := by decide +kernel
theorem d_Mo_takeRule_141 : decode b_Mo_takeRule 141 = .ok (.iload 4, 2) := by decide +kernel
theorem d_Mo_takeRule_143 : decode b_Mo_takeRule 143 = .ok (.iload 5, 2) := by decide +kernel
theorem d_Mo_takeRule_145 : decode b_Mo_takeRule 145 = .ok (.invokevirtual 203, 3) := by decide +kernel
theorem d_Mo_takeRule_148 : decode b_Mo_takeRule 148 = .ok (.iinc 5 1, 3) := by decide +kernel
theorem d_Mo_takeRule_151 : decode b_Mo_takeRule 151 = .ok (.goto (-83), 3) := by decide +kernel
theorem d_Mo_takeRule_154 : decode b_Mo_takeRule 154 = .ok (.aload_n 0, 1) := by decide +kernel
theorem d_Mo_takeRule_155 : decode b_Mo_takeRule 155 = .ok (.getfield 38, 3) := by decide +kernel
theorem d_Mo_takeRule_158 : decode b_Mo_takeRule 158 = .ok (.iload 4, 2) := by decide +kernel
theorem d_Mo_takeRule_160 : decode b_Mo_takeRule 160 = .ok (.iload_n 3, 1) := by decide +kernel
theorem d_Mo_takeRule_161 : decode b_Mo_takeRule 161 = .ok (.iload_n 2, 1) := by decide +kernel
theorem d_Mo_takeRule_162 : decode b_Mo_takeRule 162 = .ok (.isub, 1) := by decide +kernel
theorem d_Mo_takeRule_163 : decode b_Mo_takeRule 163 = .ok (.iastore, 1) := by decide +kernel
theorem d_Mo_takeRule_164 : decode b_Mo_takeRule 164 = .ok (.iload_n 2, 1) := by decide +kernel
theorem d_Mo_takeRule_165 : decode b_Mo_takeRule 165 = .ok (.istore 5, 2) := by decide +kernel
theorem d_Mo_takeRule_167 : decode b_Mo_takeRule 167 = .ok (.iload 5, 2) := by decide +kernel
theorem d_Mo_takeRule_169 : decode b_Mo_takeRule 169 = .ok (.iload_n 3, 1) := by decide +kernel
theorem d_Mo_takeRule_170 : decode b_Mo_takeRule 170 = .ok (.if_icmp .ge 32, 3) := by decide +kernel
theorem d_Mo_takeRule_173 : decode b_Mo_takeRule 173 = .ok (.aload_n 0, 1) := by decide +kernel
theorem d_Mo_takeRule_174 : decode b_Mo_takeRule 174 = .ok (.getfield 72, 3) := by decide +kernel
theorem d_Mo_takeRule_177 : decode b_Mo_takeRule 177 = .ok (.sipush 128, 3) := by decide +kernel
theorem d_Mo_takeRule_180 : decode b_Mo_takeRule 180 = .ok (.iload 4, 2) := by decide +kernel
theorem d_Mo_takeRule_182 : decode b_Mo_takeRule 182 = .ok (.imul, 1) := by decide +kernel
theorem d_Mo_takeRule_183 : decode b_Mo_takeRule 183 = .ok (.iload 5, 2) := by decide +kernel
theorem d_Mo_takeRule_185 : decode b_Mo_takeRule 185 = .ok (.iadd, 1) := by decide +kernel
theorem d_Mo_takeRule_186 : decode b_Mo_takeRule 186 = .ok (.iload_n 2, 1) := by decide +kernel
theorem d_Mo_takeRule_187 : decode b_Mo_takeRule 187 = .ok (.isub, 1) := by decide +kernel
theorem d_Mo_takeRule_188 : decode b_Mo_takeRule 188 = .ok (.aload_n 0, 1) := by decide +kernel
theorem d_Mo_takeRule_189 : decode b_Mo_takeRule 189 = .ok (.getfield 7, 3) := by decide +kernel
theorem d_Mo_takeRule_192 : decode b_Mo_takeRule 192 = .ok (.iload 5, 2) := by decide +kernel
theorem d_Mo_takeRule_194 : decode b_Mo_takeRule 194 = .ok (.iaload, 1) := by decide +kernel
theorem d_Mo_takeRule_195 : decode b_Mo_takeRule 195 = .ok (.iastore, 1) := by decide +kernel
theorem d_Mo_takeRule_196 : decode b_Mo_takeRule 196 = .ok (.iinc 5 1, 3) := by decide +kernel
theorem d_Mo_takeRule_199 : decode b_Mo_takeRule 199 = .ok (.goto (-32), 3) := by decide +kernel
theorem d_Mo_takeRule_202 : decode b_Mo_takeRule 202 = .ok (.return_, 1) := by decide +kernel
abbrev b_Mo_rule : ByteArray := prog_14_method_18_code
def y_Mo_rule : MethodName := ⟨"ZoneFilesModel", "rule", "(IZ)I"⟩
theorem d_Mo_rule_0 : decode b_Mo_rule 0 = .ok (.aload_n 0, 1) := by decide +kernel
theorem d_Mo_rule_1 : decode b_Mo_rule 1 = .ok (.iload_n 1, 1) := by decide +kernel
theorem d_Mo_rule_2 : decode b_Mo_rule 2 = .ok (.ifCond .lt 8, 3) := by decide +kernel
theorem d_Mo_rule_5 : decode b_Mo_rule 5 = .ok (.iload_n 1, 1) := by decide +kernel
theorem d_Mo_rule_6 : decode b_Mo_rule 6 = .ok (.iconst 4, 1) := by decide +kernel
theorem d_Mo_rule_7 : decode b_Mo_rule 7 = .ok (.if_icmp .lt 7, 3) := by decide +kernel
theorem d_Mo_rule_10 : decode b_Mo_rule 10 = .ok (.iconst 1, 1) := by decide +kernel
theorem d_Mo_rule_11 : decode b_Mo_rule 11 = .ok (.goto 4, 3) := by decide +kernel
theorem d_Mo_rule_14 : decode b_Mo_rule 14 = .ok (.iconst 0, 1) := by decide +kernel
theorem d_Mo_rule_15 : decode b_Mo_rule 15 = .ok (.putfield 150, 3) := by decide +kernel
theorem d_Mo_rule_18 : decode b_Mo_rule 18 = .ok (.aload_n 0, 1) := by decide +kernel
theorem d_Mo_rule_19 : decode b_Mo_rule 19 = .ok (.getfield 150, 3) := by decide +kernel
theorem d_Mo_rule_22 : decode b_Mo_rule 22 = .ok (.ifCond .le 5, 3) := by decide +kernel
theorem d_Mo_rule_25 : decode b_Mo_rule 25 = .ok (.iconst 0, 1) := by decide +kernel
theorem d_Mo_rule_26 : decode b_Mo_rule 26 = .ok (.ireturn, 1) := by decide +kernel
theorem d_Mo_rule_27 : decode b_Mo_rule 27 = .ok (.aload_n 0, 1) := by decide +kernel
theorem d_Mo_rule_28 : decode b_Mo_rule 28 = .ok (.getfield 135, 3) := by decide +kernel
theorem d_Mo_rule_31 : decode b_Mo_rule 31 = .ok (.istore_n 3, 1) := by decide +kernel
theorem d_Mo_rule_32 : decode b_Mo_rule 32 = .ok (.aload_n 0, 1) := by decide +kernel
theorem d_Mo_rule_33 : decode b_Mo_rule 33 = .ok (.iconst 0, 1) := by decide +kernel
theorem d_Mo_rule_34 : decode b_Mo_rule 34 = .ok (.putfield 135, 3) := by decide +kernel
theorem d_Mo_rule_37 : decode b_Mo_rule 37 = .ok (.iload_n 3, 1) := by decide +kernel
theorem d_Mo_rule_38 : decode b_Mo_rule 38 = .ok (.ifCond .ne 10, 3) := by decide +kernel
theorem d_Mo_rule_41 : decode b_Mo_rule 41 = .ok (.aload_n 0, 1) := by decide +kernel
theorem d_Mo_rule_42 : decode b_Mo_rule 42 = .ok (.iconst 0, 1) := by decide +kernel
theorem d_Mo_rule_43 : decode b_Mo_rule 43 = .ok (.putfield 13, 3) := by decide +kernel
theorem d_Mo_rule_46 : decode b_Mo_rule 46 = .ok (.iconst 1, 1) := by decide +kernel
theorem d_Mo_rule_47 : decode b_Mo_rule 47 = .ok (.ireturn, 1) := by decide +kernel
theorem d_Mo_rule_48 : decode b_Mo_rule 48 = .ok (.iload_n 2, 1) := by decide +kernel
theorem d_Mo_rule_49 : decode b_Mo_rule 49 = .ok (.ifCond .eq 8, 3) := by decide +kernel
theorem d_Mo_rule_52 : decode b_Mo_rule 52 = .ok (.bipush 51, 2) := by decide +kernel
theorem d_Mo_rule_54 : decode b_Mo_rule 54 = .ok (.goto 5, 3) := by decide +kernel
theorem d_Mo_rule_57 : decode b_Mo_rule 57 = .ok (.bipush 50, 2) := by decide +kernel
theorem d_Mo_rule_59 : decode b_Mo_rule 59 = .ok (.istore 4, 2) := by decide +kernel
theorem d_Mo_rule_61 : decode b_Mo_rule 61 = .ok (.aload_n 0, 1) := by decide +kernel
theorem d_Mo_rule_62 : decode b_Mo_rule 62 = .ok (.iload 4, 2) := by decide +kernel
theorem d_Mo_rule_64 : decode b_Mo_rule 64 = .ok (.iconst 0, 1) := by decide +kernel
theorem d_Mo_rule_65 : decode b_Mo_rule 65 = .ok (.iload_n 3, 1) := by decide +kernel
theorem d_Mo_rule_66 : decode b_Mo_rule 66 = .ok (.invokevirtual 138, 3) := by decide +kernel
theorem d_Mo_rule_69 : decode b_Mo_rule 69 = .ok (.ifCond .ne 14, 3) := by decide +kernel
theorem d_Mo_rule_72 : decode b_Mo_rule 72 = .ok (.aload_n 0, 1) := by decide +kernel
theorem d_Mo_rule_73 : decode b_Mo_rule 73 = .ok (.aload_n 0, 1) := by decide +kernel
theorem d_Mo_rule_74 : decode b_Mo_rule 74 = .ok (.getfield 165, 3) := by decide +kernel
theorem d_Mo_rule_77 : decode b_Mo_rule 77 = .ok (.putfield 13, 3) := by decide +kernel
theorem d_Mo_rule_80 : decode b_Mo_rule 80 = .ok (.bipush 15, 2) := by decide +kernel
theorem d_Mo_rule_82 : decode b_Mo_rule 82 = .ok (.ireturn, 1) := by decide +kernel
theorem d_Mo_rule_83 : decode b_Mo_rule 83 = .ok (.aload_n 0, 1) := by decide +kernel
theorem d_Mo_rule_84 : decode b_Mo_rule 84 = .ok (.iload 4, 2) := by decide +kernel
theorem d_Mo_rule_86 : decode b_Mo_rule 86 = .ok (.iconst 0, 1) := by decide +kernel
theorem d_Mo_rule_87 : decode b_Mo_rule 87 = .ok (.iload_n 3, 1) := by decide +kernel
theorem d_Mo_rule_88 : decode b_Mo_rule 88 = .ok (.invokevirtual 142, 3) := by decide +kernel
theorem d_Mo_rule_91 : decode b_Mo_rule 91 = .ok (.aload_n 0, 1) := by decide +kernel
theorem d_Mo_rule_92 : decode b_Mo_rule 92 = .ok (.iload_n 1, 1) := by decide +kernel
theorem d_Mo_rule_93 : decode b_Mo_rule 93 = .ok (.iconst 4, 1) := by decide +kernel
theorem d_Mo_rule_94 : decode b_Mo_rule 94 = .ok (.invokevirtual 146, 3) := by decide +kernel
theorem d_Mo_rule_97 : decode b_Mo_rule 97 = .ok (.iconst 0, 1) := by decide +kernel
theorem d_Mo_rule_98 : decode b_Mo_rule 98 = .ok (.ireturn, 1) := by decide +kernel
abbrev b_Mo_faulty : ByteArray := prog_14_method_19_code
def y_Mo_faulty : MethodName := ⟨"ZoneFilesModel", "faulty", "(II)Z"⟩
theorem d_Mo_faulty_0 : decode b_Mo_faulty 0 = .ok (.aload_n 0, 1) := by decide +kernel
theorem d_Mo_faulty_1 : decode b_Mo_faulty 1 = .ok (.iload_n 1, 1) := by decide +kernel
theorem d_Mo_faulty_2 : decode b_Mo_faulty 2 = .ok (.putfield 206, 3) := by decide +kernel
theorem d_Mo_faulty_5 : decode b_Mo_faulty 5 = .ok (.aload_n 0, 1) := by decide +kernel
theorem d_Mo_faulty_6 : decode b_Mo_faulty 6 = .ok (.iload_n 2, 1) := by decide +kernel
theorem d_Mo_faulty_7 : decode b_Mo_faulty 7 = .ok (.putfield 13, 3) := by decide +kernel
theorem d_Mo_faulty_10 : decode b_Mo_faulty 10 = .ok (.iconst 0, 1) := by decide +kernel
theorem d_Mo_faulty_11 : decode b_Mo_faulty 11 = .ok (.ireturn, 1) := by decide +kernel
abbrev b_Mo_unsigned : ByteArray := prog_14_method_20_code
def y_Mo_unsigned : MethodName := ⟨"ZoneFilesModel", "unsigned", "(II)J"⟩
theorem d_Mo_unsigned_0 : decode b_Mo_unsigned 0 = .ok (.lconst 0, 1) := by decide +kernel
theorem d_Mo_unsigned_1 : decode b_Mo_unsigned 1 = .ok (.lstore_n 3, 1) := by decide +kernel
theorem d_Mo_unsigned_2 : decode b_Mo_unsigned 2 = .ok (.iconst 0, 1) := by decide +kernel
theorem d_Mo_unsigned_3 : decode b_Mo_unsigned 3 = .ok (.istore 5, 2) := by decide +kernel
theorem d_Mo_unsigned_5 : decode b_Mo_unsigned 5 = .ok (.iload 5, 2) := by decide +kernel
theorem d_Mo_unsigned_7 : decode b_Mo_unsigned 7 = .ok (.iload_n 2, 1) := by decide +kernel
theorem d_Mo_unsigned_8 : decode b_Mo_unsigned 8 = .ok (.if_icmp .ge 25, 3) := by decide +kernel
theorem d_Mo_unsigned_11 : decode b_Mo_unsigned 11 = .ok (.lload_n 3, 1) := by decide +kernel
theorem d_Mo_unsigned_12 : decode b_Mo_unsigned 12 = .ok (.bipush 8, 2) := by decide +kernel
theorem d_Mo_unsigned_14 : decode b_Mo_unsigned 14 = .ok (.lshl, 1) := by decide +kernel
theorem d_Mo_unsigned_15 : decode b_Mo_unsigned 15 = .ok (.aload_n 0, 1) := by decide +kernel
theorem d_Mo_unsigned_16 : decode b_Mo_unsigned 16 = .ok (.getfield 7, 3) := by decide +kernel
theorem d_Mo_unsigned_19 : decode b_Mo_unsigned 19 = .ok (.iload_n 1, 1) := by decide +kernel
theorem d_Mo_unsigned_20 : decode b_Mo_unsigned 20 = .ok (.iload 5, 2) := by decide +kernel
theorem d_Mo_unsigned_22 : decode b_Mo_unsigned 22 = .ok (.iadd, 1) := by decide +kernel
theorem d_Mo_unsigned_23 : decode b_Mo_unsigned 23 = .ok (.iaload, 1) := by decide +kernel
theorem d_Mo_unsigned_24 : decode b_Mo_unsigned 24 = .ok (.i2l, 1) := by decide +kernel
theorem d_Mo_unsigned_25 : decode b_Mo_unsigned 25 = .ok (.lor, 1) := by decide +kernel
theorem d_Mo_unsigned_26 : decode b_Mo_unsigned 26 = .ok (.lstore_n 3, 1) := by decide +kernel
theorem d_Mo_unsigned_27 : decode b_Mo_unsigned 27 = .ok (.iinc 5 1, 3) := by decide +kernel
theorem d_Mo_unsigned_30 : decode b_Mo_unsigned 30 = .ok (.goto (-25), 3) := by decide +kernel
theorem d_Mo_unsigned_33 : decode b_Mo_unsigned 33 = .ok (.lload_n 3, 1) := by decide +kernel
theorem d_Mo_unsigned_34 : decode b_Mo_unsigned 34 = .ok (.lreturn, 1) := by decide +kernel
abbrev b_Mo_signed : ByteArray := prog_14_method_21_code
def y_Mo_signed : MethodName := ⟨"ZoneFilesModel", "signed", "(II)J"⟩
theorem d_Mo_signed_0 : decode b_Mo_signed 0 = .ok (.aload_n 0, 1) := by decide +kernel
theorem d_Mo_signed_1 : decode b_Mo_signed 1 = .ok (.iload_n 1, 1) := by decide +kernel
theorem d_Mo_signed_2 : decode b_Mo_signed 2 = .ok (.iload_n 2, 1) := by decide +kernel
theorem d_Mo_signed_3 : decode b_Mo_signed 3 = .ok (.invokevirtual 209, 3) := by decide +kernel
theorem d_Mo_signed_6 : decode b_Mo_signed 6 = .ok (.lstore_n 3, 1) := by decide +kernel
theorem d_Mo_signed_7 : decode b_Mo_signed 7 = .ok (.iload_n 2, 1) := by decide +kernel
theorem d_Mo_signed_8 : decode b_Mo_signed 8 = .ok (.bipush 8, 2) := by decide +kernel
theorem d_Mo_signed_10 : decode b_Mo_signed 10 = .ok (.if_icmp .ne 7, 3) := by decide +kernel
theorem d_Mo_signed_13 : decode b_Mo_signed 13 = .ok (.lload_n 3, 1) := by decide +kernel
theorem d_Mo_signed_14 : decode b_Mo_signed 14 = .ok (.goto 20, 3) := by decide +kernel
theorem d_Mo_signed_17 : decode b_Mo_signed 17 = .ok (.lload_n 3, 1) := by decide +kernel
theorem d_Mo_signed_18 : decode b_Mo_signed 18 = .ok (.bipush 64, 2) := by decide +kernel
theorem d_Mo_signed_20 : decode b_Mo_signed 20 = .ok (.bipush 8, 2) := by decide +kernel
theorem d_Mo_signed_22 : decode b_Mo_signed 22 = .ok (.iload_n 2, 1) := by decide +kernel
theorem d_Mo_signed_23 : decode b_Mo_signed 23 = .ok (.imul, 1) := by decide +kernel
theorem d_Mo_signed_24 : decode b_Mo_signed 24 = .ok (.isub, 1) := by decide +kernel
theorem d_Mo_signed_25 : decode b_Mo_signed 25 = .ok (.lshl, 1) := by decide +kernel
theorem d_Mo_signed_26 : decode b_Mo_signed 26 = .ok (.bipush 64, 2) := by decide +kernel
theorem d_Mo_signed_28 : decode b_Mo_signed 28 = .ok (.bipush 8, 2) := by decide +kernel
theorem d_Mo_signed_30 : decode b_Mo_signed 30 = .ok (.iload_n 2, 1) := by decide +kernel
theorem d_Mo_signed_31 : decode b_Mo_signed 31 = .ok (.imul, 1) := by decide +kernel
theorem d_Mo_signed_32 : decode b_Mo_signed 32 = .ok (.isub, 1) := by decide +kernel
theorem d_Mo_signed_33 : decode b_Mo_signed 33 = .ok (.lshr, 1) := by decide +kernel
theorem d_Mo_signed_34 : decode b_Mo_signed 34 = .ok (.lreturn, 1) := by decide +kernel
abbrev b_Mo_magic : ByteArray := prog_14_method_22_code
def y_Mo_magic : MethodName := ⟨"ZoneFilesModel", "magic", "(I)I"⟩
theorem d_Mo_magic_0 : decode b_Mo_magic 0 = .ok (.iload_n 0, 1) := by decide +kernel
theorem d_Mo_magic_1 : decode b_Mo_magic 1 = .ok (.ifCond .ne 8, 3) := by decide +kernel
theorem d_Mo_magic_4 : decode b_Mo_magic 4 = .ok (.bipush 84, 2) := by decide +kernel
theorem d_Mo_magic_6 : decode b_Mo_magic 6 = .ok (.goto 25, 3) := by decide +kernel
theorem d_Mo_magic_9 : decode b_Mo_magic 9 = .ok (.iload_n 0, 1) := by decide +kernel
theorem d_Mo_magic_10 : decode b_Mo_magic 10 = .ok (.iconst 1, 1) := by decide +kernel
theorem d_Mo_magic_11 : decode b_Mo_magic 11 = .ok (.if_icmp .ne 8, 3) := by decide +kernel
theorem d_Mo_magic_14 : decode b_Mo_magic 14 = .ok (.bipush 90, 2) := by decide +kernel
theorem d_Mo_magic_16 : decode b_Mo_magic 16 = .ok (.goto 15, 3) := by decide +kernel
theorem d_Mo_magic_19 : decode b_Mo_magic 19 = .ok (.iload_n 0, 1) := by decide +kernel
theorem d_Mo_magic_20 : decode b_Mo_magic 20 = .ok (.iconst 2, 1) := by decide +kernel
theorem d_Mo_magic_21 : decode b_Mo_magic 21 = .ok (.if_icmp .ne 8, 3) := by decide +kernel
theorem d_Mo_magic_24 : decode b_Mo_magic 24 = .ok (.bipush 105, 2) := by decide +kernel
theorem d_Mo_magic_26 : decode b_Mo_magic 26 = .ok (.goto 5, 3) := by decide +kernel
theorem d_Mo_magic_29 : decode b_Mo_magic 29 = .ok (.bipush 102, 2) := by decide +kernel
theorem d_Mo_magic_31 : decode b_Mo_magic 31 = .ok (.ireturn, 1) := by decide +kernel
abbrev b_Mo_header : ByteArray := prog_14_method_23_code
def y_Mo_header : MethodName := ⟨"ZoneFilesModel", "header", "(Z)Z"⟩
theorem d_Mo_header_0 : decode b_Mo_header 0 = .ok (.iconst 0, 1) := by decide +kernel
theorem d_Mo_header_1 : decode b_Mo_header 1 = .ok (.istore_n 2, 1) := by decide +kernel
theorem d_Mo_header_2 : decode b_Mo_header 2 = .ok (.iload_n 2, 1) := by decide +kernel
theorem d_Mo_header_3 : decode b_Mo_header 3 = .ok (.iconst 4, 1) := by decide +kernel
theorem d_Mo_header_4 : decode b_Mo_header 4 = .ok (.if_icmp .ge 52, 3) := by decide +kernel
theorem d_Mo_header_7 : decode b_Mo_header 7 = .ok (.aload_n 0, 1) := by decide +kernel
theorem d_Mo_header_8 : decode b_Mo_header 8 = .ok (.getfield 155, 3) := by decide +kernel
theorem d_Mo_header_11 : decode b_Mo_header 11 = .ok (.iload_n 2, 1) := by decide +kernel
theorem d_Mo_header_12 : decode b_Mo_header 12 = .ok (.iadd, 1) := by decide +kernel
theorem d_Mo_header_13 : decode b_Mo_header 13 = .ok (.aload_n 0, 1) := by decide +kernel
theorem d_Mo_header_14 : decode b_Mo_header 14 = .ok (.getfield 135, 3) := by decide +kernel
theorem d_Mo_header_17 : decode b_Mo_header 17 = .ok (.if_icmp .ge 33, 3) := by decide +kernel
theorem d_Mo_header_20 : decode b_Mo_header 20 = .ok (.aload_n 0, 1) := by decide +kernel
theorem d_Mo_header_21 : decode b_Mo_header 21 = .ok (.getfield 7, 3) := by decide +kernel
theorem d_Mo_header_24 : decode b_Mo_header 24 = .ok (.aload_n 0, 1) := by decide +kernel
theorem d_Mo_header_25 : decode b_Mo_header 25 = .ok (.getfield 155, 3) := by decide +kernel
theorem d_Mo_header_28 : decode b_Mo_header 28 = .ok (.iload_n 2, 1) := by decide +kernel
theorem d_Mo_header_29 : decode b_Mo_header 29 = .ok (.iadd, 1) := by decide +kernel
theorem d_Mo_header_30 : decode b_Mo_header 30 = .ok (.iaload, 1) := by decide +kernel
theorem d_Mo_header_31 : decode b_Mo_header 31 = .ok (.iload_n 2, 1) := by decide +kernel
theorem d_Mo_header_32 : decode b_Mo_header 32 = .ok (.invokestatic 213, 3) := by decide +kernel
theorem d_Mo_header_35 : decode b_Mo_header 35 = .ok (.if_icmp .eq 15, 3) := by decide +kernel
theorem d_Mo_header_38 : decode b_Mo_header 38 = .ok (.aload_n 0, 1) := by decide +kernel
theorem d_Mo_header_39 : decode b_Mo_header 39 = .ok (.iconst 2, 1) := by decide +kernel
theorem d_Mo_header_40 : decode b_Mo_header 40 = .ok (.aload_n 0, 1) := by decide +kernel
theorem d_Mo_header_41 : decode b_Mo_header 41 = .ok (.getfield 155, 3) := by decide +kernel
theorem d_Mo_header_44 : decode b_Mo_header 44 = .ok (.iload_n 2, 1) := by decide +kernel
theorem d_Mo_header_45 : decode b_Mo_header 45 = .ok (.iadd, 1) := by decide +kernel
theorem d_Mo_header_46 : decode b_Mo_header 46 = .ok (.invokevirtual 217, 3) := by decide +kernel
theorem d_Mo_header_49 : decode b_Mo_header 49 = .ok (.ireturn, 1) := by decide +kernel
theorem d_Mo_header_50 : decode b_Mo_header 50 = .ok (.iinc 2 1, 3) := by decide +kernel
theorem d_Mo_header_53 : decode b_Mo_header 53 = .ok (.goto (-51), 3) := by decide +kernel
theorem d_Mo_header_56 : decode b_Mo_header 56 = .ok (.aload_n 0, 1) := by decide +kernel
theorem d_Mo_header_57 : decode b_Mo_header 57 = .ok (.getfield 155, 3) := by decide +kernel
theorem d_Mo_header_60 : decode b_Mo_header 60 = .ok (.iconst 4, 1) := by decide +kernel
theorem d_Mo_header_61 : decode b_Mo_header 61 = .ok (.iadd, 1) := by decide +kernel
theorem d_Mo_header_62 : decode b_Mo_header 62 = .ok (.aload_n 0, 1) := by decide +kernel
theorem d_Mo_header_63 : decode b_Mo_header 63 = .ok (.getfield 135, 3) := by decide +kernel
theorem d_Mo_header_66 : decode b_Mo_header 66 = .ok (.if_icmp .ge 63, 3) := by decide +kernel
theorem d_Mo_header_69 : decode b_Mo_header 69 = .ok (.aload_n 0, 1) := by decide +kernel
theorem d_Mo_header_70 : decode b_Mo_header 70 = .ok (.getfield 7, 3) := by decide +kernel
theorem d_Mo_header_73 : decode b_Mo_header 73 = .ok (.aload_n 0, 1) := by decide +kernel
theorem d_Mo_header_74 : decode b_Mo_header 74 = .ok (.getfield 155, 3) := by decide +kernel
theorem d_Mo_header_77 : decode b_Mo_header 77 = .ok (.iconst 4, 1) := by decide +kernel
theorem d_Mo_header_78 : decode b_Mo_header 78 = .ok (.iadd, 1) := by decide +kernel
theorem d_Mo_header_79 : decode b_Mo_header 79 = .ok (.iaload, 1) := by decide +kernel
theorem d_Mo_header_80 : decode b_Mo_header 80 = .ok (.istore_n 2, 1) := by decide +kernel
theorem d_Mo_header_81 : decode b_Mo_header 81 = .ok (.iload_n 1, 1) := by decide +kernel
theorem d_Mo_header_82 : decode b_Mo_header 82 = .ok (.ifCond .eq 14, 3) := by decide +kernel
theorem d_Mo_header_85 : decode b_Mo_header 85 = .ok (.iload_n 2, 1) := by decide +kernel
theorem d_Mo_header_86 : decode b_Mo_header 86 = .ok (.aload_n 0, 1) := by decide +kernel
theorem d_Mo_header_87 : decode b_Mo_header 87 = .ok (.getfield 221, 3) := by decide +kernel
theorem d_Mo_header_90 : decode b_Mo_header 90 = .ok (.if_icmp .eq 34, 3) := by decide +kernel
theorem d_Mo_header_93 : decode b_Mo_header 93 = .ok (.goto 19, 3) := by decide +kernel
theorem d_Mo_header_96 : decode b_Mo_header 96 = .ok (.iload_n 2, 1) := by decide +kernel
theorem d_Mo_header_97 : decode b_Mo_header 97 = .ok (.ifCond .eq 27, 3) := by decide +kernel
theorem d_Mo_header_100 : decode b_Mo_header 100 = .ok (.iload_n 2, 1) := by decide +kernel
theorem d_Mo_header_101 : decode b_Mo_header 101 = .ok (.bipush 50, 2) := by decide +kernel
theorem d_Mo_header_103 : decode b_Mo_header 103 = .ok (.if_icmp .eq 21, 3) := by decide +kernel
theorem d_Mo_header_106 : decode b_Mo_header 106 = .ok (.iload_n 2, 1) := by decide +kernel
theorem d_Mo_header_107 : decode b_Mo_header 107 = .ok (.bipush 51, 2) := by decide +kernel
theorem d_Mo_header_109 : decode b_Mo_header 109 = .ok (.if_icmp .eq 15, 3) := by decide +kernel
theorem d_Mo_header_112 : decode b_Mo_header 112 = .ok (.aload_n 0, 1) := by decide +kernel
theorem d_Mo_header_113 : decode b_Mo_header 113 = .ok (.iconst 3, 1) := by decide +kernel
theorem d_Mo_header_114 : decode b_Mo_header 114 = .ok (.aload_n 0, 1) := by decide +kernel
theorem d_Mo_header_115 : decode b_Mo_header 115 = .ok (.getfield 155, 3) := by decide +kernel
theorem d_Mo_header_118 : decode b_Mo_header 118 = .ok (.iconst 4, 1) := by decide +kernel
theorem d_Mo_header_119 : decode b_Mo_header 119 = .ok (.iadd, 1) := by decide +kernel
theorem d_Mo_header_120 : decode b_Mo_header 120 = .ok (.invokevirtual 217, 3) := by decide +kernel
theorem d_Mo_header_123 : decode b_Mo_header 123 = .ok (.ireturn, 1) := by decide +kernel
theorem d_Mo_header_124 : decode b_Mo_header 124 = .ok (.aload_n 0, 1) := by decide +kernel
theorem d_Mo_header_125 : decode b_Mo_header 125 = .ok (.iload_n 2, 1) := by decide +kernel
theorem d_Mo_header_126 : decode b_Mo_header 126 = .ok (.putfield 221, 3) := by decide +kernel
theorem d_Mo_header_129 : decode b_Mo_header 129 = .ok (.aload_n 0, 1) := by decide +kernel
theorem d_Mo_header_130 : decode b_Mo_header 130 = .ok (.getfield 155, 3) := by decide +kernel
theorem d_Mo_header_133 : decode b_Mo_header 133 = .ok (.bipush 44, 2) := by decide +kernel
theorem d_Mo_header_135 : decode b_Mo_header 135 = .ok (.iadd, 1) := by decide +kernel
theorem d_Mo_header_136 : decode b_Mo_header 136 = .ok (.aload_n 0, 1) := by decide +kernel
theorem d_Mo_header_137 : decode b_Mo_header 137 = .ok (.getfield 135, 3) := by decide +kernel
theorem d_Mo_header_140 : decode b_Mo_header 140 = .ok (.if_icmp .le 13, 3) := by decide +kernel
theorem d_Mo_header_143 : decode b_Mo_header 143 = .ok (.aload_n 0, 1) := by decide +kernel
theorem d_Mo_header_144 : decode b_Mo_header 144 = .ok (.iconst 1, 1) := by decide +kernel
theorem d_Mo_header_145 : decode b_Mo_header 145 = .ok (.aload_n 0, 1) := by decide +kernel
theorem d_Mo_header_146 : decode b_Mo_header 146 = .ok (.getfield 135, 3) := by decide +kernel
theorem d_Mo_header_149 : decode b_Mo_header 149 = .ok (.invokevirtual 217, 3) := by decide +kernel
theorem d_Mo_header_152 : decode b_Mo_header 152 = .ok (.ireturn, 1) := by decide +kernel
theorem d_Mo_header_153 : decode b_Mo_header 153 = .ok (.iconst 0, 1) := by decide +kernel
theorem d_Mo_header_154 : decode b_Mo_header 154 = .ok (.istore_n 2, 1) := by decide +kernel
theorem d_Mo_header_155 : decode b_Mo_header 155 = .ok (.iload_n 2, 1) := by decide +kernel
theorem d_Mo_header_156 : decode b_Mo_header 156 = .ok (.bipush 6, 2) := by decide +kernel
theorem d_Mo_header_158 : decode b_Mo_header 158 = .ok (.if_icmp .ge 31, 3) := by decide +kernel
theorem d_Mo_header_161 : decode b_Mo_header 161 = .ok (.aload_n 0, 1) := by decide +kernel
theorem d_Mo_header_162 : decode b_Mo_header 162 = .ok (.getfield 102, 3) := by decide +kernel
theorem d_Mo_header_165 : decode b_Mo_header 165 = .ok (.iload_n 2, 1) := by decide +kernel
theorem d_Mo_header_166 : decode b_Mo_header 166 = .ok (.aload_n 0, 1) := by decide +kernel
theorem d_Mo_header_167 : decode b_Mo_header 167 = .ok (.aload_n 0, 1) := by decide +kernel
theorem d_Mo_header_168 : decode b_Mo_header 168 = .ok (.getfield 155, 3) := by decide +kernel
theorem d_Mo_header_171 : decode b_Mo_header 171 = .ok (.bipush 20, 2) := by decide +kernel
theorem d_Mo_header_173 : decode b_Mo_header 173 = .ok (.iadd, 1) := by decide +kernel
theorem d_Mo_header_174 : decode b_Mo_header 174 = .ok (.iconst 4, 1) := by decide +kernel
theorem d_Mo_header_175 : decode b_Mo_header 175 = .ok (.iload_n 2, 1) := by decide +kernel
theorem d_Mo_header_176 : decode b_Mo_header 176 = .ok (.imul, 1) := by decide +kernel
theorem d_Mo_header_177 : decode b_Mo_header 177 = .ok (.iadd, 1) := by decide +kernel
theorem d_Mo_header_178 : decode b_Mo_header 178 = .ok (.iconst 4, 1) := by decide +kernel
theorem d_Mo_header_179 : decode b_Mo_header 179 = .ok (.invokevirtual 209, 3) := by decide +kernel
theorem d_Mo_header_182 : decode b_Mo_header 182 = .ok (.lastore, 1) := by decide +kernel
theorem d_Mo_header_183 : decode b_Mo_header 183 = .ok (.iinc 2 1, 3) := by decide +kernel
theorem d_Mo_header_186 : decode b_Mo_header 186 = .ok (.goto (-31), 3) := by decide +kernel
theorem d_Mo_header_189 : decode b_Mo_header 189 = .ok (.iconst 0, 1) := by decide +kernel
theorem d_Mo_header_190 : decode b_Mo_header 190 = .ok (.istore_n 2, 1) := by decide +kernel
theorem d_Mo_header_191 : decode b_Mo_header 191 = .ok (.iload_n 2, 1) := by decide +kernel
theorem d_Mo_header_192 : decode b_Mo_header 192 = .ok (.bipush 6, 2) := by decide +kernel
theorem d_Mo_header_194 : decode b_Mo_header 194 = .ok (.if_icmp .ge 142, 3) := by decide +kernel
theorem d_Mo_header_197 : decode b_Mo_header 197 = .ok (.aload_n 0, 1) := by decide +kernel
theorem d_Mo_header_198 : decode b_Mo_header 198 = .ok (.getfield 102, 3) := by decide +kernel
theorem d_Mo_header_201 : decode b_Mo_header 201 = .ok (.iload_n 2, 1) := by decide +kernel
theorem d_Mo_header_202 : decode b_Mo_header 202 = .ok (.laload, 1) := by decide +kernel
theorem d_Mo_header_203 : decode b_Mo_header 203 = .ok (.lstore_n 3, 1) := by decide +kernel
theorem d_Mo_header_204 : decode b_Mo_header 204 = .ok (.iload_n 2, 1) := by decide +kernel
theorem d_Mo_header_205 : decode b_Mo_header 205 = .ok (.iconst 2, 1) := by decide +kernel
theorem d_Mo_header_206 : decode b_Mo_header 206 = .ok (.if_icmp .ge 28, 3) := by decide +kernel
theorem d_Mo_header_209 : decode b_Mo_header 209 = .ok (.lload_n 3, 1) := by decide +kernel
theorem d_Mo_header_210 : decode b_Mo_header 210 = .ok (.lconst 0, 1) := by decide +kernel
theorem d_Mo_header_211 : decode b_Mo_header 211 = .ok (.lcmp, 1) := by decide +kernel
theorem d_Mo_header_212 : decode b_Mo_header 212 = .ok (.ifCond .eq 14, 3) := by decide +kernel
theorem d_Mo_header_215 : decode b_Mo_header 215 = .ok (.lload_n 3, 1) := by decide +kernel
theorem d_Mo_header_216 : decode b_Mo_header 216 = .ok (.aload_n 0, 1) := by decide +kernel
theorem d_Mo_header_217 : decode b_Mo_header 217 = .ok (.getfield 102, 3) := by decide +kernel
theorem d_Mo_header_220 : decode b_Mo_header 220 = .ok (.iconst 4, 1) := by decide +kernel
theorem d_Mo_header_221 : decode b_Mo_header 221 = .ok (.laload, 1) := by decide +kernel
theorem d_Mo_header_222 : decode b_Mo_header 222 = .ok (.lcmp, 1) := by decide +kernel
theorem d_Mo_header_223 : decode b_Mo_header 223 = .ok (.ifCond .ne 7, 3) := by decide +kernel
theorem d_Mo_header_226 : decode b_Mo_header 226 = .ok (.iconst 1, 1) := by decide +kernel
theorem d_Mo_header_227 : decode b_Mo_header 227 = .ok (.goto 79, 3) := by decide +kernel
theorem d_Mo_header_230 : decode b_Mo_header 230 = .ok (.iconst 0, 1) := by decide +kernel
theorem d_Mo_header_231 : decode b_Mo_header 231 = .ok (.goto 75, 3) := by decide +kernel
theorem d_Mo_header_234 : decode b_Mo_header 234 = .ok (.iload_n 2, 1) := by decide +kernel
theorem d_Mo_header_235 : decode b_Mo_header 235 = .ok (.iconst 2, 1) := by decide +kernel
theorem d_Mo_header_236 : decode b_Mo_header 236 = .ok (.if_icmp .ne 19, 3) := by decide +kernel
theorem d_Mo_header_239 : decode b_Mo_header 239 = .ok (.lload_n 3, 1) := by decide +kernel
theorem d_Mo_header_240 : decode b_Mo_header 240 = .ok (.ldc2_w 224, 3) := by decide +kernel
theorem d_Mo_header_243 : decode b_Mo_header 243 = .ok (.lcmp, 1) := by decide +kernel
theorem d_Mo_header_244 : decode b_Mo_header 244 = .ok (.ifCond .gt 7, 3) := by decide +kernel
theorem d_Mo_header_247 : decode b_Mo_header 247 = .ok (.iconst 1, 1) := by decide +kernel
theorem d_Mo_header_248 : decode b_Mo_header 248 = .ok (.goto 58, 3) := by decide +kernel
theorem d_Mo_header_251 : decode b_Mo_header 251 = .ok (.iconst 0, 1) := by decide +kernel
theorem d_Mo_header_252 : decode b_Mo_header 252 = .ok (.goto 54, 3) := by decide +kernel
theorem d_Mo_header_255 : decode b_Mo_header 255 = .ok (.iload_n 2, 1) := by decide +kernel
theorem d_Mo_header_256 : decode b_Mo_header 256 = .ok (.iconst 3, 1) := by decide +kernel
theorem d_Mo_header_257 : decode b_Mo_header 257 = .ok (.if_icmp .ne 19, 3) := by decide +kernel
theorem d_Mo_header_260 : decode b_Mo_header 260 = .ok (.lload_n 3, 1) := by decide +kernel
theorem d_Mo_header_261 : decode b_Mo_header 261 = .ok (.ldc2_w 226, 3) := by decide +kernel
theorem d_Mo_header_264 : decode b_Mo_header 264 = .ok (.lcmp, 1) := by decide +kernel
theorem d_Mo_header_265 : decode b_Mo_header 265 = .ok (.ifCond .gt 7, 3) := by decide +kernel
theorem d_Mo_header_268 : decode b_Mo_header 268 = .ok (.iconst 1, 1) := by decide +kernel
theorem d_Mo_header_269 : decode b_Mo_header 269 = .ok (.goto 37, 3) := by decide +kernel
theorem d_Mo_header_272 : decode b_Mo_header 272 = .ok (.iconst 0, 1) := by decide +kernel
theorem d_Mo_header_273 : decode b_Mo_header 273 = .ok (.goto 33, 3) := by decide +kernel
theorem d_Mo_header_276 : decode b_Mo_header 276 = .ok (.lload_n 3, 1) := by decide +kernel
theorem d_Mo_header_277 : decode b_Mo_header 277 = .ok (.lconst 1, 1) := by decide +kernel
theorem d_Mo_header_278 : decode b_Mo_header 278 = .ok (.lcmp, 1) := by decide +kernel
theorem d_Mo_header_279 : decode b_Mo_header 279 = .ok (.ifCond .lt 26, 3) := by decide +kernel
theorem d_Mo_header_282 : decode b_Mo_header 282 = .ok (.lload_n 3, 1) := by decide +kernel
theorem d_Mo_header_283 : decode b_Mo_header 283 = .ok (.iload_n 2, 1) := by decide +kernel
theorem d_Mo_header_284 : decode b_Mo_header 284 = .ok (.iconst 4, 1) := by decide +kernel
theorem d_Mo_header_285 : decode b_Mo_header 285 = .ok (.if_icmp .ne 9, 3) := by decide +kernel
theorem d_Mo_header_288 : decode b_Mo_header 288 = .ok (.ldc2_w 224, 3) := by decide +kernel
theorem d_Mo_header_291 : decode b_Mo_header 291 = .ok (.goto 6, 3) := by decide +kernel
theorem d_Mo_header_294 : decode b_Mo_header 294 = .ok (.ldc2_w 226, 3) := by decide +kernel
theorem d_Mo_header_297 : decode b_Mo_header 297 = .ok (.lcmp, 1) := by decide +kernel
theorem d_Mo_header_298 : decode b_Mo_header 298 = .ok (.ifCond .gt 7, 3) := by decide +kernel
theorem d_Mo_header_301 : decode b_Mo_header 301 = .ok (.iconst 1, 1) := by decide +kernel
theorem d_Mo_header_302 : decode b_Mo_header 302 = .ok (.goto 4, 3) := by decide +kernel
theorem d_Mo_header_305 : decode b_Mo_header 305 = .ok (.iconst 0, 1) := by decide +kernel
theorem d_Mo_header_306 : decode b_Mo_header 306 = .ok (.istore 5, 2) := by decide +kernel
theorem d_Mo_header_308 : decode b_Mo_header 308 = .ok (.iload 5, 2) := by decide +kernel
theorem d_Mo_header_310 : decode b_Mo_header 310 = .ok (.ifCond .ne 20, 3) := by decide +kernel
theorem d_Mo_header_313 : decode b_Mo_header 313 = .ok (.aload_n 0, 1) := by decide +kernel
theorem d_Mo_header_314 : decode b_Mo_header 314 = .ok (.iconst 4, 1) := by decide +kernel
theorem d_Mo_header_315 : decode b_Mo_header 315 = .ok (.aload_n 0, 1) := by decide +kernel
theorem d_Mo_header_316 : decode b_Mo_header 316 = .ok (.getfield 155, 3) := by decide +kernel
theorem d_Mo_header_319 : decode b_Mo_header 319 = .ok (.bipush 20, 2) := by decide +kernel
theorem d_Mo_header_321 : decode b_Mo_header 321 = .ok (.iadd, 1) := by decide +kernel
theorem d_Mo_header_322 : decode b_Mo_header 322 = .ok (.iconst 4, 1) := by decide +kernel
theorem d_Mo_header_323 : decode b_Mo_header 323 = .ok (.iload_n 2, 1) := by decide +kernel
theorem d_Mo_header_324 : decode b_Mo_header 324 = .ok (.imul, 1) := by decide +kernel
theorem d_Mo_header_325 : decode b_Mo_header 325 = .ok (.iadd, 1) := by decide +kernel
theorem d_Mo_header_326 : decode b_Mo_header 326 = .ok (.invokevirtual 217, 3) := by decide +kernel
theorem d_Mo_header_329 : decode b_Mo_header 329 = .ok (.ireturn, 1) := by decide +kernel
theorem d_Mo_header_330 : decode b_Mo_header 330 = .ok (.iinc 2 1, 3) := by decide +kernel
theorem d_Mo_header_333 : decode b_Mo_header 333 = .ok (.goto (-142), 3) := by decide +kernel
theorem d_Mo_header_336 : decode b_Mo_header 336 = .ok (.aload_n 0, 1) := by decide +kernel
theorem d_Mo_header_337 : decode b_Mo_header 337 = .ok (.dup, 1) := by decide +kernel
theorem d_Mo_header_338 : decode b_Mo_header 338 = .ok (.getfield 155, 3) := by decide +kernel
theorem d_Mo_header_341 : decode b_Mo_header 341 = .ok (.bipush 44, 2) := by decide +kernel
theorem d_Mo_header_343 : decode b_Mo_header 343 = .ok (.iadd, 1) := by decide +kernel
theorem d_Mo_header_344 : decode b_Mo_header 344 = .ok (.putfield 155, 3) := by decide +kernel
theorem d_Mo_header_347 : decode b_Mo_header 347 = .ok (.iconst 1, 1) := by decide +kernel
theorem d_Mo_header_348 : decode b_Mo_header 348 = .ok (.ireturn, 1) := by decide +kernel
abbrev b_Mo_needs : ByteArray := prog_14_method_24_code
def y_Mo_needs : MethodName := ⟨"ZoneFilesModel", "needs", "(J)Z"⟩
theorem d_Mo_needs_0 : decode b_Mo_needs 0 = .ok (.aload_n 0, 1) := by decide +kernel
theorem d_Mo_needs_1 : decode b_Mo_needs 1 = .ok (.getfield 155, 3) := by decide +kernel
theorem d_Mo_needs_4 : decode b_Mo_needs 4 = .ok (.i2l, 1) := by decide +kernel
theorem d_Mo_needs_5 : decode b_Mo_needs 5 = .ok (.lload_n 1, 1) := by decide +kernel
theorem d_Mo_needs_6 : decode b_Mo_needs 6 = .ok (.ladd, 1) := by decide +kernel
theorem d_Mo_needs_7 : decode b_Mo_needs 7 = .ok (.aload_n 0, 1) := by decide +kernel
theorem d_Mo_needs_8 : decode b_Mo_needs 8 = .ok (.getfield 135, 3) := by decide +kernel
theorem d_Mo_needs_11 : decode b_Mo_needs 11 = .ok (.i2l, 1) := by decide +kernel
theorem d_Mo_needs_12 : decode b_Mo_needs 12 = .ok (.lcmp, 1) := by decide +kernel
theorem d_Mo_needs_13 : decode b_Mo_needs 13 = .ok (.ifCond .le 15, 3) := by decide +kernel
theorem d_Mo_needs_16 : decode b_Mo_needs 16 = .ok (.aload_n 0, 1) := by decide +kernel
theorem d_Mo_needs_17 : decode b_Mo_needs 17 = .ok (.iconst 1, 1) := by decide +kernel
theorem d_Mo_needs_18 : decode b_Mo_needs 18 = .ok (.aload_n 0, 1) := by decide +kernel
theorem d_Mo_needs_19 : decode b_Mo_needs 19 = .ok (.getfield 135, 3) := by decide +kernel
theorem d_Mo_needs_22 : decode b_Mo_needs 22 = .ok (.invokevirtual 217, 3) := by decide +kernel
theorem d_Mo_needs_25 : decode b_Mo_needs 25 = .ok (.ifCond .eq 7, 3) := by decide +kernel
theorem d_Mo_needs_28 : decode b_Mo_needs 28 = .ok (.iconst 1, 1) := by decide +kernel
theorem d_Mo_needs_29 : decode b_Mo_needs 29 = .ok (.goto 4, 3) := by decide +kernel
theorem d_Mo_needs_32 : decode b_Mo_needs 32 = .ok (.iconst 0, 1) := by decide +kernel
theorem d_Mo_needs_33 : decode b_Mo_needs 33 = .ok (.ireturn, 1) := by decide +kernel
abbrev b_Mo_flagRows : ByteArray := prog_14_method_31_code
def y_Mo_flagRows : MethodName := ⟨"ZoneFilesModel", "flagRows", "()Z"⟩
theorem d_Mo_flagRows_0 : decode b_Mo_flagRows 0 = .ok (.iconst 4, 1) := by decide +kernel
theorem d_Mo_flagRows_1 : decode b_Mo_flagRows 1 = .ok (.istore_n 1, 1) := by decide +kernel
theorem d_Mo_flagRows_2 : decode b_Mo_flagRows 2 = .ok (.aload_n 0, 1) := by decide +kernel
theorem d_Mo_flagRows_3 : decode b_Mo_flagRows 3 = .ok (.aload_n 0, 1) := by decide +kernel
theorem d_Mo_flagRows_4 : decode b_Mo_flagRows 4 = .ok (.getfield 32, 3) := by decide +kernel
theorem d_Mo_flagRows_7 : decode b_Mo_flagRows 7 = .ok (.iload_n 1, 1) := by decide +kernel
theorem d_Mo_flagRows_8 : decode b_Mo_flagRows 8 = .ok (.iaload, 1) := by decide +kernel
theorem d_Mo_flagRows_9 : decode b_Mo_flagRows 9 = .ok (.i2l, 1) := by decide +kernel
theorem d_Mo_flagRows_10 : decode b_Mo_flagRows 10 = .ok (.invokevirtual 244, 3) := by decide +kernel
theorem d_Mo_flagRows_13 : decode b_Mo_flagRows 13 = .ok (.ifCond .ne 5, 3) := by decide +kernel
theorem d_Mo_flagRows_16 : decode b_Mo_flagRows 16 = .ok (.iconst 0, 1) := by decide +kernel
theorem d_Mo_flagRows_17 : decode b_Mo_flagRows 17 = .ok (.ireturn, 1) := by decide +kernel
theorem d_Mo_flagRows_18 : decode b_Mo_flagRows 18 = .ok (.iconst 0, 1) := by decide +kernel
theorem d_Mo_flagRows_19 : decode b_Mo_flagRows 19 = .ok (.istore_n 2, 1) := by decide +kernel
theorem d_Mo_flagRows_20 : decode b_Mo_flagRows 20 = .ok (.iload_n 2, 1) := by decide +kernel
theorem d_Mo_flagRows_21 : decode b_Mo_flagRows 21 = .ok (.aload_n 0, 1) := by decide +kernel
theorem d_Mo_flagRows_22 : decode b_Mo_flagRows 22 = .ok (.getfield 32, 3) := by decide +kernel
theorem d_Mo_flagRows_25 : decode b_Mo_flagRows 25 = .ok (.iload_n 1, 1) := by decide +kernel
theorem d_Mo_flagRows_26 : decode b_Mo_flagRows 26 = .ok (.iaload, 1) := by decide +kernel
theorem d_Mo_flagRows_27 : decode b_Mo_flagRows 27 = .ok (.if_icmp .ge 63, 3) := by decide +kernel
theorem d_Mo_flagRows_30 : decode b_Mo_flagRows 30 = .ok (.aload_n 0, 1) := by decide +kernel
theorem d_Mo_flagRows_31 : decode b_Mo_flagRows 31 = .ok (.getfield 7, 3) := by decide +kernel
theorem d_Mo_flagRows_34 : decode b_Mo_flagRows 34 = .ok (.aload_n 0, 1) := by decide +kernel
theorem d_Mo_flagRows_35 : decode b_Mo_flagRows 35 = .ok (.getfield 155, 3) := by decide +kernel
theorem d_Mo_flagRows_38 : decode b_Mo_flagRows 38 = .ok (.iaload, 1) := by decide +kernel
theorem d_Mo_flagRows_39 : decode b_Mo_flagRows 39 = .ok (.iconst 1, 1) := by decide +kernel
theorem d_Mo_flagRows_40 : decode b_Mo_flagRows 40 = .ok (.if_icmp .le 14, 3) := by decide +kernel
theorem d_Mo_flagRows_43 : decode b_Mo_flagRows 43 = .ok (.aload_n 0, 1) := by decide +kernel
theorem d_Mo_flagRows_44 : decode b_Mo_flagRows 44 = .ok (.bipush 13, 2) := by decide +kernel
theorem d_Mo_flagRows_46 : decode b_Mo_flagRows 46 = .ok (.aload_n 0, 1) := by decide +kernel
theorem d_Mo_flagRows_47 : decode b_Mo_flagRows 47 = .ok (.getfield 155, 3) := by decide +kernel
theorem d_Mo_flagRows_50 : decode b_Mo_flagRows 50 = .ok (.invokevirtual 217, 3) := by decide +kernel
theorem d_Mo_flagRows_53 : decode b_Mo_flagRows 53 = .ok (.ireturn, 1) := by decide +kernel
theorem d_Mo_flagRows_54 : decode b_Mo_flagRows 54 = .ok (.aload_n 0, 1) := by decide +kernel
theorem d_Mo_flagRows_55 : decode b_Mo_flagRows 55 = .ok (.getfield 66, 3) := by decide +kernel
theorem d_Mo_flagRows_58 : decode b_Mo_flagRows 58 = .ok (.bipush 40, 2) := by decide +kernel
theorem d_Mo_flagRows_60 : decode b_Mo_flagRows 60 = .ok (.iload_n 1, 1) := by decide +kernel
theorem d_Mo_flagRows_61 : decode b_Mo_flagRows 61 = .ok (.imul, 1) := by decide +kernel
theorem d_Mo_flagRows_62 : decode b_Mo_flagRows 62 = .ok (.iload_n 2, 1) := by decide +kernel
theorem d_Mo_flagRows_63 : decode b_Mo_flagRows 63 = .ok (.iadd, 1) := by decide +kernel
theorem d_Mo_flagRows_64 : decode b_Mo_flagRows 64 = .ok (.aload_n 0, 1) := by decide +kernel
theorem d_Mo_flagRows_65 : decode b_Mo_flagRows 65 = .ok (.getfield 7, 3) := by decide +kernel
theorem d_Mo_flagRows_68 : decode b_Mo_flagRows 68 = .ok (.aload_n 0, 1) := by decide +kernel
theorem d_Mo_flagRows_69 : decode b_Mo_flagRows 69 = .ok (.getfield 155, 3) := by decide +kernel
theorem d_Mo_flagRows_72 : decode b_Mo_flagRows 72 = .ok (.iaload, 1) := by decide +kernel
theorem d_Mo_flagRows_73 : decode b_Mo_flagRows 73 = .ok (.iastore, 1) := by decide +kernel
theorem d_Mo_flagRows_74 : decode b_Mo_flagRows 74 = .ok (.aload_n 0, 1) := by decide +kernel
theorem d_Mo_flagRows_75 : decode b_Mo_flagRows 75 = .ok (.dup, 1) := by decide +kernel
theorem d_Mo_flagRows_76 : decode b_Mo_flagRows 76 = .ok (.getfield 155, 3) := by decide +kernel
theorem d_Mo_flagRows_79 : decode b_Mo_flagRows 79 = .ok (.iconst 1, 1) := by decide +kernel
theorem d_Mo_flagRows_80 : decode b_Mo_flagRows 80 = .ok (.iadd, 1) := by decide +kernel
theorem d_Mo_flagRows_81 : decode b_Mo_flagRows 81 = .ok (.putfield 155, 3) := by decide +kernel
theorem d_Mo_flagRows_84 : decode b_Mo_flagRows 84 = .ok (.iinc 2 1, 3) := by decide +kernel
theorem d_Mo_flagRows_87 : decode b_Mo_flagRows 87 = .ok (.goto (-67), 3) := by decide +kernel
theorem d_Mo_flagRows_90 : decode b_Mo_flagRows 90 = .ok (.aload_n 0, 1) := by decide +kernel
theorem d_Mo_flagRows_91 : decode b_Mo_flagRows 91 = .ok (.aload_n 0, 1) := by decide +kernel
theorem d_Mo_flagRows_92 : decode b_Mo_flagRows 92 = .ok (.getfield 35, 3) := by decide +kernel
theorem d_Mo_flagRows_95 : decode b_Mo_flagRows 95 = .ok (.iload_n 1, 1) := by decide +kernel
theorem d_Mo_flagRows_96 : decode b_Mo_flagRows 96 = .ok (.iaload, 1) := by decide +kernel
theorem d_Mo_flagRows_97 : decode b_Mo_flagRows 97 = .ok (.i2l, 1) := by decide +kernel
theorem d_Mo_flagRows_98 : decode b_Mo_flagRows 98 = .ok (.invokevirtual 244, 3) := by decide +kernel
theorem d_Mo_flagRows_101 : decode b_Mo_flagRows 101 = .ok (.ifCond .ne 5, 3) := by decide +kernel
theorem d_Mo_flagRows_104 : decode b_Mo_flagRows 104 = .ok (.iconst 0, 1) := by decide +kernel
theorem d_Mo_flagRows_105 : decode b_Mo_flagRows 105 = .ok (.ireturn, 1) := by decide +kernel
theorem d_Mo_flagRows_106 : decode b_Mo_flagRows 106 = .ok (.iconst 0, 1) := by decide +kernel
theorem d_Mo_flagRows_107 : decode b_Mo_flagRows 107 = .ok (.istore_n 2, 1) := by decide +kernel
theorem d_Mo_flagRows_108 : decode b_Mo_flagRows 108 = .ok (.iload_n 2, 1) := by decide +kernel
theorem d_Mo_flagRows_109 : decode b_Mo_flagRows 109 = .ok (.aload_n 0, 1) := by decide +kernel
theorem d_Mo_flagRows_110 : decode b_Mo_flagRows 110 = .ok (.getfield 35, 3) := by decide +kernel
theorem d_Mo_flagRows_113 : decode b_Mo_flagRows 113 = .ok (.iload_n 1, 1) := by decide +kernel
theorem d_Mo_flagRows_114 : decode b_Mo_flagRows 114 = .ok (.iaload, 1) := by decide +kernel
theorem d_Mo_flagRows_115 : decode b_Mo_flagRows 115 = .ok (.if_icmp .ge 109, 3) := by decide +kernel
theorem d_Mo_flagRows_118 : decode b_Mo_flagRows 118 = .ok (.aload_n 0, 1) := by decide +kernel
theorem d_Mo_flagRows_119 : decode b_Mo_flagRows 119 = .ok (.getfield 7, 3) := by decide +kernel
theorem d_Mo_flagRows_122 : decode b_Mo_flagRows 122 = .ok (.aload_n 0, 1) := by decide +kernel
theorem d_Mo_flagRows_123 : decode b_Mo_flagRows 123 = .ok (.getfield 155, 3) := by decide +kernel
theorem d_Mo_flagRows_126 : decode b_Mo_flagRows 126 = .ok (.iaload, 1) := by decide +kernel
theorem d_Mo_flagRows_127 : decode b_Mo_flagRows 127 = .ok (.ifCond .eq 40, 3) := by decide +kernel
theorem d_Mo_flagRows_130 : decode b_Mo_flagRows 130 = .ok (.aload_n 0, 1) := by decide +kernel
theorem d_Mo_flagRows_131 : decode b_Mo_flagRows 131 = .ok (.getfield 7, 3) := by decide +kernel
theorem d_Mo_flagRows_134 : decode b_Mo_flagRows 134 = .ok (.aload_n 0, 1) := by decide +kernel
theorem d_Mo_flagRows_135 : decode b_Mo_flagRows 135 = .ok (.getfield 155, 3) := by decide +kernel
theorem d_Mo_flagRows_138 : decode b_Mo_flagRows 138 = .ok (.iaload, 1) := by decide +kernel
theorem d_Mo_flagRows_139 : decode b_Mo_flagRows 139 = .ok (.iconst 1, 1) := by decide +kernel
theorem d_Mo_flagRows_140 : decode b_Mo_flagRows 140 = .ok (.if_icmp .ne 31, 3) := by decide +kernel
theorem d_Mo_flagRows_143 : decode b_Mo_flagRows 143 = .ok (.aload_n 0, 1) := by decide +kernel
theorem d_Mo_flagRows_144 : decode b_Mo_flagRows 144 = .ok (.getfield 32, 3) := by decide +kernel
theorem d_Mo_flagRows_147 : decode b_Mo_flagRows 147 = .ok (.iload_n 1, 1) := by decide +kernel
theorem d_Mo_flagRows_148 : decode b_Mo_flagRows 148 = .ok (.iaload, 1) := by decide +kernel
theorem d_Mo_flagRows_149 : decode b_Mo_flagRows 149 = .ok (.ifCond .le 22, 3) := by decide +kernel
theorem d_Mo_flagRows_152 : decode b_Mo_flagRows 152 = .ok (.aload_n 0, 1) := by decide +kernel
theorem d_Mo_flagRows_153 : decode b_Mo_flagRows 153 = .ok (.getfield 66, 3) := by decide +kernel
theorem d_Mo_flagRows_156 : decode b_Mo_flagRows 156 = .ok (.bipush 40, 2) := by decide +kernel
theorem d_Mo_flagRows_158 : decode b_Mo_flagRows 158 = .ok (.iload_n 1, 1) := by decide +kernel
theorem d_Mo_flagRows_159 : decode b_Mo_flagRows 159 = .ok (.imul, 1) := by decide +kernel
theorem d_Mo_flagRows_160 : decode b_Mo_flagRows 160 = .ok (.iload_n 2, 1) := by decide +kernel
theorem d_Mo_flagRows_161 : decode b_Mo_flagRows 161 = .ok (.iadd, 1) := by decide +kernel
theorem d_Mo_flagRows_162 : decode b_Mo_flagRows 162 = .ok (.iaload, 1) := by decide +kernel
theorem d_Mo_flagRows_163 : decode b_Mo_flagRows 163 = .ok (.iconst 1, 1) := by decide +kernel
theorem d_Mo_flagRows_164 : decode b_Mo_flagRows 164 = .ok (.if_icmp .ne 7, 3) := by decide +kernel
theorem d_Mo_flagRows_167 : decode b_Mo_flagRows 167 = .ok (.iconst 1, 1) := by decide +kernel
theorem d_Mo_flagRows_168 : decode b_Mo_flagRows 168 = .ok (.goto 4, 3) := by decide +kernel
theorem d_Mo_flagRows_171 : decode b_Mo_flagRows 171 = .ok (.iconst 0, 1) := by decide +kernel
theorem d_Mo_flagRows_172 : decode b_Mo_flagRows 172 = .ok (.istore_n 3, 1) := by decide +kernel
theorem d_Mo_flagRows_173 : decode b_Mo_flagRows 173 = .ok (.iload_n 3, 1) := by decide +kernel
theorem d_Mo_flagRows_174 : decode b_Mo_flagRows 174 = .ok (.ifCond .ne 14, 3) := by decide +kernel
theorem d_Mo_flagRows_177 : decode b_Mo_flagRows 177 = .ok (.aload_n 0, 1) := by decide +kernel
theorem d_Mo_flagRows_178 : decode b_Mo_flagRows 178 = .ok (.bipush 13, 2) := by decide +kernel
theorem d_Mo_flagRows_180 : decode b_Mo_flagRows 180 = .ok (.aload_n 0, 1) := by decide +kernel
theorem d_Mo_flagRows_181 : decode b_Mo_flagRows 181 = .ok (.getfield 155, 3) := by decide +kernel
theorem d_Mo_flagRows_184 : decode b_Mo_flagRows 184 = .ok (.invokevirtual 217, 3) := by decide +kernel
theorem d_Mo_flagRows_187 : decode b_Mo_flagRows 187 = .ok (.ireturn, 1) := by decide +kernel
theorem d_Mo_flagRows_188 : decode b_Mo_flagRows 188 = .ok (.aload_n 0, 1) := by decide +kernel
theorem d_Mo_flagRows_189 : decode b_Mo_flagRows 189 = .ok (.getfield 69, 3) := by decide +kernel
theorem d_Mo_flagRows_192 : decode b_Mo_flagRows 192 = .ok (.bipush 40, 2) := by decide +kernel
theorem d_Mo_flagRows_194 : decode b_Mo_flagRows 194 = .ok (.iload_n 1, 1) := by decide +kernel
theorem d_Mo_flagRows_195 : decode b_Mo_flagRows 195 = .ok (.imul, 1) := by decide +kernel
theorem d_Mo_flagRows_196 : decode b_Mo_flagRows 196 = .ok (.iload_n 2, 1) := by decide +kernel
theorem d_Mo_flagRows_197 : decode b_Mo_flagRows 197 = .ok (.iadd, 1) := by decide +kernel
theorem d_Mo_flagRows_198 : decode b_Mo_flagRows 198 = .ok (.aload_n 0, 1) := by decide +kernel
theorem d_Mo_flagRows_199 : decode b_Mo_flagRows 199 = .ok (.getfield 7, 3) := by decide +kernel
theorem d_Mo_flagRows_202 : decode b_Mo_flagRows 202 = .ok (.aload_n 0, 1) := by decide +kernel
theorem d_Mo_flagRows_203 : decode b_Mo_flagRows 203 = .ok (.getfield 155, 3) := by decide +kernel
theorem d_Mo_flagRows_206 : decode b_Mo_flagRows 206 = .ok (.iaload, 1) := by decide +kernel
theorem d_Mo_flagRows_207 : decode b_Mo_flagRows 207 = .ok (.iastore, 1) := by decide +kernel
theorem d_Mo_flagRows_208 : decode b_Mo_flagRows 208 = .ok (.aload_n 0, 1) := by decide +kernel
theorem d_Mo_flagRows_209 : decode b_Mo_flagRows 209 = .ok (.dup, 1) := by decide +kernel
theorem d_Mo_flagRows_210 : decode b_Mo_flagRows 210 = .ok (.getfield 155, 3) := by decide +kernel
theorem d_Mo_flagRows_213 : decode b_Mo_flagRows 213 = .ok (.iconst 1, 1) := by decide +kernel
theorem d_Mo_flagRows_214 : decode b_Mo_flagRows 214 = .ok (.iadd, 1) := by decide +kernel
theorem d_Mo_flagRows_215 : decode b_Mo_flagRows 215 = .ok (.putfield 155, 3) := by decide +kernel
theorem d_Mo_flagRows_218 : decode b_Mo_flagRows 218 = .ok (.iinc 2 1, 3) := by decide +kernel
theorem d_Mo_flagRows_221 : decode b_Mo_flagRows 221 = .ok (.goto (-113), 3) := by decide +kernel
theorem d_Mo_flagRows_224 : decode b_Mo_flagRows 224 = .ok (.iconst 1, 1) := by decide +kernel
theorem d_Mo_flagRows_225 : decode b_Mo_flagRows 225 = .ok (.ireturn, 1) := by decide +kernel
abbrev b_Mo_leapRows : ByteArray := prog_14_method_30_code
def y_Mo_leapRows : MethodName := ⟨"ZoneFilesModel", "leapRows", "(I)Z"⟩
theorem d_Mo_leapRows_0 : decode b_Mo_leapRows 0 = .ok (.iconst 4, 1) := by decide +kernel
theorem d_Mo_leapRows_1 : decode b_Mo_leapRows 1 = .ok (.istore_n 2, 1) := by decide +kernel
theorem d_Mo_leapRows_2 : decode b_Mo_leapRows 2 = .ok (.aload_n 0, 1) := by decide +kernel
theorem d_Mo_leapRows_3 : decode b_Mo_leapRows 3 = .ok (.iload_n 1, 1) := by decide +kernel
theorem d_Mo_leapRows_4 : decode b_Mo_leapRows 4 = .ok (.i2l, 1) := by decide +kernel
theorem d_Mo_leapRows_5 : decode b_Mo_leapRows 5 = .ok (.ldc2_w 263, 3) := by decide +kernel
theorem d_Mo_leapRows_8 : decode b_Mo_leapRows 8 = .ok (.ladd, 1) := by decide +kernel
theorem d_Mo_leapRows_9 : decode b_Mo_leapRows 9 = .ok (.aload_n 0, 1) := by decide +kernel
theorem d_Mo_leapRows_10 : decode b_Mo_leapRows 10 = .ok (.getfield 29, 3) := by decide +kernel
theorem d_Mo_leapRows_13 : decode b_Mo_leapRows 13 = .ok (.iload_n 2, 1) := by decide +kernel
theorem d_Mo_leapRows_14 : decode b_Mo_leapRows 14 = .ok (.iaload, 1) := by decide +kernel
theorem d_Mo_leapRows_15 : decode b_Mo_leapRows 15 = .ok (.i2l, 1) := by decide +kernel
theorem d_Mo_leapRows_16 : decode b_Mo_leapRows 16 = .ok (.lmul, 1) := by decide +kernel
theorem d_Mo_leapRows_17 : decode b_Mo_leapRows 17 = .ok (.invokevirtual 244, 3) := by decide +kernel
theorem d_Mo_leapRows_20 : decode b_Mo_leapRows 20 = .ok (.ifCond .ne 5, 3) := by decide +kernel
theorem d_Mo_leapRows_23 : decode b_Mo_leapRows 23 = .ok (.iconst 0, 1) := by decide +kernel
theorem d_Mo_leapRows_24 : decode b_Mo_leapRows 24 = .ok (.ireturn, 1) := by decide +kernel
theorem d_Mo_leapRows_25 : decode b_Mo_leapRows 25 = .ok (.iconst 0, 1) := by decide +kernel
theorem d_Mo_leapRows_26 : decode b_Mo_leapRows 26 = .ok (.istore_n 3, 1) := by decide +kernel
theorem d_Mo_leapRows_27 : decode b_Mo_leapRows 27 = .ok (.iload_n 3, 1) := by decide +kernel
theorem d_Mo_leapRows_28 : decode b_Mo_leapRows 28 = .ok (.aload_n 0, 1) := by decide +kernel
theorem d_Mo_leapRows_29 : decode b_Mo_leapRows 29 = .ok (.getfield 29, 3) := by decide +kernel
theorem d_Mo_leapRows_32 : decode b_Mo_leapRows 32 = .ok (.iload_n 2, 1) := by decide +kernel
theorem d_Mo_leapRows_33 : decode b_Mo_leapRows 33 = .ok (.iaload, 1) := by decide +kernel
theorem d_Mo_leapRows_34 : decode b_Mo_leapRows 34 = .ok (.if_icmp .ge 164, 3) := by decide +kernel
theorem d_Mo_leapRows_37 : decode b_Mo_leapRows 37 = .ok (.bipush 40, 2) := by decide +kernel
theorem d_Mo_leapRows_39 : decode b_Mo_leapRows 39 = .ok (.iload_n 2, 1) := by decide +kernel
theorem d_Mo_leapRows_40 : decode b_Mo_leapRows 40 = .ok (.imul, 1) := by decide +kernel
theorem d_Mo_leapRows_41 : decode b_Mo_leapRows 41 = .ok (.iload_n 3, 1) := by decide +kernel
theorem d_Mo_leapRows_42 : decode b_Mo_leapRows 42 = .ok (.iadd, 1) := by decide +kernel
theorem d_Mo_leapRows_43 : decode b_Mo_leapRows 43 = .ok (.istore 4, 2) := by decide +kernel
theorem d_Mo_leapRows_45 : decode b_Mo_leapRows 45 = .ok (.aload_n 0, 1) := by decide +kernel
theorem d_Mo_leapRows_46 : decode b_Mo_leapRows 46 = .ok (.aload_n 0, 1) := by decide +kernel
theorem d_Mo_leapRows_47 : decode b_Mo_leapRows 47 = .ok (.getfield 155, 3) := by decide +kernel
theorem d_Mo_leapRows_50 : decode b_Mo_leapRows 50 = .ok (.iload_n 1, 1) := by decide +kernel
theorem d_Mo_leapRows_51 : decode b_Mo_leapRows 51 = .ok (.invokevirtual 248, 3) := by decide +kernel
theorem d_Mo_leapRows_54 : decode b_Mo_leapRows 54 = .ok (.lstore 5, 2) := by decide +kernel
theorem d_Mo_leapRows_56 : decode b_Mo_leapRows 56 = .ok (.lload 5, 2) := by decide +kernel
theorem d_Mo_leapRows_58 : decode b_Mo_leapRows 58 = .ok (.lconst 0, 1) := by decide +kernel
theorem d_Mo_leapRows_59 : decode b_Mo_leapRows 59 = .ok (.lcmp, 1) := by decide +kernel
theorem d_Mo_leapRows_60 : decode b_Mo_leapRows 60 = .ok (.ifCond .lt 26, 3) := by decide +kernel
theorem d_Mo_leapRows_63 : decode b_Mo_leapRows 63 = .ok (.iload_n 3, 1) := by decide +kernel
theorem d_Mo_leapRows_64 : decode b_Mo_leapRows 64 = .ok (.ifCond .le 33, 3) := by decide +kernel
theorem d_Mo_leapRows_67 : decode b_Mo_leapRows 67 = .ok (.lload 5, 2) := by decide +kernel
theorem d_Mo_leapRows_69 : decode b_Mo_leapRows 69 = .ok (.aload_n 0, 1) := by decide +kernel
theorem d_Mo_leapRows_70 : decode b_Mo_leapRows 70 = .ok (.getfield 60, 3) := by decide +kernel
theorem d_Mo_leapRows_73 : decode b_Mo_leapRows 73 = .ok (.iload 4, 2) := by decide +kernel
theorem d_Mo_leapRows_75 : decode b_Mo_leapRows 75 = .ok (.iconst 1, 1) := by decide +kernel
theorem d_Mo_leapRows_76 : decode b_Mo_leapRows 76 = .ok (.isub, 1) := by decide +kernel
theorem d_Mo_leapRows_77 : decode b_Mo_leapRows 77 = .ok (.laload, 1) := by decide +kernel
theorem d_Mo_leapRows_78 : decode b_Mo_leapRows 78 = .ok (.lsub, 1) := by decide +kernel
theorem d_Mo_leapRows_79 : decode b_Mo_leapRows 79 = .ok (.ldc2_w 265, 3) := by decide +kernel
theorem d_Mo_leapRows_82 : decode b_Mo_leapRows 82 = .ok (.lcmp, 1) := by decide +kernel
theorem d_Mo_leapRows_83 : decode b_Mo_leapRows 83 = .ok (.ifCond .ge 14, 3) := by decide +kernel
theorem d_Mo_leapRows_86 : decode b_Mo_leapRows 86 = .ok (.aload_n 0, 1) := by decide +kernel
theorem d_Mo_leapRows_87 : decode b_Mo_leapRows 87 = .ok (.bipush 11, 2) := by decide +kernel
theorem d_Mo_leapRows_89 : decode b_Mo_leapRows 89 = .ok (.aload_n 0, 1) := by decide +kernel
theorem d_Mo_leapRows_90 : decode b_Mo_leapRows 90 = .ok (.getfield 155, 3) := by decide +kernel
theorem d_Mo_leapRows_93 : decode b_Mo_leapRows 93 = .ok (.invokevirtual 217, 3) := by decide +kernel
theorem d_Mo_leapRows_96 : decode b_Mo_leapRows 96 = .ok (.ireturn, 1) := by decide +kernel
theorem d_Mo_leapRows_97 : decode b_Mo_leapRows 97 = .ok (.aload_n 0, 1) := by decide +kernel
theorem d_Mo_leapRows_98 : decode b_Mo_leapRows 98 = .ok (.aload_n 0, 1) := by decide +kernel
theorem d_Mo_leapRows_99 : decode b_Mo_leapRows 99 = .ok (.getfield 155, 3) := by decide +kernel
theorem d_Mo_leapRows_102 : decode b_Mo_leapRows 102 = .ok (.iload_n 1, 1) := by decide +kernel
theorem d_Mo_leapRows_103 : decode b_Mo_leapRows 103 = .ok (.iadd, 1) := by decide +kernel
theorem d_Mo_leapRows_104 : decode b_Mo_leapRows 104 = .ok (.iconst 4, 1) := by decide +kernel
theorem d_Mo_leapRows_105 : decode b_Mo_leapRows 105 = .ok (.invokevirtual 248, 3) := by decide +kernel
theorem d_Mo_leapRows_108 : decode b_Mo_leapRows 108 = .ok (.lstore 7, 2) := by decide +kernel
theorem d_Mo_leapRows_110 : decode b_Mo_leapRows 110 = .ok (.iload_n 3, 1) := by decide +kernel
theorem d_Mo_leapRows_111 : decode b_Mo_leapRows 111 = .ok (.ifCond .ne 8, 3) := by decide +kernel
theorem d_Mo_leapRows_114 : decode b_Mo_leapRows 114 = .ok (.lload 7, 2) := by decide +kernel
theorem d_Mo_leapRows_116 : decode b_Mo_leapRows 116 = .ok (.goto 15, 3) := by decide +kernel
theorem d_Mo_leapRows_119 : decode b_Mo_leapRows 119 = .ok (.lload 7, 2) := by decide +kernel
theorem d_Mo_leapRows_121 : decode b_Mo_leapRows 121 = .ok (.aload_n 0, 1) := by decide +kernel
theorem d_Mo_leapRows_122 : decode b_Mo_leapRows 122 = .ok (.getfield 63, 3) := by decide +kernel
theorem d_Mo_leapRows_125 : decode b_Mo_leapRows 125 = .ok (.iload 4, 2) := by decide +kernel
theorem d_Mo_leapRows_127 : decode b_Mo_leapRows 127 = .ok (.iconst 1, 1) := by decide +kernel
theorem d_Mo_leapRows_128 : decode b_Mo_leapRows 128 = .ok (.isub, 1) := by decide +kernel
theorem d_Mo_leapRows_129 : decode b_Mo_leapRows 129 = .ok (.laload, 1) := by decide +kernel
theorem d_Mo_leapRows_130 : decode b_Mo_leapRows 130 = .ok (.lsub, 1) := by decide +kernel
theorem d_Mo_leapRows_131 : decode b_Mo_leapRows 131 = .ok (.lstore 9, 2) := by decide +kernel
theorem d_Mo_leapRows_133 : decode b_Mo_leapRows 133 = .ok (.lload 9, 2) := by decide +kernel
theorem d_Mo_leapRows_135 : decode b_Mo_leapRows 135 = .ok (.lconst 1, 1) := by decide +kernel
theorem d_Mo_leapRows_136 : decode b_Mo_leapRows 136 = .ok (.lcmp, 1) := by decide +kernel
theorem d_Mo_leapRows_137 : decode b_Mo_leapRows 137 = .ok (.ifCond .eq 25, 3) := by decide +kernel
theorem d_Mo_leapRows_140 : decode b_Mo_leapRows 140 = .ok (.lload 9, 2) := by decide +kernel
theorem d_Mo_leapRows_142 : decode b_Mo_leapRows 142 = .ok (.ldc2_w 267, 3) := by decide +kernel
theorem d_Mo_leapRows_145 : decode b_Mo_leapRows 145 = .ok (.lcmp, 1) := by decide +kernel
theorem d_Mo_leapRows_146 : decode b_Mo_leapRows 146 = .ok (.ifCond .eq 16, 3) := by decide +kernel
theorem d_Mo_leapRows_149 : decode b_Mo_leapRows 149 = .ok (.aload_n 0, 1) := by decide +kernel
theorem d_Mo_leapRows_150 : decode b_Mo_leapRows 150 = .ok (.bipush 12, 2) := by decide +kernel
theorem d_Mo_leapRows_152 : decode b_Mo_leapRows 152 = .ok (.aload_n 0, 1) := by decide +kernel
theorem d_Mo_leapRows_153 : decode b_Mo_leapRows 153 = .ok (.getfield 155, 3) := by decide +kernel
theorem d_Mo_leapRows_156 : decode b_Mo_leapRows 156 = .ok (.iload_n 1, 1) := by decide +kernel
theorem d_Mo_leapRows_157 : decode b_Mo_leapRows 157 = .ok (.iadd, 1) := by decide +kernel
theorem d_Mo_leapRows_158 : decode b_Mo_leapRows 158 = .ok (.invokevirtual 217, 3) := by decide +kernel
theorem d_Mo_leapRows_161 : decode b_Mo_leapRows 161 = .ok (.ireturn, 1) := by decide +kernel
theorem d_Mo_leapRows_162 : decode b_Mo_leapRows 162 = .ok (.aload_n 0, 1) := by decide +kernel
theorem d_Mo_leapRows_163 : decode b_Mo_leapRows 163 = .ok (.getfield 60, 3) := by decide +kernel
theorem d_Mo_leapRows_166 : decode b_Mo_leapRows 166 = .ok (.iload 4, 2) := by decide +kernel
theorem d_Mo_leapRows_168 : decode b_Mo_leapRows 168 = .ok (.lload 5, 2) := by decide +kernel
theorem d_Mo_leapRows_170 : decode b_Mo_leapRows 170 = .ok (.lastore, 1) := by decide +kernel
theorem d_Mo_leapRows_171 : decode b_Mo_leapRows 171 = .ok (.aload_n 0, 1) := by decide +kernel
theorem d_Mo_leapRows_172 : decode b_Mo_leapRows 172 = .ok (.getfield 63, 3) := by decide +kernel
theorem d_Mo_leapRows_175 : decode b_Mo_leapRows 175 = .ok (.iload 4, 2) := by decide +kernel
theorem d_Mo_leapRows_177 : decode b_Mo_leapRows 177 = .ok (.lload 7, 2) := by decide +kernel
theorem d_Mo_leapRows_179 : decode b_Mo_leapRows 179 = .ok (.lastore, 1) := by decide +kernel
theorem d_Mo_leapRows_180 : decode b_Mo_leapRows 180 = .ok (.aload_n 0, 1) := by decide +kernel
theorem d_Mo_leapRows_181 : decode b_Mo_leapRows 181 = .ok (.dup, 1) := by decide +kernel
theorem d_Mo_leapRows_182 : decode b_Mo_leapRows 182 = .ok (.getfield 155, 3) := by decide +kernel
theorem d_Mo_leapRows_185 : decode b_Mo_leapRows 185 = .ok (.iload_n 1, 1) := by decide +kernel
theorem d_Mo_leapRows_186 : decode b_Mo_leapRows 186 = .ok (.iconst 4, 1) := by decide +kernel
theorem d_Mo_leapRows_187 : decode b_Mo_leapRows 187 = .ok (.iadd, 1) := by decide +kernel
theorem d_Mo_leapRows_188 : decode b_Mo_leapRows 188 = .ok (.iadd, 1) := by decide +kernel
theorem d_Mo_leapRows_189 : decode b_Mo_leapRows 189 = .ok (.putfield 155, 3) := by decide +kernel
theorem d_Mo_leapRows_192 : decode b_Mo_leapRows 192 = .ok (.iinc 3 1, 3) := by decide +kernel
theorem d_Mo_leapRows_195 : decode b_Mo_leapRows 195 = .ok (.goto (-168), 3) := by decide +kernel
theorem d_Mo_leapRows_198 : decode b_Mo_leapRows 198 = .ok (.iconst 1, 1) := by decide +kernel
theorem d_Mo_leapRows_199 : decode b_Mo_leapRows 199 = .ok (.ireturn, 1) := by decide +kernel
abbrev b_Mo_nameSize : ByteArray := prog_14_method_28_code
def y_Mo_nameSize : MethodName := ⟨"ZoneFilesModel", "nameSize", "(II)I"⟩
theorem d_Mo_nameSize_0 : decode b_Mo_nameSize 0 = .ok (.aload_n 0, 1) := by decide +kernel
theorem d_Mo_nameSize_1 : decode b_Mo_nameSize 1 = .ok (.getfield 54, 3) := by decide +kernel
theorem d_Mo_nameSize_4 : decode b_Mo_nameSize 4 = .ok (.bipush 40, 2) := by decide +kernel
theorem d_Mo_nameSize_6 : decode b_Mo_nameSize 6 = .ok (.iload_n 1, 1) := by decide +kernel
theorem d_Mo_nameSize_7 : decode b_Mo_nameSize 7 = .ok (.imul, 1) := by decide +kernel
theorem d_Mo_nameSize_8 : decode b_Mo_nameSize 8 = .ok (.iload_n 2, 1) := by decide +kernel
theorem d_Mo_nameSize_9 : decode b_Mo_nameSize 9 = .ok (.iadd, 1) := by decide +kernel
theorem d_Mo_nameSize_10 : decode b_Mo_nameSize 10 = .ok (.iaload, 1) := by decide +kernel
theorem d_Mo_nameSize_11 : decode b_Mo_nameSize 11 = .ok (.istore_n 3, 1) := by decide +kernel
theorem d_Mo_nameSize_12 : decode b_Mo_nameSize 12 = .ok (.iload_n 3, 1) := by decide +kernel
theorem d_Mo_nameSize_13 : decode b_Mo_nameSize 13 = .ok (.istore 4, 2) := by decide +kernel
theorem d_Mo_nameSize_15 : decode b_Mo_nameSize 15 = .ok (.iload 4, 2) := by decide +kernel
theorem d_Mo_nameSize_17 : decode b_Mo_nameSize 17 = .ok (.aload_n 0, 1) := by decide +kernel
theorem d_Mo_nameSize_18 : decode b_Mo_nameSize 18 = .ok (.getfield 26, 3) := by decide +kernel
theorem d_Mo_nameSize_21 : decode b_Mo_nameSize 21 = .ok (.iload_n 1, 1) := by decide +kernel
theorem d_Mo_nameSize_22 : decode b_Mo_nameSize 22 = .ok (.iaload, 1) := by decide +kernel
theorem d_Mo_nameSize_23 : decode b_Mo_nameSize 23 = .ok (.if_icmp .ge 25, 3) := by decide +kernel
theorem d_Mo_nameSize_26 : decode b_Mo_nameSize 26 = .ok (.aload_n 0, 1) := by decide +kernel
theorem d_Mo_nameSize_27 : decode b_Mo_nameSize 27 = .ok (.getfield 57, 3) := by decide +kernel
theorem d_Mo_nameSize_30 : decode b_Mo_nameSize 30 = .ok (.sipush 200, 3) := by decide +kernel
theorem d_Mo_nameSize_33 : decode b_Mo_nameSize 33 = .ok (.iload_n 1, 1) := by decide +kernel
theorem d_Mo_nameSize_34 : decode b_Mo_nameSize 34 = .ok (.imul, 1) := by decide +kernel
theorem d_Mo_nameSize_35 : decode b_Mo_nameSize 35 = .ok (.iload 4, 2) := by decide +kernel
theorem d_Mo_nameSize_37 : decode b_Mo_nameSize 37 = .ok (.iadd, 1) := by decide +kernel
theorem d_Mo_nameSize_38 : decode b_Mo_nameSize 38 = .ok (.iaload, 1) := by decide +kernel
theorem d_Mo_nameSize_39 : decode b_Mo_nameSize 39 = .ok (.ifCond .eq 9, 3) := by decide +kernel
theorem d_Mo_nameSize_42 : decode b_Mo_nameSize 42 = .ok (.iinc 4 1, 3) := by decide +kernel
theorem d_Mo_nameSize_45 : decode b_Mo_nameSize 45 = .ok (.goto (-30), 3) := by decide +kernel
theorem d_Mo_nameSize_48 : decode b_Mo_nameSize 48 = .ok (.iload 4, 2) := by decide +kernel
theorem d_Mo_nameSize_50 : decode b_Mo_nameSize 50 = .ok (.aload_n 0, 1) := by decide +kernel
theorem d_Mo_nameSize_51 : decode b_Mo_nameSize 51 = .ok (.getfield 26, 3) := by decide +kernel
theorem d_Mo_nameSize_54 : decode b_Mo_nameSize 54 = .ok (.iload_n 1, 1) := by decide +kernel
theorem d_Mo_nameSize_55 : decode b_Mo_nameSize 55 = .ok (.iaload, 1) := by decide +kernel
theorem d_Mo_nameSize_56 : decode b_Mo_nameSize 56 = .ok (.if_icmp .ne 7, 3) := by decide +kernel
theorem d_Mo_nameSize_59 : decode b_Mo_nameSize 59 = .ok (.iconst (-1), 1) := by decide +kernel
theorem d_Mo_nameSize_60 : decode b_Mo_nameSize 60 = .ok (.goto 7, 3) := by decide +kernel
theorem d_Mo_nameSize_63 : decode b_Mo_nameSize 63 = .ok (.iload 4, 2) := by decide +kernel
theorem d_Mo_nameSize_65 : decode b_Mo_nameSize 65 = .ok (.iload_n 3, 1) := by decide +kernel
theorem d_Mo_nameSize_66 : decode b_Mo_nameSize 66 = .ok (.isub, 1) := by decide +kernel
theorem d_Mo_nameSize_67 : decode b_Mo_nameSize 67 = .ok (.ireturn, 1) := by decide +kernel
abbrev b_Mo_nameRows : ByteArray := prog_14_method_29_code
def y_Mo_nameRows : MethodName := ⟨"ZoneFilesModel", "nameRows", "()Z"⟩
theorem d_Mo_nameRows_0 : decode b_Mo_nameRows 0 = .ok (.iconst 4, 1) := by decide +kernel
theorem d_Mo_nameRows_1 : decode b_Mo_nameRows 1 = .ok (.istore_n 1, 1) := by decide +kernel
theorem d_Mo_nameRows_2 : decode b_Mo_nameRows 2 = .ok (.aload_n 0, 1) := by decide +kernel
theorem d_Mo_nameRows_3 : decode b_Mo_nameRows 3 = .ok (.getfield 155, 3) := by decide +kernel
theorem d_Mo_nameRows_6 : decode b_Mo_nameRows 6 = .ok (.bipush 6, 2) := by decide +kernel
theorem d_Mo_nameRows_8 : decode b_Mo_nameRows 8 = .ok (.aload_n 0, 1) := by decide +kernel
theorem d_Mo_nameRows_9 : decode b_Mo_nameRows 9 = .ok (.getfield 23, 3) := by decide +kernel
theorem d_Mo_nameRows_12 : decode b_Mo_nameRows 12 = .ok (.iload_n 1, 1) := by decide +kernel
theorem d_Mo_nameRows_13 : decode b_Mo_nameRows 13 = .ok (.iaload, 1) := by decide +kernel
theorem d_Mo_nameRows_14 : decode b_Mo_nameRows 14 = .ok (.imul, 1) := by decide +kernel
theorem d_Mo_nameRows_15 : decode b_Mo_nameRows 15 = .ok (.isub, 1) := by decide +kernel
theorem d_Mo_nameRows_16 : decode b_Mo_nameRows 16 = .ok (.istore_n 2, 1) := by decide +kernel
theorem d_Mo_nameRows_17 : decode b_Mo_nameRows 17 = .ok (.aload_n 0, 1) := by decide +kernel
theorem d_Mo_nameRows_18 : decode b_Mo_nameRows 18 = .ok (.aload_n 0, 1) := by decide +kernel
theorem d_Mo_nameRows_19 : decode b_Mo_nameRows 19 = .ok (.getfield 26, 3) := by decide +kernel
theorem d_Mo_nameRows_22 : decode b_Mo_nameRows 22 = .ok (.iload_n 1, 1) := by decide +kernel
theorem d_Mo_nameRows_23 : decode b_Mo_nameRows 23 = .ok (.iaload, 1) := by decide +kernel
theorem d_Mo_nameRows_24 : decode b_Mo_nameRows 24 = .ok (.i2l, 1) := by decide +kernel
theorem d_Mo_nameRows_25 : decode b_Mo_nameRows 25 = .ok (.invokevirtual 244, 3) := by decide +kernel
theorem d_Mo_nameRows_28 : decode b_Mo_nameRows 28 = .ok (.ifCond .ne 5, 3) := by decide +kernel
theorem d_Mo_nameRows_31 : decode b_Mo_nameRows 31 = .ok (.iconst 0, 1) := by decide +kernel
theorem d_Mo_nameRows_32 : decode b_Mo_nameRows 32 = .ok (.ireturn, 1) := by decide +kernel
theorem d_Mo_nameRows_33 : decode b_Mo_nameRows 33 = .ok (.iconst 0, 1) := by decide +kernel
theorem d_Mo_nameRows_34 : decode b_Mo_nameRows 34 = .ok (.istore_n 3, 1) := by decide +kernel
theorem d_Mo_nameRows_35 : decode b_Mo_nameRows 35 = .ok (.iload_n 3, 1) := by decide +kernel
theorem d_Mo_nameRows_36 : decode b_Mo_nameRows 36 = .ok (.aload_n 0, 1) := by decide +kernel
theorem d_Mo_nameRows_37 : decode b_Mo_nameRows 37 = .ok (.getfield 26, 3) := by decide +kernel
theorem d_Mo_nameRows_40 : decode b_Mo_nameRows 40 = .ok (.iload_n 1, 1) := by decide +kernel
theorem d_Mo_nameRows_41 : decode b_Mo_nameRows 41 = .ok (.iaload, 1) := by decide +kernel
theorem d_Mo_nameRows_42 : decode b_Mo_nameRows 42 = .ok (.if_icmp .ge 32, 3) := by decide +kernel
theorem d_Mo_nameRows_45 : decode b_Mo_nameRows 45 = .ok (.aload_n 0, 1) := by decide +kernel
theorem d_Mo_nameRows_46 : decode b_Mo_nameRows 46 = .ok (.getfield 57, 3) := by decide +kernel
theorem d_Mo_nameRows_49 : decode b_Mo_nameRows 49 = .ok (.sipush 200, 3) := by decide +kernel
theorem d_Mo_nameRows_52 : decode b_Mo_nameRows 52 = .ok (.iload_n 1, 1) := by decide +kernel
theorem d_Mo_nameRows_53 : decode b_Mo_nameRows 53 = .ok (.imul, 1) := by decide +kernel
theorem d_Mo_nameRows_54 : decode b_Mo_nameRows 54 = .ok (.iload_n 3, 1) := by decide +kernel
theorem d_Mo_nameRows_55 : decode b_Mo_nameRows 55 = .ok (.iadd, 1) := by decide +kernel
theorem d_Mo_nameRows_56 : decode b_Mo_nameRows 56 = .ok (.aload_n 0, 1) := by decide +kernel
theorem d_Mo_nameRows_57 : decode b_Mo_nameRows 57 = .ok (.getfield 7, 3) := by decide +kernel
theorem d_Mo_nameRows_60 : decode b_Mo_nameRows 60 = .ok (.aload_n 0, 1) := by decide +kernel
theorem d_Mo_nameRows_61 : decode b_Mo_nameRows 61 = .ok (.getfield 155, 3) := by decide +kernel
theorem d_Mo_nameRows_64 : decode b_Mo_nameRows 64 = .ok (.iload_n 3, 1) := by decide +kernel
theorem d_Mo_nameRows_65 : decode b_Mo_nameRows 65 = .ok (.iadd, 1) := by decide +kernel
theorem d_Mo_nameRows_66 : decode b_Mo_nameRows 66 = .ok (.iaload, 1) := by decide +kernel
theorem d_Mo_nameRows_67 : decode b_Mo_nameRows 67 = .ok (.iastore, 1) := by decide +kernel
theorem d_Mo_nameRows_68 : decode b_Mo_nameRows 68 = .ok (.iinc 3 1, 3) := by decide +kernel
theorem d_Mo_nameRows_71 : decode b_Mo_nameRows 71 = .ok (.goto (-36), 3) := by decide +kernel
theorem d_Mo_nameRows_74 : decode b_Mo_nameRows 74 = .ok (.aload_n 0, 1) := by decide +kernel
theorem d_Mo_nameRows_75 : decode b_Mo_nameRows 75 = .ok (.dup, 1) := by decide +kernel
theorem d_Mo_nameRows_76 : decode b_Mo_nameRows 76 = .ok (.getfield 155, 3) := by decide +kernel
theorem d_Mo_nameRows_79 : decode b_Mo_nameRows 79 = .ok (.aload_n 0, 1) := by decide +kernel
theorem d_Mo_nameRows_80 : decode b_Mo_nameRows 80 = .ok (.getfield 26, 3) := by decide +kernel
theorem d_Mo_nameRows_83 : decode b_Mo_nameRows 83 = .ok (.iload_n 1, 1) := by decide +kernel
theorem d_Mo_nameRows_84 : decode b_Mo_nameRows 84 = .ok (.iaload, 1) := by decide +kernel
theorem d_Mo_nameRows_85 : decode b_Mo_nameRows 85 = .ok (.iadd, 1) := by decide +kernel
theorem d_Mo_nameRows_86 : decode b_Mo_nameRows 86 = .ok (.putfield 155, 3) := by decide +kernel
theorem d_Mo_nameRows_89 : decode b_Mo_nameRows 89 = .ok (.iconst 0, 1) := by decide +kernel
theorem d_Mo_nameRows_90 : decode b_Mo_nameRows 90 = .ok (.istore_n 3, 1) := by decide +kernel
theorem d_Mo_nameRows_91 : decode b_Mo_nameRows 91 = .ok (.iload_n 3, 1) := by decide +kernel
theorem d_Mo_nameRows_92 : decode b_Mo_nameRows 92 = .ok (.aload_n 0, 1) := by decide +kernel
theorem d_Mo_nameRows_93 : decode b_Mo_nameRows 93 = .ok (.getfield 23, 3) := by decide +kernel
theorem d_Mo_nameRows_96 : decode b_Mo_nameRows 96 = .ok (.iload_n 1, 1) := by decide +kernel
theorem d_Mo_nameRows_97 : decode b_Mo_nameRows 97 = .ok (.iaload, 1) := by decide +kernel
theorem d_Mo_nameRows_98 : decode b_Mo_nameRows 98 = .ok (.if_icmp .ge 108, 3) := by decide +kernel
theorem d_Mo_nameRows_101 : decode b_Mo_nameRows 101 = .ok (.aload_n 0, 1) := by decide +kernel
theorem d_Mo_nameRows_102 : decode b_Mo_nameRows 102 = .ok (.iload_n 1, 1) := by decide +kernel
theorem d_Mo_nameRows_103 : decode b_Mo_nameRows 103 = .ok (.iload_n 3, 1) := by decide +kernel
theorem d_Mo_nameRows_104 : decode b_Mo_nameRows 104 = .ok (.invokevirtual 260, 3) := by decide +kernel
theorem d_Mo_nameRows_107 : decode b_Mo_nameRows 107 = .ok (.istore 4, 2) := by decide +kernel
theorem d_Mo_nameRows_109 : decode b_Mo_nameRows 109 = .ok (.iload 4, 2) := by decide +kernel
theorem d_Mo_nameRows_111 : decode b_Mo_nameRows 111 = .ok (.iconst 3, 1) := by decide +kernel
theorem d_Mo_nameRows_112 : decode b_Mo_nameRows 112 = .ok (.if_icmp .lt 14, 3) := by decide +kernel
theorem d_Mo_nameRows_115 : decode b_Mo_nameRows 115 = .ok (.iload 4, 2) := by decide +kernel
theorem d_Mo_nameRows_117 : decode b_Mo_nameRows 117 = .ok (.bipush 10, 2) := by decide +kernel
theorem d_Mo_nameRows_119 : decode b_Mo_nameRows 119 = .ok (.if_icmp .gt 7, 3) := by decide +kernel
theorem d_Mo_nameRows_122 : decode b_Mo_nameRows 122 = .ok (.iconst 1, 1) := by decide +kernel
theorem d_Mo_nameRows_123 : decode b_Mo_nameRows 123 = .ok (.goto 4, 3) := by decide +kernel
theorem d_Mo_nameRows_126 : decode b_Mo_nameRows 126 = .ok (.iconst 0, 1) := by decide +kernel
theorem d_Mo_nameRows_127 : decode b_Mo_nameRows 127 = .ok (.istore 5, 2) := by decide +kernel
theorem d_Mo_nameRows_129 : decode b_Mo_nameRows 129 = .ok (.iconst 0, 1) := by decide +kernel
theorem d_Mo_nameRows_130 : decode b_Mo_nameRows 130 = .ok (.istore 6, 2) := by decide +kernel
theorem d_Mo_nameRows_132 : decode b_Mo_nameRows 132 = .ok (.iload 6, 2) := by decide +kernel
theorem d_Mo_nameRows_134 : decode b_Mo_nameRows 134 = .ok (.iload 4, 2) := by decide +kernel
theorem d_Mo_nameRows_136 : decode b_Mo_nameRows 136 = .ok (.if_icmp .ge 44, 3) := by decide +kernel
theorem d_Mo_nameRows_139 : decode b_Mo_nameRows 139 = .ok (.iload 5, 2) := by decide +kernel
theorem d_Mo_nameRows_141 : decode b_Mo_nameRows 141 = .ok (.ifCond .eq 39, 3) := by decide +kernel
theorem d_Mo_nameRows_144 : decode b_Mo_nameRows 144 = .ok (.aload_n 0, 1) := by decide +kernel
theorem d_Mo_nameRows_145 : decode b_Mo_nameRows 145 = .ok (.getfield 57, 3) := by decide +kernel
theorem d_Mo_nameRows_148 : decode b_Mo_nameRows 148 = .ok (.sipush 200, 3) := by decide +kernel
theorem d_Mo_nameRows_151 : decode b_Mo_nameRows 151 = .ok (.iload_n 1, 1) := by decide +kernel
theorem d_Mo_nameRows_152 : decode b_Mo_nameRows 152 = .ok (.imul, 1) := by decide +kernel
theorem d_Mo_nameRows_153 : decode b_Mo_nameRows 153 = .ok (.aload_n 0, 1) := by decide +kernel
theorem d_Mo_nameRows_154 : decode b_Mo_nameRows 154 = .ok (.getfield 54, 3) := by decide +kernel
theorem d_Mo_nameRows_157 : decode b_Mo_nameRows 157 = .ok (.bipush 40, 2) := by decide +kernel
theorem d_Mo_nameRows_159 : decode b_Mo_nameRows 159 = .ok (.iload_n 1, 1) := by decide +kernel
theorem d_Mo_nameRows_160 : decode b_Mo_nameRows 160 = .ok (.imul, 1) := by decide +kernel
theorem d_Mo_nameRows_161 : decode b_Mo_nameRows 161 = .ok (.iload_n 3, 1) := by decide +kernel
theorem d_Mo_nameRows_162 : decode b_Mo_nameRows 162 = .ok (.iadd, 1) := by decide +kernel
theorem d_Mo_nameRows_163 : decode b_Mo_nameRows 163 = .ok (.iaload, 1) := by decide +kernel
theorem d_Mo_nameRows_164 : decode b_Mo_nameRows 164 = .ok (.iadd, 1) := by decide +kernel
theorem d_Mo_nameRows_165 : decode b_Mo_nameRows 165 = .ok (.iload 6, 2) := by decide +kernel
theorem d_Mo_nameRows_167 : decode b_Mo_nameRows 167 = .ok (.iadd, 1) := by decide +kernel
theorem d_Mo_nameRows_168 : decode b_Mo_nameRows 168 = .ok (.iaload, 1) := by decide +kernel
theorem d_Mo_nameRows_169 : decode b_Mo_nameRows 169 = .ok (.invokestatic 183, 3) := by decide +kernel
theorem d_Mo_nameRows_172 : decode b_Mo_nameRows 172 = .ok (.istore 5, 2) := by decide +kernel
theorem d_Mo_nameRows_174 : decode b_Mo_nameRows 174 = .ok (.iinc 6 1, 3) := by decide +kernel
theorem d_Mo_nameRows_177 : decode b_Mo_nameRows 177 = .ok (.goto (-45), 3) := by decide +kernel
theorem d_Mo_nameRows_180 : decode b_Mo_nameRows 180 = .ok (.iload 5, 2) := by decide +kernel
theorem d_Mo_nameRows_182 : decode b_Mo_nameRows 182 = .ok (.ifCond .ne 18, 3) := by decide +kernel
theorem d_Mo_nameRows_185 : decode b_Mo_nameRows 185 = .ok (.aload_n 0, 1) := by decide +kernel
theorem d_Mo_nameRows_186 : decode b_Mo_nameRows 186 = .ok (.bipush 10, 2) := by decide +kernel
theorem d_Mo_nameRows_188 : decode b_Mo_nameRows 188 = .ok (.iload_n 2, 1) := by decide +kernel
theorem d_Mo_nameRows_189 : decode b_Mo_nameRows 189 = .ok (.bipush 6, 2) := by decide +kernel
theorem d_Mo_nameRows_191 : decode b_Mo_nameRows 191 = .ok (.iload_n 3, 1) := by decide +kernel
theorem d_Mo_nameRows_192 : decode b_Mo_nameRows 192 = .ok (.imul, 1) := by decide +kernel
theorem d_Mo_nameRows_193 : decode b_Mo_nameRows 193 = .ok (.iadd, 1) := by decide +kernel
theorem d_Mo_nameRows_194 : decode b_Mo_nameRows 194 = .ok (.iconst 5, 1) := by decide +kernel
theorem d_Mo_nameRows_195 : decode b_Mo_nameRows 195 = .ok (.iadd, 1) := by decide +kernel
theorem d_Mo_nameRows_196 : decode b_Mo_nameRows 196 = .ok (.invokevirtual 217, 3) := by decide +kernel
theorem d_Mo_nameRows_199 : decode b_Mo_nameRows 199 = .ok (.ireturn, 1) := by decide +kernel
theorem d_Mo_nameRows_200 : decode b_Mo_nameRows 200 = .ok (.iinc 3 1, 3) := by decide +kernel
theorem d_Mo_nameRows_203 : decode b_Mo_nameRows 203 = .ok (.goto (-112), 3) := by decide +kernel
theorem d_Mo_nameRows_206 : decode b_Mo_nameRows 206 = .ok (.iconst 1, 1) := by decide +kernel
theorem d_Mo_nameRows_207 : decode b_Mo_nameRows 207 = .ok (.ireturn, 1) := by decide +kernel
abbrev b_Mo_isInstant : ByteArray := prog_14_method_41_code
def y_Mo_isInstant : MethodName := ⟨"ZoneFilesModel", "isInstant", "(J)Z"⟩
theorem d_Mo_isInstant_0 : decode b_Mo_isInstant 0 = .ok (.lload_n 0, 1) := by decide +kernel
theorem d_Mo_isInstant_1 : decode b_Mo_isInstant 1 = .ok (.ldc2_w 331, 3) := by decide +kernel
theorem d_Mo_isInstant_4 : decode b_Mo_isInstant 4 = .ok (.lcmp, 1) := by decide +kernel
theorem d_Mo_isInstant_5 : decode b_Mo_isInstant 5 = .ok (.ifCond .le 15, 3) := by decide +kernel
theorem d_Mo_isInstant_8 : decode b_Mo_isInstant 8 = .ok (.lload_n 0, 1) := by decide +kernel
theorem d_Mo_isInstant_9 : decode b_Mo_isInstant 9 = .ok (.ldc2_w 333, 3) := by decide +kernel
theorem d_Mo_isInstant_12 : decode b_Mo_isInstant 12 = .ok (.lcmp, 1) := by decide +kernel
theorem d_Mo_isInstant_13 : decode b_Mo_isInstant 13 = .ok (.ifCond .ge 7, 3) := by decide +kernel
theorem d_Mo_isInstant_16 : decode b_Mo_isInstant 16 = .ok (.iconst 1, 1) := by decide +kernel
theorem d_Mo_isInstant_17 : decode b_Mo_isInstant 17 = .ok (.goto 4, 3) := by decide +kernel
theorem d_Mo_isInstant_20 : decode b_Mo_isInstant 20 = .ok (.iconst 0, 1) := by decide +kernel
theorem d_Mo_isInstant_21 : decode b_Mo_isInstant 21 = .ok (.ireturn, 1) := by decide +kernel
-- ZoneFilesModel.addName(II)V
def f_Mo_addName_14 (nf : Nat) : Nat → Int32 → Int32 → Int32 → Int32 → (Nat → Int32) → (Nat → Int64) → (Nat → Nat → Int32) → (Nat → Nat → Int64) → Option ((Nat → Int32) × (Nat → Int64) × (Nat → Nat → Int32) × (Nat → Nat → Int64))
  | 0, _, _, _, _, _, _, _, _ => none
  | n + 1, x4, x3, x1, x2, si, sj, sa, sb =>
    if x3 ≤ x4 then
    if x1 < 0 ∨ 5 ≤ x1.toNatClampNeg then none else
      if (((200 * x1) + (sa 7 x1.toNatClampNeg)) + x3) < 0 ∨ 1000 ≤ (((200 * x1) + (sa 7 x1.toNatClampNeg)) + x3).toNatClampNeg then none else
      if x1 < 0 ∨ 5 ≤ x1.toNatClampNeg then none else
      if x1 < 0 ∨ 5 ≤ x1.toNatClampNeg then none else
      some (si, sj, va_up (va_up sa 17 (upd (sa 17) (((200 * x1) + (sa 7 x1.toNatClampNeg)) + x3).toNatClampNeg 0)) 7 (upd (sa 7) x1.toNatClampNeg ((sa 7 x1.toNatClampNeg) + (x3 + 1))), sb)
    else
    if x1 < 0 ∨ 5 ≤ x1.toNatClampNeg then none else
      if (((20 * x1) + (10 * x2)) + x4) < 0 ∨ 100 ≤ (((20 * x1) + (10 * x2)) + x4).toNatClampNeg then none else
      if (((200 * x1) + (sa 7 x1.toNatClampNeg)) + x4) < 0 ∨ 1000 ≤ (((200 * x1) + (sa 7 x1.toNatClampNeg)) + x4).toNatClampNeg then none else
      f_Mo_addName_14 nf n (x4 + 1) x3 x1 x2 si sj (va_up sa 17 (upd (sa 17) (((200 * x1) + (sa 7 x1.toNatClampNeg)) + x4).toNatClampNeg (sa 26 (((20 * x1) + (10 * x2)) + x4).toNatClampNeg))) sb
def f_Mo_addName_0 (nf : Nat) (x1 : Int32) (x2 : Int32) (si : Nat → Int32) (sj : Nat → Int64) (sa : Nat → Nat → Int32) (sb : Nat → Nat → Int64) : Option ((Nat → Int32) × (Nat → Int64) × (Nat → Nat → Int32) × (Nat → Nat → Int64)) :=
  if ((2 * x1) + x2) < 0 ∨ 10 ≤ ((2 * x1) + x2).toNatClampNeg then none else
  f_Mo_addName_14 nf nf 0 (sa 25 ((2 * x1) + x2).toNatClampNeg) x1 x2 si sj sa sb
def f_Mo_addName (nf : Nat) (p0 : Int32) (p1 : Int32) (si : Nat → Int32) (sj : Nat → Int64) (sa : Nat → Nat → Int32) (sb : Nat → Nat → Int64) : Option ((Nat → Int32) × (Nat → Int64) × (Nat → Nat → Int32) × (Nat → Nat → Int64)) :=
  f_Mo_addName_0 nf p0 p1 si sj sa sb
section
variable {p : Program} {l : Launch} {e : Env} {R : Room} {s : State} {m : MethodId} {args : Array Value} {below : List Frame} {meth : Method} {c : Code} {Q : State → Prop} {dC : Nat → ClassId} {dI : Nat → Nat → Nat} {nf : Nat} {A : Nat → Prop} {h0 : Nat} {r : Nat → Nat} {cA : Nat → ClassId}
variable {vi : Nat → Int32} {vj : Nat → Int64} {va : Nat → Nat → Int32} {vb : Nat → Nat → Int64}
set_option maxHeartbeats 400000 in
set_option maxRecDepth 100000 in
theorem k_Mo_addName_14 (C0 : Cx p s m meth c args R b_Mo_addName "ZoneFilesModel" 5 none 0 0) (hST : ST A s s.heap) (hA : ∀ q, s.heap.size ≤ q → A q) (hK : va_K (dC, dI) classes (moT cA) s) (hE : ∀ (pc : Nat) (ls : Array Slot) (H : Heap) (locs : List Loc), decode b_Mo_addName pc = .ok (.return_, 1) → va_P (dC, dI) classes (moW h0 r cA vi vj va vb) H → va_D A (moW h0 r cA vi vj va vb) → va_S A s.heap H locs → W p l e R s m args below meth c H locs 0 0 Q (F0 m pc ls [])) : ∀ (n : Nat) {x4 : Int32} {x3 : Int32} {x1 : Int32} {x2 : Int32} {si : Nat → Int32} {sj : Nat → Int64} {sa : Nat → Nat → Int32} {sb : Nat → Nat → Int64}, f_Mo_addName_14 nf n x4 x3 x1 x2 si sj sa sb = some (vi, vj, va, vb) → ∀ {H : Heap} {locs : List Loc} {ls : Array Slot}, va_P (dC, dI) classes (moW h0 r cA si sj sa sb) H → va_D A (moW h0 r cA si sj sa sb) → va_S A s.heap H locs → lv_has ls 5 [(4, .int x4), (3, .int x3), (0, .ref h0), (1, .int x1), (2, .int x2)] → W p l e R s m args below meth c H locs 0 0 Q (F0 m 14 ls []) := by
  obtain ⟨hx, hb, hr, hml, hown, hts, hlocks, hRf, hRl⟩ := id C0
  intro n
  induction n with
  | zero =>
    intro x4 x3 x1 x2 si sj sa sb hf
    exact absurd hf (by simp [f_Mo_addName_14])
  | succ n ih =>
    intro x4 x3 x1 x2 si sj sa sb hf H locs ls hP hD hS hl
    unfold f_Mo_addName_14 at hf
    refine lv_iload hx hb d_Mo_addName_14 (lv_at hl 0 rfl) ?_
    refine lv_iload_n hx hb d_Mo_addName_16 rfl (lv_at hl 1 rfl) ?_
    refine lv_icmp_ge (tgt := 63) hx hb d_Mo_addName_17 (by decide) (fun c_2 => ?_) (fun c_2 => ?_)
    · have hf := it_t c_2 hf
      refine lv_aload_n hx hb d_Mo_addName_63 rfl (lv_at hl 2 rfl) ?_
      refine mg_17 hx hb hts hown hK hP d_Mo_addName_64 ?_
      refine lv_sipush (v := 200) hx hb d_Mo_addName_67 (by decide) ?_
      refine lv_iload_n hx hb d_Mo_addName_70 rfl (lv_at hl 3 rfl) ?_
      refine lv_imul hx hb d_Mo_addName_71 ?_
      refine lv_aload_n hx hb d_Mo_addName_72 rfl (lv_at hl 2 rfl) ?_
      refine mg_7 hx hb hts hown hK hP d_Mo_addName_73 ?_
      refine lv_iload_n hx hb d_Mo_addName_76 rfl (lv_at hl 3 rfl) ?_
      obtain ⟨c_3, hf⟩ := it_n hf
      refine ma_7 (v := sa 7 x1.toNatClampNeg) hx hb hK hP c_3 rfl d_Mo_addName_77 ?_
      refine lv_iadd hx hb d_Mo_addName_78 ?_
      refine lv_iload_n hx hb d_Mo_addName_79 rfl (lv_at hl 1 rfl) ?_
      refine lv_iadd hx hb d_Mo_addName_80 ?_
      refine lv_iconst (v := 0) hx hb d_Mo_addName_81 (by decide) ?_
      obtain ⟨c_4, hf⟩ := it_n hf
      refine mz_17 hx hb hK hP hD hS c_4 d_Mo_addName_82 (fun H locs hP hD hS => ?_)
      refine lv_aload_n hx hb d_Mo_addName_83 rfl (lv_at hl 2 rfl) ?_
      refine mg_7 hx hb hts hown hK hP d_Mo_addName_84 ?_
      refine lv_iload_n hx hb d_Mo_addName_87 rfl (lv_at hl 3 rfl) ?_
      refine lv_dup2_11 hx hb d_Mo_addName_88 rfl rfl ?_
      obtain ⟨c_5, hf⟩ := it_n hf
      refine ma_7 (v := sa 7 x1.toNatClampNeg) hx hb hK hP c_5 rfl d_Mo_addName_89 ?_
      refine lv_iload_n hx hb d_Mo_addName_90 rfl (lv_at hl 1 rfl) ?_
      refine lv_iconst (v := 1) hx hb d_Mo_addName_91 (by decide) ?_
      refine lv_iadd hx hb d_Mo_addName_92 ?_
      refine lv_iadd hx hb d_Mo_addName_93 ?_
      obtain ⟨c_6, hf⟩ := it_n hf
      refine mz_7 hx hb hK hP hD hS c_6 d_Mo_addName_94 (fun H locs hP hD hS => ?_)
      cases rs hf
      exact hE _ _ _ _ d_Mo_addName_95 hP hD hS
    · have hf := it_f c_2 hf
      refine lv_aload_n hx hb d_Mo_addName_20 rfl (lv_at hl 2 rfl) ?_
      refine mg_17 hx hb hts hown hK hP d_Mo_addName_21 ?_
      refine lv_sipush (v := 200) hx hb d_Mo_addName_24 (by decide) ?_
      refine lv_iload_n hx hb d_Mo_addName_27 rfl (lv_at hl 3 rfl) ?_
      refine lv_imul hx hb d_Mo_addName_28 ?_
      refine lv_aload_n hx hb d_Mo_addName_29 rfl (lv_at hl 2 rfl) ?_
      refine mg_7 hx hb hts hown hK hP d_Mo_addName_30 ?_
      refine lv_iload_n hx hb d_Mo_addName_33 rfl (lv_at hl 3 rfl) ?_
      obtain ⟨c_7, hf⟩ := it_n hf
      refine ma_7 (v := sa 7 x1.toNatClampNeg) hx hb hK hP c_7 rfl d_Mo_addName_34 ?_
      refine lv_iadd hx hb d_Mo_addName_35 ?_
      refine lv_iload hx hb d_Mo_addName_36 (lv_at hl 0 rfl) ?_
      refine lv_iadd hx hb d_Mo_addName_38 ?_
      refine lv_aload_n hx hb d_Mo_addName_39 rfl (lv_at hl 2 rfl) ?_
      refine mg_26 hx hb hts hown hK hP d_Mo_addName_40 ?_
      refine lv_bipush (v := 20) hx hb d_Mo_addName_43 (by decide) ?_
      refine lv_iload_n hx hb d_Mo_addName_45 rfl (lv_at hl 3 rfl) ?_
      refine lv_imul hx hb d_Mo_addName_46 ?_
      refine lv_bipush (v := 10) hx hb d_Mo_addName_47 (by decide) ?_
      refine lv_iload_n hx hb d_Mo_addName_49 rfl (lv_at hl 4 rfl) ?_
      refine lv_imul hx hb d_Mo_addName_50 ?_
      refine lv_iadd hx hb d_Mo_addName_51 ?_
      refine lv_iload hx hb d_Mo_addName_52 (lv_at hl 0 rfl) ?_
      refine lv_iadd hx hb d_Mo_addName_54 ?_
      obtain ⟨c_8, hf⟩ := it_n hf
      refine ma_26 (v := sa 26 (((20 * x1) + (10 * x2)) + x4).toNatClampNeg) hx hb hK hP c_8 rfl d_Mo_addName_55 ?_
      obtain ⟨c_9, hf⟩ := it_n hf
      refine mz_17 hx hb hK hP hD hS c_9 d_Mo_addName_56 (fun H locs hP hD hS => ?_)
      refine lv_iinc (v := x4 + 1) (lv' := [(4, .int (x4 + 1)), (3, .int x3), (0, .ref h0), (1, .int x1), (2, .int x2)]) hx hb d_Mo_addName_57 hl (k := 0) rfl rfl (by decide) rfl (fun ls hl => ?_)
      refine lv_goto (tgt := 14) hx hb d_Mo_addName_60 (by decide) ?_
      exact ih hf hP hD hS (lv_sub hl [0, 1, 2, 3, 4] rfl)
set_option maxHeartbeats 400000 in
set_option maxRecDepth 100000 in
theorem k_Mo_addName_0 (C0 : Cx p s m meth c args R b_Mo_addName "ZoneFilesModel" 5 none 0 0) (hST : ST A s s.heap) (hA : ∀ q, s.heap.size ≤ q → A q) (hK : va_K (dC, dI) classes (moT cA) s) (hE : ∀ (pc : Nat) (ls : Array Slot) (H : Heap) (locs : List Loc), decode b_Mo_addName pc = .ok (.return_, 1) → va_P (dC, dI) classes (moW h0 r cA vi vj va vb) H → va_D A (moW h0 r cA vi vj va vb) → va_S A s.heap H locs → W p l e R s m args below meth c H locs 0 0 Q (F0 m pc ls [])) {x1 : Int32} {x2 : Int32} {si : Nat → Int32} {sj : Nat → Int64} {sa : Nat → Nat → Int32} {sb : Nat → Nat → Int64} (hf : f_Mo_addName_0 nf x1 x2 si sj sa sb = some (vi, vj, va, vb)) {H : Heap} {locs : List Loc} {ls : Array Slot} (hP : va_P (dC, dI) classes (moW h0 r cA si sj sa sb) H) (hD : va_D A (moW h0 r cA si sj sa sb)) (hS : va_S A s.heap H locs) (hl : lv_has ls 5 [(0, .ref h0), (1, .int x1), (2, .int x2)]) : W p l e R s m args below meth c H locs 0 0 Q (F0 m 0 ls []) := by
  obtain ⟨hx, hb, hr, hml, hown, hts, hlocks, hRf, hRl⟩ := id C0
  unfold f_Mo_addName_0 at hf
  refine lv_aload_n hx hb d_Mo_addName_0 rfl (lv_at hl 0 rfl) ?_
  refine mg_25 hx hb hts hown hK hP d_Mo_addName_1 ?_
  refine lv_iconst (v := 2) hx hb d_Mo_addName_4 (by decide) ?_
  refine lv_iload_n hx hb d_Mo_addName_5 rfl (lv_at hl 1 rfl) ?_
  refine lv_imul hx hb d_Mo_addName_6 ?_
  refine lv_iload_n hx hb d_Mo_addName_7 rfl (lv_at hl 2 rfl) ?_
  refine lv_iadd hx hb d_Mo_addName_8 ?_
  obtain ⟨c_1, hf⟩ := it_n hf
  refine ma_25 (v := sa 25 ((2 * x1) + x2).toNatClampNeg) hx hb hK hP c_1 rfl d_Mo_addName_9 ?_
  refine lv_istore_n (lv' := [(3, .int (sa 25 ((2 * x1) + x2).toNatClampNeg)), (0, .ref h0), (1, .int x1), (2, .int x2)]) hx hb d_Mo_addName_10 rfl hl (by decide) rfl (fun ls hl => ?_)
  refine lv_iconst (v := 0) hx hb d_Mo_addName_11 (by decide) ?_
  refine lv_istore (lv' := [(4, .int 0), (3, .int (sa 25 ((2 * x1) + x2).toNatClampNeg)), (0, .ref h0), (1, .int x1), (2, .int x2)]) hx hb d_Mo_addName_12 hl (by decide) rfl (fun ls hl => ?_)
  exact k_Mo_addName_14 C0 hST hA hK hE nf hf hP hD hS (lv_sub hl [0, 1, 2, 3, 4] rfl)
end
set_option maxHeartbeats 400000 in
set_option maxRecDepth 100000 in
theorem c_Mo_addName (l : Launch) (dC : Nat → ClassId) (dI : Nat → Nat → Nat) (h0 : Nat) (r : Nat → Nat) (cA : Nat → ClassId) (sz : Nat) (nf : Nat) (p0 : Int32) (p1 : Int32) (si : Nat → Int32) (sj : Nat → Int64) (sa : Nat → Nat → Int32) (sb : Nat → Nat → Int64) {vi : Nat → Int32} {vj : Nat → Int64} {va : Nat → Nat → Int32} {vb : Nat → Nat → Int64} (hf : f_Mo_addName nf p0 p1 si sj sa sb = some (vi, vj, va, vb)) : Met l y_Mo_addName (wd y_Mo_addName b_Mo_addName 5 none) ({ frames := 0, cells := 0, slots := 0, locals := 0 }) (MU dC dI (moW h0 r cA si sj sa sb) (moT cA) sz [.ref h0, .int p0, .int p1]) (MV none (fun t => va_P (dC, dI) classes (moW h0 r cA vi vj va vb) t.heap) (va_A (moW h0 r cA si sj sa sb) sz)) 0 0 (va_A (moW h0 r cA si sj sa sb) sz) :=
  met_M (plainFor_of_name (by decide)) (Nat.le_of_ble_eq_true rfl) (fun p e R s m args below meth c ls hRc hRs hsz hin C0 hST hK hP hD hl => by
    obtain ⟨hx, hb, hr, hml, hown, hts, hlocks, hRf, hRl⟩ := id C0
    subst hsz
    have hA : ∀ q : Nat, s.heap.size ≤ q → va_A (moW h0 r cA si sj sa sb) s.heap.size q := fun q h => Or.inr h
    have hS : va_S (va_A (moW h0 r cA si sj sa sb) s.heap.size) s.heap s.heap [] := va_S.rf
    unfold f_Mo_addName at hf
    exact k_Mo_addName_0 C0 hST hA hK (fun pc ls H locs hd hP hD hS => W.vret hx hb hr (fun t ht hW => ⟨⟨rfl, mo_end ht hP⟩, hS.F ht⟩) hS.2.2 hd) hf hP hD hS (lv_sub hl [0, 1, 2] rfl))
-- ZoneFilesModel.takeRule(III)V
def f_Mo_takeRule_167 (nf : Nat) : Nat → Int32 → Int32 → Int32 → Int32 → (Nat → Int32) → (Nat → Int64) → (Nat → Nat → Int32) → (Nat → Nat → Int64) → Option ((Nat → Int32) × (Nat → Int64) × (Nat → Nat → Int32) × (Nat → Nat → Int64))
  | 0, _, _, _, _, _, _, _, _ => none
  | n + 1, x5, x4, x2, x3, si, sj, sa, sb =>
    if x3 ≤ x5 then
    some (si, sj, sa, sb)
    else
    if x5 < 0 ∨ 6000 ≤ x5.toNatClampNeg then none else
      if (((128 * x4) + x5) - x2) < 0 ∨ 640 ≤ (((128 * x4) + x5) - x2).toNatClampNeg then none else
      f_Mo_takeRule_167 nf n (x5 + 1) x4 x2 x3 si sj (va_up sa 22 (upd (sa 22) (((128 * x4) + x5) - x2).toNatClampNeg (sa 0 x5.toNatClampNeg))) sb
def f_Mo_takeRule_68 (nf : Nat) : Nat → Int32 → Int32 → Int32 → Int32 → (Nat → Int32) → (Nat → Int64) → (Nat → Nat → Int32) → (Nat → Nat → Int64) → Option ((Nat → Int32) × (Nat → Int64) × (Nat → Nat → Int32) × (Nat → Nat → Int64))
  | 0, _, _, _, _, _, _, _, _ => none
  | n + 1, x5, x4, x2, x3, si, sj, sa, sb =>
    if x4 < 0 ∨ 5 ≤ x4.toNatClampNeg then none else
    if (sa 23 x4.toNatClampNeg) ≤ x5 then
    if x4 < 0 ∨ 5 ≤ x4.toNatClampNeg then none else
      f_Mo_takeRule_167 nf nf x2 x4 x2 x3 si sj (va_up sa 11 (upd (sa 11) x4.toNatClampNeg (x3 - x2))) sb
    else
    if ((2 * x4) + x5) < 0 ∨ 10 ≤ ((2 * x4) + x5).toNatClampNeg then none else
      if ((40 * x4) + x5) < 0 ∨ 200 ≤ ((40 * x4) + x5).toNatClampNeg then none else
      if ((40 * x4) + x5) < 0 ∨ 200 ≤ ((40 * x4) + x5).toNatClampNeg then none else
      if x4 < 0 ∨ 5 ≤ x4.toNatClampNeg then none else
      if ((40 * x4) + x5) < 0 ∨ 200 ≤ ((40 * x4) + x5).toNatClampNeg then none else
      (f_Mo_addName nf x4 x5 si sj (va_up (va_up (va_up sa 14 (upd (sa 14) ((40 * x4) + x5).toNatClampNeg (sa 24 ((2 * x4) + x5).toNatClampNeg))) 15 (upd (sa 15) ((40 * x4) + x5).toNatClampNeg x5)) 16 (upd (sa 16) ((40 * x4) + x5).toNatClampNeg (sa 7 x4.toNatClampNeg))) sb).bind fun (i_20, j_21, a_22, b_23) =>
      f_Mo_takeRule_68 nf n (x5 + 1) x4 x2 x3 i_20 j_21 a_22 b_23
def f_Mo_takeRule_0 (nf : Nat) (x1 : Int32) (x2 : Int32) (x3 : Int32) (si : Nat → Int32) (sj : Nat → Int64) (sa : Nat → Nat → Int32) (sb : Nat → Nat → Int64) : Option ((Nat → Int32) × (Nat → Int64) × (Nat → Nat → Int32) × (Nat → Nat → Int64)) :=
  if (4 : Int32) < 0 ∨ 5 ≤ (4 : Int32).toNatClampNeg then none else
  if (4 : Int32) < 0 ∨ 5 ≤ (4 : Int32).toNatClampNeg then none else
  if (4 : Int32) < 0 ∨ 5 ≤ (4 : Int32).toNatClampNeg then none else
  if (4 : Int32) < 0 ∨ 5 ≤ (4 : Int32).toNatClampNeg then none else
  if (4 : Int32) < 0 ∨ 5 ≤ (4 : Int32).toNatClampNeg then none else
  if (4 : Int32) < 0 ∨ 5 ≤ (4 : Int32).toNatClampNeg then none else
  if (4 : Int32) < 0 ∨ 5 ≤ (4 : Int32).toNatClampNeg then none else
  if (4 : Int32) < 0 ∨ 5 ≤ (4 : Int32).toNatClampNeg then none else
  f_Mo_takeRule_68 nf nf 0 4 x2 x3 si sj (va_up (va_up (va_up (va_up (va_up (va_up (va_up sa 4 (upd (sa 4) (4 : Int32).toNatClampNeg x1)) 5 (upd (sa 5) (4 : Int32).toNatClampNeg 0)) 6 (upd (sa 6) (4 : Int32).toNatClampNeg (sa 23 (4 : Int32).toNatClampNeg))) 8 (upd (sa 8) (4 : Int32).toNatClampNeg 0)) 9 (upd (sa 9) (4 : Int32).toNatClampNeg 0)) 10 (upd (sa 10) (4 : Int32).toNatClampNeg 0)) 7 (upd (sa 7) (4 : Int32).toNatClampNeg 0)) sb
def f_Mo_takeRule (nf : Nat) (p0 : Int32) (p1 : Int32) (p2 : Int32) (si : Nat → Int32) (sj : Nat → Int64) (sa : Nat → Nat → Int32) (sb : Nat → Nat → Int64) : Option ((Nat → Int32) × (Nat → Int64) × (Nat → Nat → Int32) × (Nat → Nat → Int64)) :=
  f_Mo_takeRule_0 nf p0 p1 p2 si sj sa sb
section
variable {p : Program} {l : Launch} {e : Env} {R : Room} {s : State} {m : MethodId} {args : Array Value} {below : List Frame} {meth : Method} {c : Code} {Q : State → Prop} {dC : Nat → ClassId} {dI : Nat → Nat → Nat} {nf : Nat} {A : Nat → Prop} {h0 : Nat} {r : Nat → Nat} {cA : Nat → ClassId}
variable {vi : Nat → Int32} {vj : Nat → Int64} {va : Nat → Nat → Int32} {vb : Nat → Nat → Int64}
set_option maxHeartbeats 400000 in
set_option maxRecDepth 100000 in
theorem k_Mo_takeRule_167 (C0 : Cx p s m meth c args R b_Mo_takeRule "ZoneFilesModel" 6 none 1 24) (hST : ST A s s.heap) (hA : ∀ q, s.heap.size ≤ q → A q) (hK : va_K (dC, dI) classes (moT cA) s) (hE : ∀ (pc : Nat) (ls : Array Slot) (H : Heap) (locs : List Loc), decode b_Mo_takeRule pc = .ok (.return_, 1) → va_P (dC, dI) classes (moW h0 r cA vi vj va vb) H → va_D A (moW h0 r cA vi vj va vb) → va_S A s.heap H locs → W p l e R s m args below meth c H locs 0 0 Q (F0 m pc ls [])) : ∀ (n : Nat) {x5 : Int32} {x4 : Int32} {x2 : Int32} {x3 : Int32} {si : Nat → Int32} {sj : Nat → Int64} {sa : Nat → Nat → Int32} {sb : Nat → Nat → Int64}, f_Mo_takeRule_167 nf n x5 x4 x2 x3 si sj sa sb = some (vi, vj, va, vb) → ∀ {H : Heap} {locs : List Loc} {ls : Array Slot}, va_P (dC, dI) classes (moW h0 r cA si sj sa sb) H → va_D A (moW h0 r cA si sj sa sb) → va_S A s.heap H locs → lv_has ls 6 [(5, .int x5), (4, .int x4), (0, .ref h0), (2, .int x2), (3, .int x3)] → W p l e R s m args below meth c H locs 0 0 Q (F0 m 167 ls []) := by
  obtain ⟨hx, hb, hr, hml, hown, hts, hlocks, hRf, hRl⟩ := id C0
  intro n
  induction n with
  | zero =>
    intro x5 x4 x2 x3 si sj sa sb hf
    exact absurd hf (by simp [f_Mo_takeRule_167])
  | succ n ih =>
    intro x5 x4 x2 x3 si sj sa sb hf H locs ls hP hD hS hl
    unfold f_Mo_takeRule_167 at hf
    refine lv_iload hx hb d_Mo_takeRule_167 (lv_at hl 0 rfl) ?_
    refine lv_iload_n hx hb d_Mo_takeRule_169 rfl (lv_at hl 4 rfl) ?_
    refine lv_icmp_ge (tgt := 202) hx hb d_Mo_takeRule_170 (by decide) (fun c_12 => ?_) (fun c_12 => ?_)
    · have hf := it_t c_12 hf
      cases rs hf
      exact hE _ _ _ _ d_Mo_takeRule_202 hP hD hS
    · have hf := it_f c_12 hf
      refine lv_aload_n hx hb d_Mo_takeRule_173 rfl (lv_at hl 2 rfl) ?_
      refine mg_22 hx hb hts hown hK hP d_Mo_takeRule_174 ?_
      refine lv_sipush (v := 128) hx hb d_Mo_takeRule_177 (by decide) ?_
      refine lv_iload hx hb d_Mo_takeRule_180 (lv_at hl 1 rfl) ?_
      refine lv_imul hx hb d_Mo_takeRule_182 ?_
      refine lv_iload hx hb d_Mo_takeRule_183 (lv_at hl 0 rfl) ?_
      refine lv_iadd hx hb d_Mo_takeRule_185 ?_
      refine lv_iload_n hx hb d_Mo_takeRule_186 rfl (lv_at hl 3 rfl) ?_
      refine lv_isub hx hb d_Mo_takeRule_187 ?_
      refine lv_aload_n hx hb d_Mo_takeRule_188 rfl (lv_at hl 2 rfl) ?_
      refine mg_0 hx hb hts hown hK hP d_Mo_takeRule_189 ?_
      refine lv_iload hx hb d_Mo_takeRule_192 (lv_at hl 0 rfl) ?_
      obtain ⟨c_13, hf⟩ := it_n hf
      refine ma_0 (v := sa 0 x5.toNatClampNeg) hx hb hK hP c_13 rfl d_Mo_takeRule_194 ?_
      obtain ⟨c_14, hf⟩ := it_n hf
      refine mz_22 hx hb hK hP hD hS c_14 d_Mo_takeRule_195 (fun H locs hP hD hS => ?_)
      refine lv_iinc (v := x5 + 1) (lv' := [(5, .int (x5 + 1)), (4, .int x4), (0, .ref h0), (2, .int x2), (3, .int x3)]) hx hb d_Mo_takeRule_196 hl (k := 0) rfl rfl (by decide) rfl (fun ls hl => ?_)
      refine lv_goto (tgt := 167) hx hb d_Mo_takeRule_199 (by decide) ?_
      exact ih hf hP hD hS (lv_sub hl [0, 1, 2, 3, 4] rfl)
set_option maxHeartbeats 400000 in
set_option maxRecDepth 100000 in
theorem k_Mo_takeRule_68 (C0 : Cx p s m meth c args R b_Mo_takeRule "ZoneFilesModel" 6 none 1 24) (hST : ST A s s.heap) (hA : ∀ q, s.heap.size ≤ q → A q) (hK : va_K (dC, dI) classes (moT cA) s) (hE : ∀ (pc : Nat) (ls : Array Slot) (H : Heap) (locs : List Loc), decode b_Mo_takeRule pc = .ok (.return_, 1) → va_P (dC, dI) classes (moW h0 r cA vi vj va vb) H → va_D A (moW h0 r cA vi vj va vb) → va_S A s.heap H locs → W p l e R s m args below meth c H locs 0 0 Q (F0 m pc ls [])) : ∀ (n : Nat) {x5 : Int32} {x4 : Int32} {x2 : Int32} {x3 : Int32} {si : Nat → Int32} {sj : Nat → Int64} {sa : Nat → Nat → Int32} {sb : Nat → Nat → Int64}, f_Mo_takeRule_68 nf n x5 x4 x2 x3 si sj sa sb = some (vi, vj, va, vb) → ∀ {H : Heap} {locs : List Loc} {ls : Array Slot}, va_P (dC, dI) classes (moW h0 r cA si sj sa sb) H → va_D A (moW h0 r cA si sj sa sb) → va_S A s.heap H locs → lv_has ls 6 [(5, .int x5), (4, .int x4), (0, .ref h0), (2, .int x2), (3, .int x3)] → W p l e R s m args below meth c H locs 0 0 Q (F0 m 68 ls []) := by
  obtain ⟨hx, hb, hr, hml, hown, hts, hlocks, hRf, hRl⟩ := id C0
  intro n
  induction n with
  | zero =>
    intro x5 x4 x2 x3 si sj sa sb hf
    exact absurd hf (by simp [f_Mo_takeRule_68])
  | succ n ih =>
    intro x5 x4 x2 x3 si sj sa sb hf H locs ls hP hD hS hl
    unfold f_Mo_takeRule_68 at hf
    refine lv_iload hx hb d_Mo_takeRule_68 (lv_at hl 0 rfl) ?_
    refine lv_aload_n hx hb d_Mo_takeRule_70 rfl (lv_at hl 2 rfl) ?_
    refine mg_23 hx hb hts hown hK hP d_Mo_takeRule_71 ?_
    refine lv_iload hx hb d_Mo_takeRule_74 (lv_at hl 1 rfl) ?_
    obtain ⟨c_9, hf⟩ := it_n hf
    refine ma_23 (v := sa 23 x4.toNatClampNeg) hx hb hK hP c_9 rfl d_Mo_takeRule_76 ?_
    refine lv_icmp_ge (tgt := 154) hx hb d_Mo_takeRule_77 (by decide) (fun c_10 => ?_) (fun c_10 => ?_)
    · have hf := it_t c_10 hf
      refine lv_aload_n hx hb d_Mo_takeRule_154 rfl (lv_at hl 2 rfl) ?_
      refine mg_11 hx hb hts hown hK hP d_Mo_takeRule_155 ?_
      refine lv_iload hx hb d_Mo_takeRule_158 (lv_at hl 1 rfl) ?_
      refine lv_iload_n hx hb d_Mo_takeRule_160 rfl (lv_at hl 4 rfl) ?_
      refine lv_iload_n hx hb d_Mo_takeRule_161 rfl (lv_at hl 3 rfl) ?_
      refine lv_isub hx hb d_Mo_takeRule_162 ?_
      obtain ⟨c_11, hf⟩ := it_n hf
      refine mz_11 hx hb hK hP hD hS c_11 d_Mo_takeRule_163 (fun H locs hP hD hS => ?_)
      refine lv_iload_n hx hb d_Mo_takeRule_164 rfl (lv_at hl 3 rfl) ?_
      refine lv_istore (lv' := [(5, .int x2), (4, .int x4), (0, .ref h0), (2, .int x2), (3, .int x3)]) hx hb d_Mo_takeRule_165 hl (by decide) rfl (fun ls hl => ?_)
      exact k_Mo_takeRule_167 C0 hST hA hK hE nf hf hP hD hS (lv_sub hl [0, 1, 2, 3, 4] rfl)
    · have hf := it_f c_10 hf
      refine lv_aload_n hx hb d_Mo_takeRule_80 rfl (lv_at hl 2 rfl) ?_
      refine mg_14 hx hb hts hown hK hP d_Mo_takeRule_81 ?_
      refine lv_bipush (v := 40) hx hb d_Mo_takeRule_84 (by decide) ?_
      refine lv_iload hx hb d_Mo_takeRule_86 (lv_at hl 1 rfl) ?_
      refine lv_imul hx hb d_Mo_takeRule_88 ?_
      refine lv_iload hx hb d_Mo_takeRule_89 (lv_at hl 0 rfl) ?_
      refine lv_iadd hx hb d_Mo_takeRule_91 ?_
      refine lv_aload_n hx hb d_Mo_takeRule_92 rfl (lv_at hl 2 rfl) ?_
      refine mg_24 hx hb hts hown hK hP d_Mo_takeRule_93 ?_
      refine lv_iconst (v := 2) hx hb d_Mo_takeRule_96 (by decide) ?_
      refine lv_iload hx hb d_Mo_takeRule_97 (lv_at hl 1 rfl) ?_
      refine lv_imul hx hb d_Mo_takeRule_99 ?_
      refine lv_iload hx hb d_Mo_takeRule_100 (lv_at hl 0 rfl) ?_
      refine lv_iadd hx hb d_Mo_takeRule_102 ?_
      obtain ⟨c_15, hf⟩ := it_n hf
      refine ma_24 (v := sa 24 ((2 * x4) + x5).toNatClampNeg) hx hb hK hP c_15 rfl d_Mo_takeRule_103 ?_
      obtain ⟨c_16, hf⟩ := it_n hf
      refine mz_14 hx hb hK hP hD hS c_16 d_Mo_takeRule_104 (fun H locs hP hD hS => ?_)
      refine lv_aload_n hx hb d_Mo_takeRule_105 rfl (lv_at hl 2 rfl) ?_
      refine mg_15 hx hb hts hown hK hP d_Mo_takeRule_106 ?_
      refine lv_bipush (v := 40) hx hb d_Mo_takeRule_109 (by decide) ?_
      refine lv_iload hx hb d_Mo_takeRule_111 (lv_at hl 1 rfl) ?_
      refine lv_imul hx hb d_Mo_takeRule_113 ?_
      refine lv_iload hx hb d_Mo_takeRule_114 (lv_at hl 0 rfl) ?_
      refine lv_iadd hx hb d_Mo_takeRule_116 ?_
      refine lv_iload hx hb d_Mo_takeRule_117 (lv_at hl 0 rfl) ?_
      obtain ⟨c_17, hf⟩ := it_n hf
      refine mz_15 hx hb hK hP hD hS c_17 d_Mo_takeRule_119 (fun H locs hP hD hS => ?_)
      refine lv_aload_n hx hb d_Mo_takeRule_120 rfl (lv_at hl 2 rfl) ?_
      refine mg_16 hx hb hts hown hK hP d_Mo_takeRule_121 ?_
      refine lv_bipush (v := 40) hx hb d_Mo_takeRule_124 (by decide) ?_
      refine lv_iload hx hb d_Mo_takeRule_126 (lv_at hl 1 rfl) ?_
      refine lv_imul hx hb d_Mo_takeRule_128 ?_
      refine lv_iload hx hb d_Mo_takeRule_129 (lv_at hl 0 rfl) ?_
      refine lv_iadd hx hb d_Mo_takeRule_131 ?_
      refine lv_aload_n hx hb d_Mo_takeRule_132 rfl (lv_at hl 2 rfl) ?_
      refine mg_7 hx hb hts hown hK hP d_Mo_takeRule_133 ?_
      refine lv_iload hx hb d_Mo_takeRule_136 (lv_at hl 1 rfl) ?_
      obtain ⟨c_18, hf⟩ := it_n hf
      refine ma_7 (v := sa 7 x4.toNatClampNeg) hx hb hK hP c_18 rfl d_Mo_takeRule_138 ?_
      obtain ⟨c_19, hf⟩ := it_n hf
      refine mz_16 hx hb hK hP hD hS c_19 d_Mo_takeRule_139 (fun H locs hP hD hS => ?_)
      refine lv_aload_n hx hb d_Mo_takeRule_140 rfl (lv_at hl 2 rfl) ?_
      refine lv_iload hx hb d_Mo_takeRule_141 (lv_at hl 1 rfl) ?_
      refine lv_iload hx hb d_Mo_takeRule_143 (lv_at hl 0 rfl) ?_
      obtain ⟨⟨i_20, j_21, a_22, b_23⟩, hc, hf⟩ := ob hf
      have hFc := mo_free hD hS hA
      refine cl_M (v := none) (st1 := []) (va_runV (As := [.int x4, .int x5]) (rest := []) ⟨hx, hb, hml, hown, hts⟩ (c_Mo_addName l dC dI h0 r cA H.size nf x4 x5 si sj (va_up (va_up (va_up sa 14 (upd (sa 14) ((40 * x4) + x5).toNatClampNeg (sa 24 ((2 * x4) + x5).toNatClampNeg))) 15 (upd (sa 15) ((40 * x4) + x5).toNatClampNeg x5)) 16 (upd (sa 16) ((40 * x4) + x5).toNatClampNeg (sa 7 x4.toNatClampNeg))) sb hc) (cwV 2 hts (gdV m_6_120 m_6_122 msel_56 m_1_10 m_6_123) rfl rfl rfl (by decide +kernel) ⟨Nat.le_trans (Nat.le_of_ble_eq_true rfl) hRf, Nat.le_trans (Nat.le_of_ble_eq_true rfl) hRl⟩) ((MU.pre hP hK hD (hST.mu hS hFc)).vir (va_recv hK hP (ci := 10) (q0 := 0) rfl rfl)) rfl rfl hl.1 rfl (lv_room (Nat.le_of_ble_eq_true rfl)) d_Mo_takeRule_145 ⟨Nat.zero_le _, Nat.zero_le _⟩) rfl hS (fun q _ h => hFc q h) hFc (fun t H1 locs ht hvm hB hz1 hk1 hS => ?_)
      obtain ⟨hP, hD⟩ := mo_back ht hD hB
      generalize H1 = H at hP hS ⊢
      refine lv_iinc (v := x5 + 1) (lv' := [(5, .int (x5 + 1)), (4, .int x4), (0, .ref h0), (2, .int x2), (3, .int x3)]) hx hb d_Mo_takeRule_148 hl (k := 0) rfl rfl (by decide) rfl (fun ls hl => ?_)
      refine lv_goto (tgt := 68) hx hb d_Mo_takeRule_151 (by decide) ?_
      exact ih hf hP hD hS (lv_sub hl [0, 1, 2, 3, 4] rfl)
set_option maxHeartbeats 400000 in
set_option maxRecDepth 100000 in
theorem k_Mo_takeRule_0 (C0 : Cx p s m meth c args R b_Mo_takeRule "ZoneFilesModel" 6 none 1 24) (hST : ST A s s.heap) (hA : ∀ q, s.heap.size ≤ q → A q) (hK : va_K (dC, dI) classes (moT cA) s) (hE : ∀ (pc : Nat) (ls : Array Slot) (H : Heap) (locs : List Loc), decode b_Mo_takeRule pc = .ok (.return_, 1) → va_P (dC, dI) classes (moW h0 r cA vi vj va vb) H → va_D A (moW h0 r cA vi vj va vb) → va_S A s.heap H locs → W p l e R s m args below meth c H locs 0 0 Q (F0 m pc ls [])) {x1 : Int32} {x2 : Int32} {x3 : Int32} {si : Nat → Int32} {sj : Nat → Int64} {sa : Nat → Nat → Int32} {sb : Nat → Nat → Int64} (hf : f_Mo_takeRule_0 nf x1 x2 x3 si sj sa sb = some (vi, vj, va, vb)) {H : Heap} {locs : List Loc} {ls : Array Slot} (hP : va_P (dC, dI) classes (moW h0 r cA si sj sa sb) H) (hD : va_D A (moW h0 r cA si sj sa sb)) (hS : va_S A s.heap H locs) (hl : lv_has ls 6 [(0, .ref h0), (1, .int x1), (2, .int x2), (3, .int x3)]) : W p l e R s m args below meth c H locs 0 0 Q (F0 m 0 ls []) := by
  obtain ⟨hx, hb, hr, hml, hown, hts, hlocks, hRf, hRl⟩ := id C0
  unfold f_Mo_takeRule_0 at hf
  refine lv_iconst (v := 4) hx hb d_Mo_takeRule_0 (by decide) ?_
  refine lv_istore (lv' := [(4, .int 4), (0, .ref h0), (1, .int x1), (2, .int x2), (3, .int x3)]) hx hb d_Mo_takeRule_1 hl (by decide) rfl (fun ls hl => ?_)
  refine lv_aload_n hx hb d_Mo_takeRule_3 rfl (lv_at hl 1 rfl) ?_
  refine mg_4 hx hb hts hown hK hP d_Mo_takeRule_4 ?_
  refine lv_iload hx hb d_Mo_takeRule_7 (lv_at hl 0 rfl) ?_
  refine lv_iload_n hx hb d_Mo_takeRule_9 rfl (lv_at hl 2 rfl) ?_
  obtain ⟨c_1, hf⟩ := it_n hf
  refine mz_4 hx hb hK hP hD hS c_1 d_Mo_takeRule_10 (fun H locs hP hD hS => ?_)
  refine lv_aload_n hx hb d_Mo_takeRule_11 rfl (lv_at hl 1 rfl) ?_
  refine mg_5 hx hb hts hown hK hP d_Mo_takeRule_12 ?_
  refine lv_iload hx hb d_Mo_takeRule_15 (lv_at hl 0 rfl) ?_
  refine lv_iconst (v := 0) hx hb d_Mo_takeRule_17 (by decide) ?_
  obtain ⟨c_2, hf⟩ := it_n hf
  refine mz_5 hx hb hK hP hD hS c_2 d_Mo_takeRule_18 (fun H locs hP hD hS => ?_)
  refine lv_aload_n hx hb d_Mo_takeRule_19 rfl (lv_at hl 1 rfl) ?_
  refine mg_6 hx hb hts hown hK hP d_Mo_takeRule_20 ?_
  refine lv_iload hx hb d_Mo_takeRule_23 (lv_at hl 0 rfl) ?_
  refine lv_aload_n hx hb d_Mo_takeRule_25 rfl (lv_at hl 1 rfl) ?_
  refine mg_23 hx hb hts hown hK hP d_Mo_takeRule_26 ?_
  refine lv_iload hx hb d_Mo_takeRule_29 (lv_at hl 0 rfl) ?_
  obtain ⟨c_3, hf⟩ := it_n hf
  refine ma_23 (v := sa 23 (4 : Int32).toNatClampNeg) hx hb hK hP c_3 rfl d_Mo_takeRule_31 ?_
  obtain ⟨c_4, hf⟩ := it_n hf
  refine mz_6 hx hb hK hP hD hS c_4 d_Mo_takeRule_32 (fun H locs hP hD hS => ?_)
  refine lv_aload_n hx hb d_Mo_takeRule_33 rfl (lv_at hl 1 rfl) ?_
  refine mg_8 hx hb hts hown hK hP d_Mo_takeRule_34 ?_
  refine lv_iload hx hb d_Mo_takeRule_37 (lv_at hl 0 rfl) ?_
  refine lv_iconst (v := 0) hx hb d_Mo_takeRule_39 (by decide) ?_
  obtain ⟨c_5, hf⟩ := it_n hf
  refine mz_8 hx hb hK hP hD hS c_5 d_Mo_takeRule_40 (fun H locs hP hD hS => ?_)
  refine lv_aload_n hx hb d_Mo_takeRule_41 rfl (lv_at hl 1 rfl) ?_
  refine mg_9 hx hb hts hown hK hP d_Mo_takeRule_42 ?_
  refine lv_iload hx hb d_Mo_takeRule_45 (lv_at hl 0 rfl) ?_
  refine lv_iconst (v := 0) hx hb d_Mo_takeRule_47 (by decide) ?_
  obtain ⟨c_6, hf⟩ := it_n hf
  refine mz_9 hx hb hK hP hD hS c_6 d_Mo_takeRule_48 (fun H locs hP hD hS => ?_)
  refine lv_aload_n hx hb d_Mo_takeRule_49 rfl (lv_at hl 1 rfl) ?_
  refine mg_10 hx hb hts hown hK hP d_Mo_takeRule_50 ?_
  refine lv_iload hx hb d_Mo_takeRule_53 (lv_at hl 0 rfl) ?_
  refine lv_iconst (v := 0) hx hb d_Mo_takeRule_55 (by decide) ?_
  obtain ⟨c_7, hf⟩ := it_n hf
  refine mz_10 hx hb hK hP hD hS c_7 d_Mo_takeRule_56 (fun H locs hP hD hS => ?_)
  refine lv_aload_n hx hb d_Mo_takeRule_57 rfl (lv_at hl 1 rfl) ?_
  refine mg_7 hx hb hts hown hK hP d_Mo_takeRule_58 ?_
  refine lv_iload hx hb d_Mo_takeRule_61 (lv_at hl 0 rfl) ?_
  refine lv_iconst (v := 0) hx hb d_Mo_takeRule_63 (by decide) ?_
  obtain ⟨c_8, hf⟩ := it_n hf
  refine mz_7 hx hb hK hP hD hS c_8 d_Mo_takeRule_64 (fun H locs hP hD hS => ?_)
  refine lv_iconst (v := 0) hx hb d_Mo_takeRule_65 (by decide) ?_
  refine lv_istore (lv' := [(5, .int 0), (4, .int 4), (0, .ref h0), (1, .int x1), (2, .int x2), (3, .int x3)]) hx hb d_Mo_takeRule_66 hl (by decide) rfl (fun ls hl => ?_)
  exact k_Mo_takeRule_68 C0 hST hA hK hE nf hf hP hD hS (lv_sub hl [0, 1, 2, 4, 5] rfl)
end
set_option maxHeartbeats 400000 in
set_option maxRecDepth 100000 in
theorem c_Mo_takeRule (l : Launch) (dC : Nat → ClassId) (dI : Nat → Nat → Nat) (h0 : Nat) (r : Nat → Nat) (cA : Nat → ClassId) (sz : Nat) (nf : Nat) (p0 : Int32) (p1 : Int32) (p2 : Int32) (si : Nat → Int32) (sj : Nat → Int64) (sa : Nat → Nat → Int32) (sb : Nat → Nat → Int64) {vi : Nat → Int32} {vj : Nat → Int64} {va : Nat → Nat → Int32} {vb : Nat → Nat → Int64} (hf : f_Mo_takeRule nf p0 p1 p2 si sj sa sb = some (vi, vj, va, vb)) : Met l y_Mo_takeRule (wd y_Mo_takeRule b_Mo_takeRule 6 none) ({ frames := 1, cells := 0, slots := 0, locals := 24 }) (MU dC dI (moW h0 r cA si sj sa sb) (moT cA) sz [.ref h0, .int p0, .int p1, .int p2]) (MV none (fun t => va_P (dC, dI) classes (moW h0 r cA vi vj va vb) t.heap) (va_A (moW h0 r cA si sj sa sb) sz)) 0 0 (va_A (moW h0 r cA si sj sa sb) sz) :=
  met_M (plainFor_of_name (by decide)) (Nat.le_of_ble_eq_true rfl) (fun p e R s m args below meth c ls hRc hRs hsz hin C0 hST hK hP hD hl => by
    obtain ⟨hx, hb, hr, hml, hown, hts, hlocks, hRf, hRl⟩ := id C0
    subst hsz
    have hA : ∀ q : Nat, s.heap.size ≤ q → va_A (moW h0 r cA si sj sa sb) s.heap.size q := fun q h => Or.inr h
    have hS : va_S (va_A (moW h0 r cA si sj sa sb) s.heap.size) s.heap s.heap [] := va_S.rf
    unfold f_Mo_takeRule at hf
    exact k_Mo_takeRule_0 C0 hST hA hK (fun pc ls H locs hd hP hD hS => W.vret hx hb hr (fun t ht hW => ⟨⟨rfl, mo_end ht hP⟩, hS.F ht⟩) hS.2.2 hd) hf hP hD hS (lv_sub hl [0, 1, 2, 3] rfl))
-- ZoneFilesModel.rule(IZ)I
def f_Mo_rule_59 (nf : Nat) (x3 : Int32) (x1 : Int32) (s0 : Int32) (si : Nat → Int32) (sj : Nat → Int64) (sa : Nat → Nat → Int32) (sb : Nat → Nat → Int64) : Option (Int32 × (Nat → Int32) × (Nat → Int64) × (Nat → Nat → Int32) × (Nat → Nat → Int64)) :=
  (f_Mo_ruleText nf s0 0 x3 si sj sa sb).bind fun (z_9, i_5, j_6, a_7, b_8) =>
  if z_9 = 0 then
  some (15, va_up i_5 2 (i_5 35), j_6, a_7, b_8)
  else
  (f_Mo_takeRule nf s0 0 x3 i_5 j_6 a_7 b_8).bind fun (i_11, j_12, a_13, b_14) =>
    (f_Mo_put nf x1 4 i_11 j_12 a_13 b_14).bind fun (i_15, j_16, a_17, b_18) =>
    some (0, i_15, j_16, a_17, b_18)
def f_Mo_rule_15 (nf : Nat) (x1 : Int32) (x2 : Int32) (s0 : Int32) (si : Nat → Int32) (sj : Nat → Int64) (sa : Nat → Nat → Int32) (sb : Nat → Nat → Int64) : Option (Int32 × (Nat → Int32) × (Nat → Int64) × (Nat → Nat → Int32) × (Nat → Nat → Int64)) :=
  if s0 ≤ 0 then
  if (si 1) = 0 then
    some (1, va_up (va_up (va_up si 3 s0) 1 0) 2 0, sj, sa, sb)
    else
    if x2 = 0 then
      f_Mo_rule_59 nf (si 1) x1 50 (va_up (va_up si 3 s0) 1 0) sj sa sb
      else
      f_Mo_rule_59 nf (si 1) x1 51 (va_up (va_up si 3 s0) 1 0) sj sa sb
  else
  some (0, va_up si 3 s0, sj, sa, sb)
def f_Mo_rule_10 (nf : Nat) (x1 : Int32) (x2 : Int32) (si : Nat → Int32) (sj : Nat → Int64) (sa : Nat → Nat → Int32) (sb : Nat → Nat → Int64) : Option (Int32 × (Nat → Int32) × (Nat → Int64) × (Nat → Nat → Int32) × (Nat → Nat → Int64)) :=
  f_Mo_rule_15 nf x1 x2 1 si sj sa sb
def f_Mo_rule_0 (nf : Nat) (x1 : Int32) (x2 : Int32) (si : Nat → Int32) (sj : Nat → Int64) (sa : Nat → Nat → Int32) (sb : Nat → Nat → Int64) : Option (Int32 × (Nat → Int32) × (Nat → Int64) × (Nat → Nat → Int32) × (Nat → Nat → Int64)) :=
  if x1 < 0 then
  f_Mo_rule_10 nf x1 x2 si sj sa sb
  else
  if x1 < (4 : Int32) then
    f_Mo_rule_15 nf x1 x2 0 si sj sa sb
    else
    f_Mo_rule_10 nf x1 x2 si sj sa sb
def f_Mo_rule (nf : Nat) (p0 : Int32) (p1 : Int32) (si : Nat → Int32) (sj : Nat → Int64) (sa : Nat → Nat → Int32) (sb : Nat → Nat → Int64) : Option (Int32 × (Nat → Int32) × (Nat → Int64) × (Nat → Nat → Int32) × (Nat → Nat → Int64)) :=
  f_Mo_rule_0 nf p0 p1 si sj sa sb
section
variable {p : Program} {l : Launch} {e : Env} {R : Room} {s : State} {m : MethodId} {args : Array Value} {below : List Frame} {meth : Method} {c : Code} {Q : State → Prop} {dC : Nat → ClassId} {dI : Nat → Nat → Nat} {nf : Nat} {A : Nat → Prop} {h0 : Nat} {r : Nat → Nat} {cA : Nat → ClassId}
variable {r0 : Int32} {vi : Nat → Int32} {vj : Nat → Int64} {va : Nat → Nat → Int32} {vb : Nat → Nat → Int64}
set_option maxHeartbeats 400000 in
set_option maxRecDepth 100000 in
theorem k_Mo_rule_59 (C0 : Cx p s m meth c args R b_Mo_rule "ZoneFilesModel" 5 (some .int) 5 117) (hST : ST A s s.heap) (hA : ∀ q, s.heap.size ≤ q → A q) (hK : va_K (dC, dI) classes (moT cA) s) (hE : ∀ (pc : Nat) (ls : Array Slot) (H : Heap) (locs : List Loc), decode b_Mo_rule pc = .ok (.ireturn, 1) → narrow .int (.int r0) = .int r0 → va_P (dC, dI) classes (moW h0 r cA vi vj va vb) H → va_D A (moW h0 r cA vi vj va vb) → va_S A s.heap H locs → W p l e R s m args below meth c H locs 0 0 Q (F0 m pc ls [.int r0])) {x3 : Int32} {x1 : Int32} {s0 : Int32} {si : Nat → Int32} {sj : Nat → Int64} {sa : Nat → Nat → Int32} {sb : Nat → Nat → Int64} (hf : f_Mo_rule_59 nf x3 x1 s0 si sj sa sb = some (r0, vi, vj, va, vb)) {H : Heap} {locs : List Loc} {ls : Array Slot} (hP : va_P (dC, dI) classes (moW h0 r cA si sj sa sb) H) (hD : va_D A (moW h0 r cA si sj sa sb)) (hS : va_S A s.heap H locs) (hl : lv_has ls 5 [(3, .int x3), (0, .ref h0), (1, .int x1)]) : W p l e R s m args below meth c H locs 0 0 Q (F0 m 59 ls [.int s0]) := by
  obtain ⟨hx, hb, hr, hml, hown, hts, hlocks, hRf, hRl⟩ := id C0
  unfold f_Mo_rule_59 at hf
  refine lv_istore (lv' := [(4, .int s0), (3, .int x3), (0, .ref h0), (1, .int x1)]) hx hb d_Mo_rule_59 hl (by decide) rfl (fun ls hl => ?_)
  refine lv_aload_n hx hb d_Mo_rule_61 rfl (lv_at hl 2 rfl) ?_
  refine lv_iload hx hb d_Mo_rule_62 (lv_at hl 0 rfl) ?_
  refine lv_iconst (v := 0) hx hb d_Mo_rule_64 (by decide) ?_
  refine lv_iload_n hx hb d_Mo_rule_65 rfl (lv_at hl 1 rfl) ?_
  obtain ⟨⟨z_9, i_5, j_6, a_7, b_8⟩, hc, hf⟩ := ob hf
  have hFc := mo_free hD hS hA
  refine cl_M (v := (some (.int z_9))) (st1 := [.int z_9]) (va_runV (As := [.int s0, .int 0, .int x3]) (rest := []) ⟨hx, hb, hml, hown, hts⟩ (c_Mo_ruleText l dC dI h0 r cA H.size nf s0 0 x3 si sj sa sb hc) (cwV 3 hts (gdV m_6_75 m_6_77 msel_47 m_1_10 m_6_78) rfl rfl rfl (by decide +kernel) ⟨Nat.le_trans (Nat.le_of_ble_eq_true rfl) hRf, Nat.le_trans (Nat.le_of_ble_eq_true rfl) hRl⟩) ((MU.pre hP hK hD (hST.mu hS hFc)).vir (va_recv hK hP (ci := 10) (q0 := 0) rfl rfl)) rfl rfl hl.1 rfl (lv_room (Nat.le_of_ble_eq_true rfl)) d_Mo_rule_66 ⟨Nat.zero_le _, Nat.zero_le _⟩) rfl hS (fun q _ h => hFc q h) hFc (fun t H1 locs ht hvm hB hz1 hk1 hS => ?_)
  obtain ⟨hP, hD⟩ := mo_back ht hD hB
  generalize H1 = H at hP hS ⊢
  refine lv_if_ne (tgt := 83) hx hb d_Mo_rule_69 (by decide) (fun c_10 => ?_) (fun c_10 => ?_)
  · have hf := it_f c_10 hf
    refine lv_aload_n hx hb d_Mo_rule_83 rfl (lv_at hl 2 rfl) ?_
    refine lv_iload hx hb d_Mo_rule_84 (lv_at hl 0 rfl) ?_
    refine lv_iconst (v := 0) hx hb d_Mo_rule_86 (by decide) ?_
    refine lv_iload_n hx hb d_Mo_rule_87 rfl (lv_at hl 1 rfl) ?_
    obtain ⟨⟨i_11, j_12, a_13, b_14⟩, hc, hf⟩ := ob hf
    have hFc := mo_free hD hS hA
    refine cl_M (v := none) (st1 := []) (va_runV (As := [.int s0, .int 0, .int x3]) (rest := []) ⟨hx, hb, hml, hown, hts⟩ (c_Mo_takeRule l dC dI h0 r cA H.size nf s0 0 x3 i_5 j_6 a_7 b_8 hc) (cwV 3 hts (gdV m_6_116 m_6_118 msel_55 m_1_10 m_6_119) rfl rfl rfl (by decide +kernel) ⟨Nat.le_trans (Nat.le_of_ble_eq_true rfl) hRf, Nat.le_trans (Nat.le_of_ble_eq_true rfl) hRl⟩) ((MU.pre hP hK hD (hST.mu hS hFc)).vir (va_recv hK hP (ci := 10) (q0 := 0) rfl rfl)) rfl rfl hl.1 rfl (lv_room (Nat.le_of_ble_eq_true rfl)) d_Mo_rule_88 ⟨Nat.zero_le _, Nat.zero_le _⟩) rfl hS (fun q _ h => hFc q h) hFc (fun t H1 locs ht hvm hB hz1 hk1 hS => ?_)
    obtain ⟨hP, hD⟩ := mo_back ht hD hB
    generalize H1 = H at hP hS ⊢
    refine lv_aload_n hx hb d_Mo_rule_91 rfl (lv_at hl 2 rfl) ?_
    refine lv_iload_n hx hb d_Mo_rule_92 rfl (lv_at hl 3 rfl) ?_
    refine lv_iconst (v := 4) hx hb d_Mo_rule_93 (by decide) ?_
    obtain ⟨⟨i_15, j_16, a_17, b_18⟩, hc, hf⟩ := ob hf
    have hFc := mo_free hD hS hA
    refine cl_M (v := none) (st1 := []) (va_runV (As := [.int x1, .int 4]) (rest := []) ⟨hx, hb, hml, hown, hts⟩ (c_Mo_put l dC dI h0 r cA H.size nf x1 4 i_11 j_12 a_13 b_14 hc) (cwV 2 hts (gdV m_6_124 m_6_126 msel_57 m_1_10 m_6_127) rfl rfl rfl (by decide +kernel) ⟨Nat.le_trans (Nat.le_of_ble_eq_true rfl) hRf, Nat.le_trans (Nat.le_of_ble_eq_true rfl) hRl⟩) ((MU.pre hP hK hD (hST.mu hS hFc)).vir (va_recv hK hP (ci := 10) (q0 := 0) rfl rfl)) rfl rfl hl.1 rfl (lv_room (Nat.le_of_ble_eq_true rfl)) d_Mo_rule_94 ⟨Nat.zero_le _, Nat.zero_le _⟩) rfl hS (fun q _ h => hFc q h) hFc (fun t H1 locs ht hvm hB hz1 hk1 hS => ?_)
    obtain ⟨hP, hD⟩ := mo_back ht hD hB
    generalize H1 = H at hP hS ⊢
    refine lv_iconst (v := 0) hx hb d_Mo_rule_97 (by decide) ?_
    cases rs hf
    exact hE _ _ _ _ d_Mo_rule_98 rfl hP hD hS
  · have hf := it_t c_10 hf
    refine lv_aload_n hx hb d_Mo_rule_72 rfl (lv_at hl 2 rfl) ?_
    refine lv_aload_n hx hb d_Mo_rule_73 rfl (lv_at hl 2 rfl) ?_
    refine mg_35 (v := i_5 35) hx hb hts hown hK hP rfl d_Mo_rule_74 ?_
    refine mp_2 hx hb hts hown hK hP hD hS d_Mo_rule_77 (fun H locs hP hD hS => ?_)
    refine lv_bipush (v := 15) hx hb d_Mo_rule_80 (by decide) ?_
    cases rs hf
    exact hE _ _ _ _ d_Mo_rule_82 rfl hP hD hS
set_option maxHeartbeats 400000 in
set_option maxRecDepth 100000 in
theorem k_Mo_rule_15 (C0 : Cx p s m meth c args R b_Mo_rule "ZoneFilesModel" 5 (some .int) 5 117) (hST : ST A s s.heap) (hA : ∀ q, s.heap.size ≤ q → A q) (hK : va_K (dC, dI) classes (moT cA) s) (hE : ∀ (pc : Nat) (ls : Array Slot) (H : Heap) (locs : List Loc), decode b_Mo_rule pc = .ok (.ireturn, 1) → narrow .int (.int r0) = .int r0 → va_P (dC, dI) classes (moW h0 r cA vi vj va vb) H → va_D A (moW h0 r cA vi vj va vb) → va_S A s.heap H locs → W p l e R s m args below meth c H locs 0 0 Q (F0 m pc ls [.int r0])) {x1 : Int32} {x2 : Int32} {s0 : Int32} {si : Nat → Int32} {sj : Nat → Int64} {sa : Nat → Nat → Int32} {sb : Nat → Nat → Int64} (hf : f_Mo_rule_15 nf x1 x2 s0 si sj sa sb = some (r0, vi, vj, va, vb)) {H : Heap} {locs : List Loc} {ls : Array Slot} (hP : va_P (dC, dI) classes (moW h0 r cA si sj sa sb) H) (hD : va_D A (moW h0 r cA si sj sa sb)) (hS : va_S A s.heap H locs) (hl : lv_has ls 5 [(0, .ref h0), (1, .int x1), (2, .int x2)]) : W p l e R s m args below meth c H locs 0 0 Q (F0 m 15 ls [.int s0, .ref h0]) := by
  obtain ⟨hx, hb, hr, hml, hown, hts, hlocks, hRf, hRl⟩ := id C0
  unfold f_Mo_rule_15 at hf
  refine mp_3 hx hb hts hown hK hP hD hS d_Mo_rule_15 (fun H locs hP hD hS => ?_)
  refine lv_aload_n hx hb d_Mo_rule_18 rfl (lv_at hl 0 rfl) ?_
  refine mg_3 (v := s0) hx hb hts hown hK hP rfl d_Mo_rule_19 ?_
  refine lv_if_le (tgt := 27) hx hb d_Mo_rule_22 (by decide) (fun c_2 => ?_) (fun c_2 => ?_)
  · have hf := it_t c_2 hf
    refine lv_aload_n hx hb d_Mo_rule_27 rfl (lv_at hl 0 rfl) ?_
    refine mg_1 (v := si 1) hx hb hts hown hK hP rfl d_Mo_rule_28 ?_
    refine lv_istore_n (lv' := [(3, .int (si 1)), (0, .ref h0), (1, .int x1), (2, .int x2)]) hx hb d_Mo_rule_31 rfl hl (by decide) rfl (fun ls hl => ?_)
    refine lv_aload_n hx hb d_Mo_rule_32 rfl (lv_at hl 1 rfl) ?_
    refine lv_iconst (v := 0) hx hb d_Mo_rule_33 (by decide) ?_
    refine mp_1 hx hb hts hown hK hP hD hS d_Mo_rule_34 (fun H locs hP hD hS => ?_)
    refine lv_iload_n hx hb d_Mo_rule_37 rfl (lv_at hl 0 rfl) ?_
    refine lv_if_ne (tgt := 48) hx hb d_Mo_rule_38 (by decide) (fun c_3 => ?_) (fun c_3 => ?_)
    · have hf := it_f c_3 hf
      refine lv_iload_n hx hb d_Mo_rule_48 rfl (lv_at hl 3 rfl) ?_
      refine lv_if_eq (tgt := 57) hx hb d_Mo_rule_49 (by decide) (fun c_4 => ?_) (fun c_4 => ?_)
      · have hf := it_t c_4 hf
        refine lv_bipush (v := 50) hx hb d_Mo_rule_57 (by decide) ?_
        exact k_Mo_rule_59 C0 hST hA hK hE hf hP hD hS (lv_sub hl [0, 1, 2] rfl)
      · have hf := it_f c_4 hf
        refine lv_bipush (v := 51) hx hb d_Mo_rule_52 (by decide) ?_
        refine lv_goto (tgt := 59) hx hb d_Mo_rule_54 (by decide) ?_
        exact k_Mo_rule_59 C0 hST hA hK hE hf hP hD hS (lv_sub hl [0, 1, 2] rfl)
    · have hf := it_t c_3 hf
      refine lv_aload_n hx hb d_Mo_rule_41 rfl (lv_at hl 1 rfl) ?_
      refine lv_iconst (v := 0) hx hb d_Mo_rule_42 (by decide) ?_
      refine mp_2 hx hb hts hown hK hP hD hS d_Mo_rule_43 (fun H locs hP hD hS => ?_)
      refine lv_iconst (v := 1) hx hb d_Mo_rule_46 (by decide) ?_
      cases rs hf
      exact hE _ _ _ _ d_Mo_rule_47 rfl hP hD hS
  · have hf := it_f c_2 hf
    refine lv_iconst (v := 0) hx hb d_Mo_rule_25 (by decide) ?_
    cases rs hf
    exact hE _ _ _ _ d_Mo_rule_26 rfl hP hD hS
set_option maxHeartbeats 400000 in
set_option maxRecDepth 100000 in
theorem k_Mo_rule_10 (C0 : Cx p s m meth c args R b_Mo_rule "ZoneFilesModel" 5 (some .int) 5 117) (hST : ST A s s.heap) (hA : ∀ q, s.heap.size ≤ q → A q) (hK : va_K (dC, dI) classes (moT cA) s) (hE : ∀ (pc : Nat) (ls : Array Slot) (H : Heap) (locs : List Loc), decode b_Mo_rule pc = .ok (.ireturn, 1) → narrow .int (.int r0) = .int r0 → va_P (dC, dI) classes (moW h0 r cA vi vj va vb) H → va_D A (moW h0 r cA vi vj va vb) → va_S A s.heap H locs → W p l e R s m args below meth c H locs 0 0 Q (F0 m pc ls [.int r0])) {x1 : Int32} {x2 : Int32} {si : Nat → Int32} {sj : Nat → Int64} {sa : Nat → Nat → Int32} {sb : Nat → Nat → Int64} (hf : f_Mo_rule_10 nf x1 x2 si sj sa sb = some (r0, vi, vj, va, vb)) {H : Heap} {locs : List Loc} {ls : Array Slot} (hP : va_P (dC, dI) classes (moW h0 r cA si sj sa sb) H) (hD : va_D A (moW h0 r cA si sj sa sb)) (hS : va_S A s.heap H locs) (hl : lv_has ls 5 [(0, .ref h0), (1, .int x1), (2, .int x2)]) : W p l e R s m args below meth c H locs 0 0 Q (F0 m 10 ls [.ref h0]) := by
  obtain ⟨hx, hb, hr, hml, hown, hts, hlocks, hRf, hRl⟩ := id C0
  unfold f_Mo_rule_10 at hf
  refine lv_iconst (v := 1) hx hb d_Mo_rule_10 (by decide) ?_
  refine lv_goto (tgt := 15) hx hb d_Mo_rule_11 (by decide) ?_
  exact k_Mo_rule_15 C0 hST hA hK hE hf hP hD hS (lv_sub hl [0, 1, 2] rfl)
set_option maxHeartbeats 400000 in
set_option maxRecDepth 100000 in
theorem k_Mo_rule_0 (C0 : Cx p s m meth c args R b_Mo_rule "ZoneFilesModel" 5 (some .int) 5 117) (hST : ST A s s.heap) (hA : ∀ q, s.heap.size ≤ q → A q) (hK : va_K (dC, dI) classes (moT cA) s) (hE : ∀ (pc : Nat) (ls : Array Slot) (H : Heap) (locs : List Loc), decode b_Mo_rule pc = .ok (.ireturn, 1) → narrow .int (.int r0) = .int r0 → va_P (dC, dI) classes (moW h0 r cA vi vj va vb) H → va_D A (moW h0 r cA vi vj va vb) → va_S A s.heap H locs → W p l e R s m args below meth c H locs 0 0 Q (F0 m pc ls [.int r0])) {x1 : Int32} {x2 : Int32} {si : Nat → Int32} {sj : Nat → Int64} {sa : Nat → Nat → Int32} {sb : Nat → Nat → Int64} (hf : f_Mo_rule_0 nf x1 x2 si sj sa sb = some (r0, vi, vj, va, vb)) {H : Heap} {locs : List Loc} {ls : Array Slot} (hP : va_P (dC, dI) classes (moW h0 r cA si sj sa sb) H) (hD : va_D A (moW h0 r cA si sj sa sb)) (hS : va_S A s.heap H locs) (hl : lv_has ls 5 [(0, .ref h0), (1, .int x1), (2, .int x2)]) : W p l e R s m args below meth c H locs 0 0 Q (F0 m 0 ls []) := by
  obtain ⟨hx, hb, hr, hml, hown, hts, hlocks, hRf, hRl⟩ := id C0
  unfold f_Mo_rule_0 at hf
  refine lv_aload_n hx hb d_Mo_rule_0 rfl (lv_at hl 0 rfl) ?_
  refine lv_iload_n hx hb d_Mo_rule_1 rfl (lv_at hl 1 rfl) ?_
  refine lv_if_lt (tgt := 10) hx hb d_Mo_rule_2 (by decide) (fun c_1 => ?_) (fun c_1 => ?_)
  · have hf := it_t c_1 hf
    exact k_Mo_rule_10 C0 hST hA hK hE hf hP hD hS (lv_sub hl [0, 1, 2] rfl)
  · have hf := it_f c_1 hf
    refine lv_iload_n hx hb d_Mo_rule_5 rfl (lv_at hl 1 rfl) ?_
    refine lv_iconst (v := 4) hx hb d_Mo_rule_6 (by decide) ?_
    refine lv_icmp_lt (tgt := 14) hx hb d_Mo_rule_7 (by decide) (fun c_19 => ?_) (fun c_19 => ?_)
    · have hf := it_t c_19 hf
      refine lv_iconst (v := 0) hx hb d_Mo_rule_14 (by decide) ?_
      exact k_Mo_rule_15 C0 hST hA hK hE hf hP hD hS (lv_sub hl [0, 1, 2] rfl)
    · have hf := it_f c_19 hf
      exact k_Mo_rule_10 C0 hST hA hK hE hf hP hD hS (lv_sub hl [0, 1, 2] rfl)
end
set_option maxHeartbeats 400000 in
set_option maxRecDepth 100000 in
theorem c_Mo_rule (l : Launch) (dC : Nat → ClassId) (dI : Nat → Nat → Nat) (h0 : Nat) (r : Nat → Nat) (cA : Nat → ClassId) (sz : Nat) (nf : Nat) (p0 : Int32) (p1 : Int32) (si : Nat → Int32) (sj : Nat → Int64) (sa : Nat → Nat → Int32) (sb : Nat → Nat → Int64) {r0 : Int32} {vi : Nat → Int32} {vj : Nat → Int64} {va : Nat → Nat → Int32} {vb : Nat → Nat → Int64} (hf : f_Mo_rule nf p0 p1 si sj sa sb = some (r0, vi, vj, va, vb)) : Met l y_Mo_rule (wd y_Mo_rule b_Mo_rule 5 (some .int)) ({ frames := 5, cells := 0, slots := 0, locals := 117 }) (MU dC dI (moW h0 r cA si sj sa sb) (moT cA) sz [.ref h0, .int p0, .int p1]) (MV (some (.int r0)) (fun t => va_P (dC, dI) classes (moW h0 r cA vi vj va vb) t.heap) (va_A (moW h0 r cA si sj sa sb) sz)) 0 0 (va_A (moW h0 r cA si sj sa sb) sz) :=
  met_M (plainFor_of_name (by decide)) (Nat.le_of_ble_eq_true rfl) (fun p e R s m args below meth c ls hRc hRs hsz hin C0 hST hK hP hD hl => by
    obtain ⟨hx, hb, hr, hml, hown, hts, hlocks, hRf, hRl⟩ := id C0
    subst hsz
    have hA : ∀ q : Nat, s.heap.size ≤ q → va_A (moW h0 r cA si sj sa sb) s.heap.size q := fun q h => Or.inr h
    have hS : va_S (va_A (moW h0 r cA si sj sa sb) s.heap.size) s.heap s.heap [] := va_S.rf
    unfold f_Mo_rule at hf
    exact k_Mo_rule_0 C0 hST hA hK (fun pc ls H locs hd hn hP hD hS => W.zret hx hb hr hn (fun t ht hW => ⟨⟨rfl, mo_end ht hP⟩, hS.F ht⟩) hS.2.2 hd) hf hP hD hS (lv_sub hl [0, 1, 2] rfl))
-- ZoneFilesModel.faulty(II)Z
def f_Mo_faulty_0 (nf : Nat) (x1 : Int32) (x2 : Int32) (si : Nat → Int32) (sj : Nat → Int64) (sa : Nat → Nat → Int32) (sb : Nat → Nat → Int64) : Option (Int32 × (Nat → Int32) × (Nat → Int64) × (Nat → Nat → Int32) × (Nat → Nat → Int64)) :=
  some (0, va_up (va_up si 36 x1) 2 x2, sj, sa, sb)
def f_Mo_faulty (nf : Nat) (p0 : Int32) (p1 : Int32) (si : Nat → Int32) (sj : Nat → Int64) (sa : Nat → Nat → Int32) (sb : Nat → Nat → Int64) : Option (Int32 × (Nat → Int32) × (Nat → Int64) × (Nat → Nat → Int32) × (Nat → Nat → Int64)) :=
  f_Mo_faulty_0 nf p0 p1 si sj sa sb
section
variable {p : Program} {l : Launch} {e : Env} {R : Room} {s : State} {m : MethodId} {args : Array Value} {below : List Frame} {meth : Method} {c : Code} {Q : State → Prop} {dC : Nat → ClassId} {dI : Nat → Nat → Nat} {nf : Nat} {A : Nat → Prop} {h0 : Nat} {r : Nat → Nat} {cA : Nat → ClassId}
variable {r0 : Int32} {vi : Nat → Int32} {vj : Nat → Int64} {va : Nat → Nat → Int32} {vb : Nat → Nat → Int64}
set_option maxHeartbeats 400000 in
set_option maxRecDepth 100000 in
theorem k_Mo_faulty_0 (C0 : Cx p s m meth c args R b_Mo_faulty "ZoneFilesModel" 3 (some .boolean) 0 0) (hST : ST A s s.heap) (hA : ∀ q, s.heap.size ≤ q → A q) (hK : va_K (dC, dI) classes (moT cA) s) (hE : ∀ (pc : Nat) (ls : Array Slot) (H : Heap) (locs : List Loc), decode b_Mo_faulty pc = .ok (.ireturn, 1) → narrow .boolean (.int r0) = .int r0 → va_P (dC, dI) classes (moW h0 r cA vi vj va vb) H → va_D A (moW h0 r cA vi vj va vb) → va_S A s.heap H locs → W p l e R s m args below meth c H locs 0 0 Q (F0 m pc ls [.int r0])) {x1 : Int32} {x2 : Int32} {si : Nat → Int32} {sj : Nat → Int64} {sa : Nat → Nat → Int32} {sb : Nat → Nat → Int64} (hf : f_Mo_faulty_0 nf x1 x2 si sj sa sb = some (r0, vi, vj, va, vb)) {H : Heap} {locs : List Loc} {ls : Array Slot} (hP : va_P (dC, dI) classes (moW h0 r cA si sj sa sb) H) (hD : va_D A (moW h0 r cA si sj sa sb)) (hS : va_S A s.heap H locs) (hl : lv_has ls 3 [(0, .ref h0), (1, .int x1), (2, .int x2)]) : W p l e R s m args below meth c H locs 0 0 Q (F0 m 0 ls []) := by
  obtain ⟨hx, hb, hr, hml, hown, hts, hlocks, hRf, hRl⟩ := id C0
  unfold f_Mo_faulty_0 at hf
  refine lv_aload_n hx hb d_Mo_faulty_0 rfl (lv_at hl 0 rfl) ?_
  refine lv_iload_n hx hb d_Mo_faulty_1 rfl (lv_at hl 1 rfl) ?_
  refine mp_36 hx hb hts hown hK hP hD hS d_Mo_faulty_2 (fun H locs hP hD hS => ?_)
  refine lv_aload_n hx hb d_Mo_faulty_5 rfl (lv_at hl 0 rfl) ?_
  refine lv_iload_n hx hb d_Mo_faulty_6 rfl (lv_at hl 2 rfl) ?_
  refine mp_2 hx hb hts hown hK hP hD hS d_Mo_faulty_7 (fun H locs hP hD hS => ?_)
  refine lv_iconst (v := 0) hx hb d_Mo_faulty_10 (by decide) ?_
  cases rs hf
  exact hE _ _ _ _ d_Mo_faulty_11 rfl hP hD hS
end
set_option maxHeartbeats 400000 in
set_option maxRecDepth 100000 in
theorem c_Mo_faulty (l : Launch) (dC : Nat → ClassId) (dI : Nat → Nat → Nat) (h0 : Nat) (r : Nat → Nat) (cA : Nat → ClassId) (sz : Nat) (nf : Nat) (p0 : Int32) (p1 : Int32) (si : Nat → Int32) (sj : Nat → Int64) (sa : Nat → Nat → Int32) (sb : Nat → Nat → Int64) {r0 : Int32} {vi : Nat → Int32} {vj : Nat → Int64} {va : Nat → Nat → Int32} {vb : Nat → Nat → Int64} (hf : f_Mo_faulty nf p0 p1 si sj sa sb = some (r0, vi, vj, va, vb)) : Met l y_Mo_faulty (wd y_Mo_faulty b_Mo_faulty 3 (some .boolean)) ({ frames := 0, cells := 0, slots := 0, locals := 0 }) (MU dC dI (moW h0 r cA si sj sa sb) (moT cA) sz [.ref h0, .int p0, .int p1]) (MV (some (.int r0)) (fun t => va_P (dC, dI) classes (moW h0 r cA vi vj va vb) t.heap) (va_A (moW h0 r cA si sj sa sb) sz)) 0 0 (va_A (moW h0 r cA si sj sa sb) sz) :=
  met_M (plainFor_of_name (by decide)) (Nat.le_of_ble_eq_true rfl) (fun p e R s m args below meth c ls hRc hRs hsz hin C0 hST hK hP hD hl => by
    obtain ⟨hx, hb, hr, hml, hown, hts, hlocks, hRf, hRl⟩ := id C0
    subst hsz
    have hA : ∀ q : Nat, s.heap.size ≤ q → va_A (moW h0 r cA si sj sa sb) s.heap.size q := fun q h => Or.inr h
    have hS : va_S (va_A (moW h0 r cA si sj sa sb) s.heap.size) s.heap s.heap [] := va_S.rf
    unfold f_Mo_faulty at hf
    exact k_Mo_faulty_0 C0 hST hA hK (fun pc ls H locs hd hn hP hD hS => W.zret hx hb hr hn (fun t ht hW => ⟨⟨rfl, mo_end ht hP⟩, hS.F ht⟩) hS.2.2 hd) hf hP hD hS (lv_sub hl [0, 1, 2] rfl))
-- ZoneFilesModel.unsigned(II)J
def f_Mo_unsigned_5 (nf : Nat) (sa : Nat → Nat → Int32) : Nat → Int32 → Int64 → Int32 → Int32 → Option (Int64)
  | 0, _, _, _, _ => none
  | n + 1, x5, x3, x1, x2 =>
    if x2 ≤ x5 then
    some x3
    else
    if (x1 + x5) < 0 ∨ 6000 ≤ (x1 + x5).toNatClampNeg then none else
      f_Mo_unsigned_5 nf sa n (x5 + 1) ((x3 <<< ((8 : Int32).toInt64 &&& 63)) ||| ((sa 0 (x1 + x5).toNatClampNeg).toInt64)) x1 x2
def f_Mo_unsigned_0 (nf : Nat) (sa : Nat → Nat → Int32) (x1 : Int32) (x2 : Int32) : Option (Int64) :=
  f_Mo_unsigned_5 nf sa nf 0 0 x1 x2
def f_Mo_unsigned (nf : Nat) (p0 : Int32) (p1 : Int32) (si : Nat → Int32) (sj : Nat → Int64) (sa : Nat → Nat → Int32) (sb : Nat → Nat → Int64) : Option (Int64) :=
  f_Mo_unsigned_0 nf sa p0 p1
section
variable {p : Program} {l : Launch} {e : Env} {R : Room} {s : State} {m : MethodId} {args : Array Value} {below : List Frame} {meth : Method} {c : Code} {Q : State → Prop} {dC : Nat → ClassId} {dI : Nat → Nat → Nat} {nf : Nat} {A : Nat → Prop} {h0 : Nat} {r : Nat → Nat} {cA : Nat → ClassId}
variable {si : Nat → Int32} {sj : Nat → Int64} {sa : Nat → Nat → Int32} {sb : Nat → Nat → Int64} {r0 : Int64}
set_option maxHeartbeats 400000 in
set_option maxRecDepth 100000 in
theorem k_Mo_unsigned_5 (C0 : Cx p s m meth c args R b_Mo_unsigned "ZoneFilesModel" 6 (some .long) 0 0) (hST : ST (fun _ => False) s s.heap) (hK : va_K (dC, dI) classes (moT cA) s) (hP : va_P (dC, dI) classes (moW h0 r cA si sj sa sb) s.heap) (hE : ∀ (pc : Nat) (ls : Array Slot), decode b_Mo_unsigned pc = .ok (.lreturn, 1) → W p l e R s m args below meth c s.heap [] 0 0 Q (F0 m pc ls [.long r0])) : ∀ (n : Nat) {x5 : Int32} {x3 : Int64} {x1 : Int32} {x2 : Int32}, f_Mo_unsigned_5 nf sa n x5 x3 x1 x2 = some r0 → ∀ {ls : Array Slot}, lv_has ls 6 [(5, .int x5), (3, .long x3), (0, .ref h0), (1, .int x1), (2, .int x2)] → W p l e R s m args below meth c s.heap [] 0 0 Q (F0 m 5 ls []) := by
  obtain ⟨hx, hb, hr, hml, hown, hts, hlocks, hRf, hRl⟩ := id C0
  obtain ⟨tms, hZms, hTms, tmg, hZmg, hTmg, hNW⟩ := id hST
  intro n
  induction n with
  | zero =>
    intro x5 x3 x1 x2 hf
    exact absurd hf (by simp [f_Mo_unsigned_5])
  | succ n ih =>
    intro x5 x3 x1 x2 hf ls hl
    unfold f_Mo_unsigned_5 at hf
    refine lv_iload hx hb d_Mo_unsigned_5 (lv_at hl 0 rfl) ?_
    refine lv_iload_n hx hb d_Mo_unsigned_7 rfl (lv_at hl 4 rfl) ?_
    refine lv_icmp_ge (tgt := 33) hx hb d_Mo_unsigned_8 (by decide) (fun c_1 => ?_) (fun c_1 => ?_)
    · have hf := it_t c_1 hf
      refine lv_lload_n hx hb d_Mo_unsigned_33 rfl (lv_at hl 1 rfl) ?_
      cases rs hf
      exact hE _ _ d_Mo_unsigned_34
    · have hf := it_f c_1 hf
      refine lv_lload_n hx hb d_Mo_unsigned_11 rfl (lv_at hl 1 rfl) ?_
      refine lv_bipush (v := 8) hx hb d_Mo_unsigned_12 (by decide) ?_
      refine lv_lshl hx hb d_Mo_unsigned_14 rfl ?_
      refine lv_aload_n hx hb d_Mo_unsigned_15 rfl (lv_at hl 2 rfl) ?_
      refine mg_0 hx hb hts hown hK hP d_Mo_unsigned_16 ?_
      refine lv_iload_n hx hb d_Mo_unsigned_19 rfl (lv_at hl 3 rfl) ?_
      refine lv_iload hx hb d_Mo_unsigned_20 (lv_at hl 0 rfl) ?_
      refine lv_iadd hx hb d_Mo_unsigned_22 ?_
      obtain ⟨c_2, hf⟩ := it_n hf
      refine ma_0 (v := sa 0 (x1 + x5).toNatClampNeg) hx hb hK hP c_2 rfl d_Mo_unsigned_23 ?_
      refine lv_i2l hx hb d_Mo_unsigned_24 rfl ?_
      refine lv_lor hx hb d_Mo_unsigned_25 ?_
      refine lv_lstore_n (lv' := [(3, .long ((x3 <<< ((8 : Int32).toInt64 &&& 63)) ||| ((sa 0 (x1 + x5).toNatClampNeg).toInt64))), (5, .int x5), (0, .ref h0), (1, .int x1), (2, .int x2)]) hx hb d_Mo_unsigned_26 rfl hl (by decide) rfl (fun ls hl => ?_)
      refine lv_iinc (v := x5 + 1) (lv' := [(5, .int (x5 + 1)), (3, .long ((x3 <<< ((8 : Int32).toInt64 &&& 63)) ||| ((sa 0 (x1 + x5).toNatClampNeg).toInt64))), (0, .ref h0), (1, .int x1), (2, .int x2)]) hx hb d_Mo_unsigned_27 hl (k := 1) rfl rfl (by decide) rfl (fun ls hl => ?_)
      refine lv_goto (tgt := 5) hx hb d_Mo_unsigned_30 (by decide) ?_
      exact ih hf (lv_sub hl [0, 1, 2, 3, 4] rfl)
set_option maxHeartbeats 400000 in
set_option maxRecDepth 100000 in
theorem k_Mo_unsigned_0 (C0 : Cx p s m meth c args R b_Mo_unsigned "ZoneFilesModel" 6 (some .long) 0 0) (hST : ST (fun _ => False) s s.heap) (hK : va_K (dC, dI) classes (moT cA) s) (hP : va_P (dC, dI) classes (moW h0 r cA si sj sa sb) s.heap) (hE : ∀ (pc : Nat) (ls : Array Slot), decode b_Mo_unsigned pc = .ok (.lreturn, 1) → W p l e R s m args below meth c s.heap [] 0 0 Q (F0 m pc ls [.long r0])) {x1 : Int32} {x2 : Int32} (hf : f_Mo_unsigned_0 nf sa x1 x2 = some r0) {ls : Array Slot} (hl : lv_has ls 6 [(0, .ref h0), (1, .int x1), (2, .int x2)]) : W p l e R s m args below meth c s.heap [] 0 0 Q (F0 m 0 ls []) := by
  obtain ⟨hx, hb, hr, hml, hown, hts, hlocks, hRf, hRl⟩ := id C0
  obtain ⟨tms, hZms, hTms, tmg, hZmg, hTmg, hNW⟩ := id hST
  unfold f_Mo_unsigned_0 at hf
  refine lv_lconst (v := 0) hx hb d_Mo_unsigned_0 (by decide) ?_
  refine lv_lstore_n (lv' := [(3, .long 0), (0, .ref h0), (1, .int x1), (2, .int x2)]) hx hb d_Mo_unsigned_1 rfl hl (by decide) rfl (fun ls hl => ?_)
  refine lv_iconst (v := 0) hx hb d_Mo_unsigned_2 (by decide) ?_
  refine lv_istore (lv' := [(5, .int 0), (3, .long 0), (0, .ref h0), (1, .int x1), (2, .int x2)]) hx hb d_Mo_unsigned_3 hl (by decide) rfl (fun ls hl => ?_)
  exact k_Mo_unsigned_5 C0 hST hK hP hE nf hf (lv_sub hl [0, 1, 2, 3, 4] rfl)
end
set_option maxHeartbeats 400000 in
set_option maxRecDepth 100000 in
theorem c_Mo_unsigned (l : Launch) (dC : Nat → ClassId) (dI : Nat → Nat → Nat) (h0 : Nat) (r : Nat → Nat) (cA : Nat → ClassId) (nf : Nat) (p0 : Int32) (p1 : Int32) (si : Nat → Int32) (sj : Nat → Int64) (sa : Nat → Nat → Int32) (sb : Nat → Nat → Int64) {r0 : Int64} (hf : f_Mo_unsigned nf p0 p1 si sj sa sb = some r0) : Met l y_Mo_unsigned (wd y_Mo_unsigned b_Mo_unsigned 6 (some .long)) ({ frames := 0, cells := 0, slots := 0, locals := 0 }) (RO dC dI (moW h0 r cA si sj sa sb) (moT cA) [.ref h0, .int p0, .int p1]) (SV (some (.long r0))) 0 0 (fun _ => False) :=
  met_S (plainFor_of_name (by decide)) (Nat.le_of_ble_eq_true rfl) (fun p e R s m args below meth c ls C0 hST hK hP hl => by
    obtain ⟨hx, hb, hr, hml, hown, hts, hlocks, hRf, hRl⟩ := id C0
    unfold f_Mo_unsigned at hf
    exact k_Mo_unsigned_0 C0 hST hK hP (fun pc ls hd => W.lret hx hb hr (fun t ht hW => ⟨rfl, ht⟩) (fun q h => by cases h) hd) hf (lv_sub hl [0, 1, 2] rfl))
-- ZoneFilesModel.signed(II)J
def f_Mo_signed_34 (nf : Nat) (s0 : Int64) : Option (Int64) :=
  some s0
def f_Mo_signed_0 (nf : Nat) (si : Nat → Int32) (sj : Nat → Int64) (sa : Nat → Nat → Int32) (sb : Nat → Nat → Int64) (x1 : Int32) (x2 : Int32) : Option (Int64) :=
  (f_Mo_unsigned nf x1 x2 si sj sa sb).bind fun r_1 =>
  if x2 = (8 : Int32) then
  f_Mo_signed_34 nf r_1
  else
  f_Mo_signed_34 nf ((r_1 <<< ((64 - (8 * x2)).toInt64 &&& 63)) >>> ((64 - (8 * x2)).toInt64 &&& 63))
def f_Mo_signed (nf : Nat) (p0 : Int32) (p1 : Int32) (si : Nat → Int32) (sj : Nat → Int64) (sa : Nat → Nat → Int32) (sb : Nat → Nat → Int64) : Option (Int64) :=
  f_Mo_signed_0 nf si sj sa sb p0 p1
section
variable {p : Program} {l : Launch} {e : Env} {R : Room} {s : State} {m : MethodId} {args : Array Value} {below : List Frame} {meth : Method} {c : Code} {Q : State → Prop} {dC : Nat → ClassId} {dI : Nat → Nat → Nat} {nf : Nat} {A : Nat → Prop} {h0 : Nat} {r : Nat → Nat} {cA : Nat → ClassId}
variable {si : Nat → Int32} {sj : Nat → Int64} {sa : Nat → Nat → Int32} {sb : Nat → Nat → Int64} {r0 : Int64}
set_option maxHeartbeats 400000 in
set_option maxRecDepth 100000 in
theorem k_Mo_signed_34 (C0 : Cx p s m meth c args R b_Mo_signed "ZoneFilesModel" 5 (some .long) 1 25) (hST : ST (fun _ => False) s s.heap) (hK : va_K (dC, dI) classes (moT cA) s) (hP : va_P (dC, dI) classes (moW h0 r cA si sj sa sb) s.heap) (hE : ∀ (pc : Nat) (ls : Array Slot), decode b_Mo_signed pc = .ok (.lreturn, 1) → W p l e R s m args below meth c s.heap [] 0 0 Q (F0 m pc ls [.long r0])) {s0 : Int64} (hf : f_Mo_signed_34 nf s0 = some r0) {ls : Array Slot} (hl : lv_has ls 5 []) : W p l e R s m args below meth c s.heap [] 0 0 Q (F0 m 34 ls [.long s0]) := by
  obtain ⟨hx, hb, hr, hml, hown, hts, hlocks, hRf, hRl⟩ := id C0
  obtain ⟨tms, hZms, hTms, tmg, hZmg, hTmg, hNW⟩ := id hST
  unfold f_Mo_signed_34 at hf
  cases rs hf
  exact hE _ _ d_Mo_signed_34
set_option maxHeartbeats 400000 in
set_option maxRecDepth 100000 in
theorem k_Mo_signed_0 (C0 : Cx p s m meth c args R b_Mo_signed "ZoneFilesModel" 5 (some .long) 1 25) (hST : ST (fun _ => False) s s.heap) (hK : va_K (dC, dI) classes (moT cA) s) (hP : va_P (dC, dI) classes (moW h0 r cA si sj sa sb) s.heap) (hE : ∀ (pc : Nat) (ls : Array Slot), decode b_Mo_signed pc = .ok (.lreturn, 1) → W p l e R s m args below meth c s.heap [] 0 0 Q (F0 m pc ls [.long r0])) {x1 : Int32} {x2 : Int32} (hf : f_Mo_signed_0 nf si sj sa sb x1 x2 = some r0) {ls : Array Slot} (hl : lv_has ls 5 [(0, .ref h0), (1, .int x1), (2, .int x2)]) : W p l e R s m args below meth c s.heap [] 0 0 Q (F0 m 0 ls []) := by
  obtain ⟨hx, hb, hr, hml, hown, hts, hlocks, hRf, hRl⟩ := id C0
  obtain ⟨tms, hZms, hTms, tmg, hZmg, hTmg, hNW⟩ := id hST
  unfold f_Mo_signed_0 at hf
  refine lv_aload_n hx hb d_Mo_signed_0 rfl (lv_at hl 0 rfl) ?_
  refine lv_iload_n hx hb d_Mo_signed_1 rfl (lv_at hl 1 rfl) ?_
  refine lv_iload_n hx hb d_Mo_signed_2 rfl (lv_at hl 2 rfl) ?_
  obtain ⟨r_1, hc, hf⟩ := ob hf
  refine cl_S (v := (some (.long r_1))) (st1 := [.long r_1]) (va_runV (As := [.int x1, .int x2]) (rest := []) ⟨hx, hb, hml, hown, hts⟩ (c_Mo_unsigned l dC dI h0 r cA nf x1 x2 si sj sa sb hc) (cwV 2 hts (gdV m_7_137 m_7_139 msel_61 m_1_10 m_7_140) rfl rfl rfl (by decide +kernel) ⟨Nat.le_trans (Nat.le_of_ble_eq_true rfl) hRf, Nat.le_trans (Nat.le_of_ble_eq_true rfl) hRl⟩) ((RO.pre hP hK hST).vir (va_recv hK hP (ci := 10) (q0 := 0) rfl rfl)) rfl rfl hl.1 rfl (lv_room (Nat.le_of_ble_eq_true rfl)) d_Mo_signed_3 ⟨Nat.zero_le _, Nat.zero_le _⟩) rfl ?_
  refine lv_lstore_n (lv' := [(3, .long r_1), (0, .ref h0), (1, .int x1), (2, .int x2)]) hx hb d_Mo_signed_6 rfl hl (by decide) rfl (fun ls hl => ?_)
  refine lv_iload_n hx hb d_Mo_signed_7 rfl (lv_at hl 3 rfl) ?_
  refine lv_bipush (v := 8) hx hb d_Mo_signed_8 (by decide) ?_
  refine lv_icmp_ne (tgt := 17) hx hb d_Mo_signed_10 (by decide) (fun c_2 => ?_) (fun c_2 => ?_)
  · have hf := it_f c_2 hf
    refine lv_lload_n hx hb d_Mo_signed_17 rfl (lv_at hl 0 rfl) ?_
    refine lv_bipush (v := 64) hx hb d_Mo_signed_18 (by decide) ?_
    refine lv_bipush (v := 8) hx hb d_Mo_signed_20 (by decide) ?_
    refine lv_iload_n hx hb d_Mo_signed_22 rfl (lv_at hl 3 rfl) ?_
    refine lv_imul hx hb d_Mo_signed_23 ?_
    refine lv_isub hx hb d_Mo_signed_24 ?_
    refine lv_lshl hx hb d_Mo_signed_25 rfl ?_
    refine lv_bipush (v := 64) hx hb d_Mo_signed_26 (by decide) ?_
    refine lv_bipush (v := 8) hx hb d_Mo_signed_28 (by decide) ?_
    refine lv_iload_n hx hb d_Mo_signed_30 rfl (lv_at hl 3 rfl) ?_
    refine lv_imul hx hb d_Mo_signed_31 ?_
    refine lv_isub hx hb d_Mo_signed_32 ?_
    refine lv_lshr hx hb d_Mo_signed_33 rfl ?_
    exact k_Mo_signed_34 C0 hST hK hP hE hf (lv_sub hl [] rfl)
  · have hf := it_t c_2 hf
    refine lv_lload_n hx hb d_Mo_signed_13 rfl (lv_at hl 0 rfl) ?_
    refine lv_goto (tgt := 34) hx hb d_Mo_signed_14 (by decide) ?_
    exact k_Mo_signed_34 C0 hST hK hP hE hf (lv_sub hl [] rfl)
end
set_option maxHeartbeats 400000 in
set_option maxRecDepth 100000 in
theorem c_Mo_signed (l : Launch) (dC : Nat → ClassId) (dI : Nat → Nat → Nat) (h0 : Nat) (r : Nat → Nat) (cA : Nat → ClassId) (nf : Nat) (p0 : Int32) (p1 : Int32) (si : Nat → Int32) (sj : Nat → Int64) (sa : Nat → Nat → Int32) (sb : Nat → Nat → Int64) {r0 : Int64} (hf : f_Mo_signed nf p0 p1 si sj sa sb = some r0) : Met l y_Mo_signed (wd y_Mo_signed b_Mo_signed 5 (some .long)) ({ frames := 1, cells := 0, slots := 0, locals := 25 }) (RO dC dI (moW h0 r cA si sj sa sb) (moT cA) [.ref h0, .int p0, .int p1]) (SV (some (.long r0))) 0 0 (fun _ => False) :=
  met_S (plainFor_of_name (by decide)) (Nat.le_of_ble_eq_true rfl) (fun p e R s m args below meth c ls C0 hST hK hP hl => by
    obtain ⟨hx, hb, hr, hml, hown, hts, hlocks, hRf, hRl⟩ := id C0
    unfold f_Mo_signed at hf
    exact k_Mo_signed_0 C0 hST hK hP (fun pc ls hd => W.lret hx hb hr (fun t ht hW => ⟨rfl, ht⟩) (fun q h => by cases h) hd) hf (lv_sub hl [0, 1, 2] rfl))
-- ZoneFilesModel.magic(I)I
def f_Mo_magic_31 (nf : Nat) (s0 : Int32) : Option (Int32) :=
  some s0
def f_Mo_magic_0 (nf : Nat) (x0 : Int32) : Option (Int32) :=
  if x0 = 0 then
  f_Mo_magic_31 nf 84
  else
  if x0 = (1 : Int32) then
    f_Mo_magic_31 nf 90
    else
    if x0 = (2 : Int32) then
      f_Mo_magic_31 nf 105
      else
      f_Mo_magic_31 nf 102
def f_Mo_magic (nf : Nat) (p0 : Int32) : Option (Int32) :=
  f_Mo_magic_0 nf p0
section
variable {p : Program} {l : Launch} {e : Env} {R : Room} {s : State} {m : MethodId} {args : Array Value} {below : List Frame} {meth : Method} {c : Code} {Q : State → Prop} {dC : Nat → ClassId} {dI : Nat → Nat → Nat} {nf : Nat}
variable {r0 : Int32}
set_option maxHeartbeats 400000 in
set_option maxRecDepth 100000 in
theorem k_Mo_magic_31 (C0 : Cx p s m meth c args R b_Mo_magic "ZoneFilesModel" 1 (some .int) 0 0) (hST : ST (fun _ => False) s s.heap) (hK : va_K (dC, dI) classes [] s) (hE : ∀ (pc : Nat) (ls : Array Slot), decode b_Mo_magic pc = .ok (.ireturn, 1) → narrow .int (.int r0) = .int r0 → W p l e R s m args below meth c s.heap [] 0 0 Q (F0 m pc ls [.int r0])) {s0 : Int32} (hf : f_Mo_magic_31 nf s0 = some r0) {ls : Array Slot} (hl : lv_has ls 1 []) : W p l e R s m args below meth c s.heap [] 0 0 Q (F0 m 31 ls [.int s0]) := by
  obtain ⟨hx, hb, hr, hml, hown, hts, hlocks, hRf, hRl⟩ := id C0
  obtain ⟨tms, hZms, hTms, tmg, hZmg, hTmg, hNW⟩ := id hST
  unfold f_Mo_magic_31 at hf
  have e := rs hf
  subst e
  exact hE _ _ d_Mo_magic_31 rfl
set_option maxHeartbeats 400000 in
set_option maxRecDepth 100000 in
theorem k_Mo_magic_0 (C0 : Cx p s m meth c args R b_Mo_magic "ZoneFilesModel" 1 (some .int) 0 0) (hST : ST (fun _ => False) s s.heap) (hK : va_K (dC, dI) classes [] s) (hE : ∀ (pc : Nat) (ls : Array Slot), decode b_Mo_magic pc = .ok (.ireturn, 1) → narrow .int (.int r0) = .int r0 → W p l e R s m args below meth c s.heap [] 0 0 Q (F0 m pc ls [.int r0])) {x0 : Int32} (hf : f_Mo_magic_0 nf x0 = some r0) {ls : Array Slot} (hl : lv_has ls 1 [(0, .int x0)]) : W p l e R s m args below meth c s.heap [] 0 0 Q (F0 m 0 ls []) := by
  obtain ⟨hx, hb, hr, hml, hown, hts, hlocks, hRf, hRl⟩ := id C0
  obtain ⟨tms, hZms, hTms, tmg, hZmg, hTmg, hNW⟩ := id hST
  unfold f_Mo_magic_0 at hf
  refine lv_iload_n hx hb d_Mo_magic_0 rfl (lv_at hl 0 rfl) ?_
  refine lv_if_ne (tgt := 9) hx hb d_Mo_magic_1 (by decide) (fun c_1 => ?_) (fun c_1 => ?_)
  · have hf := it_f c_1 hf
    refine lv_iload_n hx hb d_Mo_magic_9 rfl (lv_at hl 0 rfl) ?_
    refine lv_iconst (v := 1) hx hb d_Mo_magic_10 (by decide) ?_
    refine lv_icmp_ne (tgt := 19) hx hb d_Mo_magic_11 (by decide) (fun c_2 => ?_) (fun c_2 => ?_)
    · have hf := it_f c_2 hf
      refine lv_iload_n hx hb d_Mo_magic_19 rfl (lv_at hl 0 rfl) ?_
      refine lv_iconst (v := 2) hx hb d_Mo_magic_20 (by decide) ?_
      refine lv_icmp_ne (tgt := 29) hx hb d_Mo_magic_21 (by decide) (fun c_3 => ?_) (fun c_3 => ?_)
      · have hf := it_f c_3 hf
        refine lv_bipush (v := 102) hx hb d_Mo_magic_29 (by decide) ?_
        exact k_Mo_magic_31 C0 hST hK hE hf (lv_sub hl [] rfl)
      · have hf := it_t c_3 hf
        refine lv_bipush (v := 105) hx hb d_Mo_magic_24 (by decide) ?_
        refine lv_goto (tgt := 31) hx hb d_Mo_magic_26 (by decide) ?_
        exact k_Mo_magic_31 C0 hST hK hE hf (lv_sub hl [] rfl)
    · have hf := it_t c_2 hf
      refine lv_bipush (v := 90) hx hb d_Mo_magic_14 (by decide) ?_
      refine lv_goto (tgt := 31) hx hb d_Mo_magic_16 (by decide) ?_
      exact k_Mo_magic_31 C0 hST hK hE hf (lv_sub hl [] rfl)
  · have hf := it_t c_1 hf
    refine lv_bipush (v := 84) hx hb d_Mo_magic_4 (by decide) ?_
    refine lv_goto (tgt := 31) hx hb d_Mo_magic_6 (by decide) ?_
    exact k_Mo_magic_31 C0 hST hK hE hf (lv_sub hl [] rfl)
end
set_option maxHeartbeats 400000 in
set_option maxRecDepth 100000 in
theorem c_Mo_magic (l : Launch) (dC : Nat → ClassId) (dI : Nat → Nat → Nat) (nf : Nat) (p0 : Int32) {r0 : Int32} (hf : f_Mo_magic nf p0 = some r0) : Met l y_Mo_magic (wd y_Mo_magic b_Mo_magic 1 (some .int)) ({ frames := 0, cells := 0, slots := 0, locals := 0 }) (RO dC dI [] [] [.int p0]) (SV (some (.int r0))) 0 0 (fun _ => False) :=
  met_S (plainFor_of_name (by decide)) (Nat.le_of_ble_eq_true rfl) (fun p e R s m args below meth c ls C0 hST hK hP hl => by
    obtain ⟨hx, hb, hr, hml, hown, hts, hlocks, hRf, hRl⟩ := id C0
    unfold f_Mo_magic at hf
    exact k_Mo_magic_0 C0 hST hK (fun pc ls hd hn => W.zret hx hb hr hn (fun t ht hW => ⟨rfl, ht⟩) (fun q h => by cases h) hd) hf (lv_sub hl [0] rfl))
-- ZoneFilesModel.header(Z)Z
def f_Mo_header_306 (nf : Nat) (K191 : Int32 → (Nat → Int32) → (Nat → Int64) → (Nat → Nat → Int32) → (Nat → Nat → Int64) → Option (Int32 × (Nat → Int32) × (Nat → Int64) × (Nat → Nat → Int32) × (Nat → Nat → Int64))) (x2 : Int32) (s0 : Int32) (si : Nat → Int32) (sj : Nat → Int64) (sa : Nat → Nat → Int32) (sb : Nat → Nat → Int64) : Option (Int32 × (Nat → Int32) × (Nat → Int64) × (Nat → Nat → Int32) × (Nat → Nat → Int64)) :=
  if s0 = 0 then
  (f_Mo_faulty nf 4 (((si 32) + 20) + (4 * x2)) si sj sa sb).bind fun (z_16, i_12, j_13, a_14, b_15) =>
    if z_16 = 0 ∨ z_16 = 1 then some (z_16, i_12, j_13, a_14, b_15) else none
  else
  K191 (x2 + 1) si sj sa sb
def f_Mo_header_305 (nf : Nat) (K191 : Int32 → (Nat → Int32) → (Nat → Int64) → (Nat → Nat → Int32) → (Nat → Nat → Int64) → Option (Int32 × (Nat → Int32) × (Nat → Int64) × (Nat → Nat → Int32) × (Nat → Nat → Int64))) (x2 : Int32) (si : Nat → Int32) (sj : Nat → Int64) (sa : Nat → Nat → Int32) (sb : Nat → Nat → Int64) : Option (Int32 × (Nat → Int32) × (Nat → Int64) × (Nat → Nat → Int32) × (Nat → Nat → Int64)) :=
  f_Mo_header_306 nf K191 x2 0 si sj sa sb
def f_Mo_header_297 (nf : Nat) (K191 : Int32 → (Nat → Int32) → (Nat → Int64) → (Nat → Nat → Int32) → (Nat → Nat → Int64) → Option (Int32 × (Nat → Int32) × (Nat → Int64) × (Nat → Nat → Int32) × (Nat → Nat → Int64))) (x2 : Int32) (s0 : Int64) (s1 : Int64) (si : Nat → Int32) (sj : Nat → Int64) (sa : Nat → Nat → Int32) (sb : Nat → Nat → Int64) : Option (Int32 × (Nat → Int32) × (Nat → Int64) × (Nat → Nat → Int32) × (Nat → Nat → Int64)) :=
  if s0 < s1 then
  f_Mo_header_305 nf K191 x2 si sj sa sb
  else
  f_Mo_header_306 nf K191 x2 1 si sj sa sb
def f_Mo_header_226 (nf : Nat) (K191 : Int32 → (Nat → Int32) → (Nat → Int64) → (Nat → Nat → Int32) → (Nat → Nat → Int64) → Option (Int32 × (Nat → Int32) × (Nat → Int64) × (Nat → Nat → Int32) × (Nat → Nat → Int64))) (x2 : Int32) (si : Nat → Int32) (sj : Nat → Int64) (sa : Nat → Nat → Int32) (sb : Nat → Nat → Int64) : Option (Int32 × (Nat → Int32) × (Nat → Int64) × (Nat → Nat → Int32) × (Nat → Nat → Int64)) :=
  f_Mo_header_306 nf K191 x2 1 si sj sa sb
def f_Mo_header_191 (nf : Nat) : Nat → Int32 → (Nat → Int32) → (Nat → Int64) → (Nat → Nat → Int32) → (Nat → Nat → Int64) → Option (Int32 × (Nat → Int32) × (Nat → Int64) × (Nat → Nat → Int32) × (Nat → Nat → Int64))
  | 0, _, _, _, _, _ => none
  | n + 1, x2, si, sj, sa, sb =>
    if (6 : Int32) ≤ x2 then
    some (1, va_up si 32 ((si 32) + 44), sj, sa, sb)
    else
    if x2 < 0 ∨ 6 ≤ x2.toNatClampNeg then none else
      if (2 : Int32) ≤ x2 then
      if x2 = (2 : Int32) then
        if (40 : Int64) < (sb 37 x2.toNatClampNeg) then
          f_Mo_header_306 nf (f_Mo_header_191 nf n) x2 0 si sj sa sb
          else
          f_Mo_header_306 nf (f_Mo_header_191 nf n) x2 1 si sj sa sb
        else
        if x2 = (3 : Int32) then
          if (200 : Int64) < (sb 37 x2.toNatClampNeg) then
            f_Mo_header_306 nf (f_Mo_header_191 nf n) x2 0 si sj sa sb
            else
            f_Mo_header_306 nf (f_Mo_header_191 nf n) x2 1 si sj sa sb
          else
          if (sb 37 x2.toNatClampNeg) < (1 : Int64) then
            f_Mo_header_305 nf (f_Mo_header_191 nf n) x2 si sj sa sb
            else
            if x2 = (4 : Int32) then
              f_Mo_header_297 nf (f_Mo_header_191 nf n) x2 40 (sb 37 x2.toNatClampNeg) si sj sa sb
              else
              f_Mo_header_297 nf (f_Mo_header_191 nf n) x2 200 (sb 37 x2.toNatClampNeg) si sj sa sb
      else
      if (sb 37 x2.toNatClampNeg) = (0 : Int64) then
        f_Mo_header_226 nf (f_Mo_header_191 nf n) x2 si sj sa sb
        else
        if (4 : Int32) < 0 ∨ 6 ≤ (4 : Int32).toNatClampNeg then none else
          if (sb 37 x2.toNatClampNeg) = (sb 37 (4 : Int32).toNatClampNeg) then
          f_Mo_header_226 nf (f_Mo_header_191 nf n) x2 si sj sa sb
          else
          f_Mo_header_306 nf (f_Mo_header_191 nf n) x2 0 si sj sa sb
def f_Mo_header_155 (nf : Nat) : Nat → Int32 → (Nat → Int32) → (Nat → Int64) → (Nat → Nat → Int32) → (Nat → Nat → Int64) → Option (Int32 × (Nat → Int32) × (Nat → Int64) × (Nat → Nat → Int32) × (Nat → Nat → Int64))
  | 0, _, _, _, _, _ => none
  | n + 1, x2, si, sj, sa, sb =>
    if (6 : Int32) ≤ x2 then
    f_Mo_header_191 nf nf 0 si sj sa sb
    else
    (f_Mo_unsigned nf (((si 32) + 20) + (4 * x2)) 4 si sj sa sb).bind fun r_25 =>
      if x2 < 0 ∨ 6 ≤ x2.toNatClampNeg then none else
      f_Mo_header_155 nf n (x2 + 1) si sj sa (va_up sb 37 (vp_updL (sb 37) x2.toNatClampNeg r_25))
def f_Mo_header_129 (nf : Nat) (si : Nat → Int32) (sj : Nat → Int64) (sa : Nat → Nat → Int32) (sb : Nat → Nat → Int64) : Option (Int32 × (Nat → Int32) × (Nat → Int64) × (Nat → Nat → Int32) × (Nat → Nat → Int64)) :=
  if ((si 32) + 44) ≤ (si 1) then
  f_Mo_header_155 nf nf 0 si sj sa sb
  else
  (f_Mo_faulty nf 1 (si 1) si sj sa sb).bind fun (z_31, i_27, j_28, a_29, b_30) =>
    if z_31 = 0 ∨ z_31 = 1 then some (z_31, i_27, j_28, a_29, b_30) else none
def f_Mo_header_124 (nf : Nat) (x2 : Int32) (si : Nat → Int32) (sj : Nat → Int64) (sa : Nat → Nat → Int32) (sb : Nat → Nat → Int64) : Option (Int32 × (Nat → Int32) × (Nat → Int64) × (Nat → Nat → Int32) × (Nat → Nat → Int64)) :=
  f_Mo_header_129 nf (va_up si 38 x2) sj sa sb
def f_Mo_header_112 (nf : Nat) (si : Nat → Int32) (sj : Nat → Int64) (sa : Nat → Nat → Int32) (sb : Nat → Nat → Int64) : Option (Int32 × (Nat → Int32) × (Nat → Int64) × (Nat → Nat → Int32) × (Nat → Nat → Int64)) :=
  (f_Mo_faulty nf 3 ((si 32) + 4) si sj sa sb).bind fun (z_42, i_38, j_39, a_40, b_41) =>
  if z_42 = 0 ∨ z_42 = 1 then some (z_42, i_38, j_39, a_40, b_41) else none
def f_Mo_header_50 (nf : Nat) (K2 : Int32 → Int32 → (Nat → Int32) → (Nat → Int64) → (Nat → Nat → Int32) → (Nat → Nat → Int64) → Option (Int32 × (Nat → Int32) × (Nat → Int64) × (Nat → Nat → Int32) × (Nat → Nat → Int64))) (x2 : Int32) (x1 : Int32) (si : Nat → Int32) (sj : Nat → Int64) (sa : Nat → Nat → Int32) (sb : Nat → Nat → Int64) : Option (Int32 × (Nat → Int32) × (Nat → Int64) × (Nat → Nat → Int32) × (Nat → Nat → Int64)) :=
  K2 (x2 + 1) x1 si sj sa sb
def f_Mo_header_2 (nf : Nat) : Nat → Int32 → Int32 → (Nat → Int32) → (Nat → Int64) → (Nat → Nat → Int32) → (Nat → Nat → Int64) → Option (Int32 × (Nat → Int32) × (Nat → Int64) × (Nat → Nat → Int32) × (Nat → Nat → Int64))
  | 0, _, _, _, _, _, _ => none
  | n + 1, x2, x1, si, sj, sa, sb =>
    if (4 : Int32) ≤ x2 then
    if (si 1) ≤ ((si 32) + 4) then
      f_Mo_header_129 nf si sj sa sb
      else
      if ((si 32) + 4) < 0 ∨ 6000 ≤ ((si 32) + 4).toNatClampNeg then none else
        if x1 = 0 then
        if (sa 0 ((si 32) + 4).toNatClampNeg) = 0 then
          f_Mo_header_124 nf (sa 0 ((si 32) + 4).toNatClampNeg) si sj sa sb
          else
          if (sa 0 ((si 32) + 4).toNatClampNeg) = (50 : Int32) then
            f_Mo_header_124 nf (sa 0 ((si 32) + 4).toNatClampNeg) si sj sa sb
            else
            if (sa 0 ((si 32) + 4).toNatClampNeg) = (51 : Int32) then
              f_Mo_header_124 nf (sa 0 ((si 32) + 4).toNatClampNeg) si sj sa sb
              else
              f_Mo_header_112 nf si sj sa sb
        else
        if (sa 0 ((si 32) + 4).toNatClampNeg) = (si 38) then
          f_Mo_header_124 nf (sa 0 ((si 32) + 4).toNatClampNeg) si sj sa sb
          else
          f_Mo_header_112 nf si sj sa sb
    else
    if (si 1) ≤ ((si 32) + x2) then
      f_Mo_header_50 nf (f_Mo_header_2 nf n) x2 x1 si sj sa sb
      else
      if ((si 32) + x2) < 0 ∨ 6000 ≤ ((si 32) + x2).toNatClampNeg then none else
        (f_Mo_magic nf x2).bind fun r_47 =>
        if (sa 0 ((si 32) + x2).toNatClampNeg) = r_47 then
        f_Mo_header_50 nf (f_Mo_header_2 nf n) x2 x1 si sj sa sb
        else
        (f_Mo_faulty nf 2 ((si 32) + x2) si sj sa sb).bind fun (z_53, i_49, j_50, a_51, b_52) =>
          if z_53 = 0 ∨ z_53 = 1 then some (z_53, i_49, j_50, a_51, b_52) else none
def f_Mo_header_0 (nf : Nat) (x1 : Int32) (si : Nat → Int32) (sj : Nat → Int64) (sa : Nat → Nat → Int32) (sb : Nat → Nat → Int64) : Option (Int32 × (Nat → Int32) × (Nat → Int64) × (Nat → Nat → Int32) × (Nat → Nat → Int64)) :=
  f_Mo_header_2 nf nf 0 x1 si sj sa sb
def f_Mo_header (nf : Nat) (p0 : Int32) (si : Nat → Int32) (sj : Nat → Int64) (sa : Nat → Nat → Int32) (sb : Nat → Nat → Int64) : Option (Int32 × (Nat → Int32) × (Nat → Int64) × (Nat → Nat → Int32) × (Nat → Nat → Int64)) :=
  f_Mo_header_0 nf p0 si sj sa sb
section
variable {p : Program} {l : Launch} {e : Env} {R : Room} {s : State} {m : MethodId} {args : Array Value} {below : List Frame} {meth : Method} {c : Code} {Q : State → Prop} {dC : Nat → ClassId} {dI : Nat → Nat → Nat} {nf : Nat} {A : Nat → Prop} {h0 : Nat} {r : Nat → Nat} {cA : Nat → ClassId}
variable {r0 : Int32} {vi : Nat → Int32} {vj : Nat → Int64} {va : Nat → Nat → Int32} {vb : Nat → Nat → Int64}
set_option maxHeartbeats 400000 in
set_option maxRecDepth 100000 in
theorem k_Mo_header_306 (C0 : Cx p s m meth c args R b_Mo_header "ZoneFilesModel" 6 (some .boolean) 1 25) (hST : ST A s s.heap) (hA : ∀ q, s.heap.size ≤ q → A q) (hK : va_K (dC, dI) classes (moT cA) s) (hE : ∀ (pc : Nat) (ls : Array Slot) (H : Heap) (locs : List Loc), decode b_Mo_header pc = .ok (.ireturn, 1) → narrow .boolean (.int r0) = .int r0 → va_P (dC, dI) classes (moW h0 r cA vi vj va vb) H → va_D A (moW h0 r cA vi vj va vb) → va_S A s.heap H locs → W p l e R s m args below meth c H locs 0 0 Q (F0 m pc ls [.int r0])) {K191 : Int32 → (Nat → Int32) → (Nat → Int64) → (Nat → Nat → Int32) → (Nat → Nat → Int64) → Option (Int32 × (Nat → Int32) × (Nat → Int64) × (Nat → Nat → Int32) × (Nat → Nat → Int64))} (hK191 : ∀ {x2 : Int32} {si : Nat → Int32} {sj : Nat → Int64} {sa : Nat → Nat → Int32} {sb : Nat → Nat → Int64}, K191 x2 si sj sa sb = some (r0, vi, vj, va, vb) → ∀ {H : Heap} {locs : List Loc} {ls : Array Slot}, va_P (dC, dI) classes (moW h0 r cA si sj sa sb) H → va_D A (moW h0 r cA si sj sa sb) → va_S A s.heap H locs → lv_has ls 6 [(2, .int x2), (0, .ref h0)] → W p l e R s m args below meth c H locs 0 0 Q (F0 m 191 ls [])) {x2 : Int32} {s0 : Int32} {si : Nat → Int32} {sj : Nat → Int64} {sa : Nat → Nat → Int32} {sb : Nat → Nat → Int64} (hf : f_Mo_header_306 nf K191 x2 s0 si sj sa sb = some (r0, vi, vj, va, vb)) {H : Heap} {locs : List Loc} {ls : Array Slot} (hP : va_P (dC, dI) classes (moW h0 r cA si sj sa sb) H) (hD : va_D A (moW h0 r cA si sj sa sb)) (hS : va_S A s.heap H locs) (hl : lv_has ls 6 [(2, .int x2), (0, .ref h0)]) : W p l e R s m args below meth c H locs 0 0 Q (F0 m 306 ls [.int s0]) := by
  obtain ⟨hx, hb, hr, hml, hown, hts, hlocks, hRf, hRl⟩ := id C0
  unfold f_Mo_header_306 at hf
  refine lv_istore (lv' := [(5, .int s0), (2, .int x2), (0, .ref h0)]) hx hb d_Mo_header_306 hl (by decide) rfl (fun ls hl => ?_)
  refine lv_iload hx hb d_Mo_header_308 (lv_at hl 0 rfl) ?_
  refine lv_if_ne (tgt := 330) hx hb d_Mo_header_310 (by decide) (fun c_11 => ?_) (fun c_11 => ?_)
  · have hf := it_f c_11 hf
    refine lv_iinc (v := x2 + 1) (lv' := [(2, .int (x2 + 1)), (5, .int s0), (0, .ref h0)]) hx hb d_Mo_header_330 hl (k := 1) rfl rfl (by decide) rfl (fun ls hl => ?_)
    refine lv_goto (tgt := 191) hx hb d_Mo_header_333 (by decide) ?_
    exact hK191 hf hP hD hS (lv_sub hl [0, 2] rfl)
  · have hf := it_t c_11 hf
    refine lv_aload_n hx hb d_Mo_header_313 rfl (lv_at hl 2 rfl) ?_
    refine lv_iconst (v := 4) hx hb d_Mo_header_314 (by decide) ?_
    refine lv_aload_n hx hb d_Mo_header_315 rfl (lv_at hl 2 rfl) ?_
    refine mg_32 (v := si 32) hx hb hts hown hK hP rfl d_Mo_header_316 ?_
    refine lv_bipush (v := 20) hx hb d_Mo_header_319 (by decide) ?_
    refine lv_iadd hx hb d_Mo_header_321 ?_
    refine lv_iconst (v := 4) hx hb d_Mo_header_322 (by decide) ?_
    refine lv_iload_n hx hb d_Mo_header_323 rfl (lv_at hl 1 rfl) ?_
    refine lv_imul hx hb d_Mo_header_324 ?_
    refine lv_iadd hx hb d_Mo_header_325 ?_
    obtain ⟨⟨z_16, i_12, j_13, a_14, b_15⟩, hc, hf⟩ := ob hf
    have hFc := mo_free hD hS hA
    refine cl_M (v := (some (.int z_16))) (st1 := [.int z_16]) (va_runV (As := [.int 4, .int (((si 32) + 20) + (4 * x2))]) (rest := []) ⟨hx, hb, hml, hown, hts⟩ (c_Mo_faulty l dC dI h0 r cA H.size nf 4 (((si 32) + 20) + (4 * x2)) si sj sa sb hc) (cwV 2 hts (gdV m_7_133 m_7_135 msel_60 m_1_10 m_7_136) rfl rfl rfl (by decide +kernel) ⟨Nat.le_trans (Nat.le_of_ble_eq_true rfl) hRf, Nat.le_trans (Nat.le_of_ble_eq_true rfl) hRl⟩) ((MU.pre hP hK hD (hST.mu hS hFc)).vir (va_recv hK hP (ci := 10) (q0 := 0) rfl rfl)) rfl rfl hl.1 rfl (lv_room (Nat.le_of_ble_eq_true rfl)) d_Mo_header_326 ⟨Nat.zero_le _, Nat.zero_le _⟩) rfl hS (fun q _ h => hFc q h) hFc (fun t H1 locs ht hvm hB hz1 hk1 hS => ?_)
    obtain ⟨hP, hD⟩ := mo_back ht hD hB
    generalize H1 = H at hP hS ⊢
    obtain ⟨c_17, hf⟩ := it_g hf
    cases rs hf
    exact hE _ _ _ _ d_Mo_header_329 (nb_of c_17) hP hD hS
set_option maxHeartbeats 400000 in
set_option maxRecDepth 100000 in
theorem k_Mo_header_305 (C0 : Cx p s m meth c args R b_Mo_header "ZoneFilesModel" 6 (some .boolean) 1 25) (hST : ST A s s.heap) (hA : ∀ q, s.heap.size ≤ q → A q) (hK : va_K (dC, dI) classes (moT cA) s) (hE : ∀ (pc : Nat) (ls : Array Slot) (H : Heap) (locs : List Loc), decode b_Mo_header pc = .ok (.ireturn, 1) → narrow .boolean (.int r0) = .int r0 → va_P (dC, dI) classes (moW h0 r cA vi vj va vb) H → va_D A (moW h0 r cA vi vj va vb) → va_S A s.heap H locs → W p l e R s m args below meth c H locs 0 0 Q (F0 m pc ls [.int r0])) {K191 : Int32 → (Nat → Int32) → (Nat → Int64) → (Nat → Nat → Int32) → (Nat → Nat → Int64) → Option (Int32 × (Nat → Int32) × (Nat → Int64) × (Nat → Nat → Int32) × (Nat → Nat → Int64))} (hK191 : ∀ {x2 : Int32} {si : Nat → Int32} {sj : Nat → Int64} {sa : Nat → Nat → Int32} {sb : Nat → Nat → Int64}, K191 x2 si sj sa sb = some (r0, vi, vj, va, vb) → ∀ {H : Heap} {locs : List Loc} {ls : Array Slot}, va_P (dC, dI) classes (moW h0 r cA si sj sa sb) H → va_D A (moW h0 r cA si sj sa sb) → va_S A s.heap H locs → lv_has ls 6 [(2, .int x2), (0, .ref h0)] → W p l e R s m args below meth c H locs 0 0 Q (F0 m 191 ls [])) {x2 : Int32} {si : Nat → Int32} {sj : Nat → Int64} {sa : Nat → Nat → Int32} {sb : Nat → Nat → Int64} (hf : f_Mo_header_305 nf K191 x2 si sj sa sb = some (r0, vi, vj, va, vb)) {H : Heap} {locs : List Loc} {ls : Array Slot} (hP : va_P (dC, dI) classes (moW h0 r cA si sj sa sb) H) (hD : va_D A (moW h0 r cA si sj sa sb)) (hS : va_S A s.heap H locs) (hl : lv_has ls 6 [(2, .int x2), (0, .ref h0)]) : W p l e R s m args below meth c H locs 0 0 Q (F0 m 305 ls []) := by
  obtain ⟨hx, hb, hr, hml, hown, hts, hlocks, hRf, hRl⟩ := id C0
  unfold f_Mo_header_305 at hf
  refine lv_iconst (v := 0) hx hb d_Mo_header_305 (by decide) ?_
  exact k_Mo_header_306 C0 hST hA hK hE hK191 hf hP hD hS (lv_sub hl [0, 1] rfl)
set_option maxHeartbeats 400000 in
set_option maxRecDepth 100000 in
theorem k_Mo_header_297 (C0 : Cx p s m meth c args R b_Mo_header "ZoneFilesModel" 6 (some .boolean) 1 25) (hST : ST A s s.heap) (hA : ∀ q, s.heap.size ≤ q → A q) (hK : va_K (dC, dI) classes (moT cA) s) (hE : ∀ (pc : Nat) (ls : Array Slot) (H : Heap) (locs : List Loc), decode b_Mo_header pc = .ok (.ireturn, 1) → narrow .boolean (.int r0) = .int r0 → va_P (dC, dI) classes (moW h0 r cA vi vj va vb) H → va_D A (moW h0 r cA vi vj va vb) → va_S A s.heap H locs → W p l e R s m args below meth c H locs 0 0 Q (F0 m pc ls [.int r0])) {K191 : Int32 → (Nat → Int32) → (Nat → Int64) → (Nat → Nat → Int32) → (Nat → Nat → Int64) → Option (Int32 × (Nat → Int32) × (Nat → Int64) × (Nat → Nat → Int32) × (Nat → Nat → Int64))} (hK191 : ∀ {x2 : Int32} {si : Nat → Int32} {sj : Nat → Int64} {sa : Nat → Nat → Int32} {sb : Nat → Nat → Int64}, K191 x2 si sj sa sb = some (r0, vi, vj, va, vb) → ∀ {H : Heap} {locs : List Loc} {ls : Array Slot}, va_P (dC, dI) classes (moW h0 r cA si sj sa sb) H → va_D A (moW h0 r cA si sj sa sb) → va_S A s.heap H locs → lv_has ls 6 [(2, .int x2), (0, .ref h0)] → W p l e R s m args below meth c H locs 0 0 Q (F0 m 191 ls [])) {x2 : Int32} {s0 : Int64} {s1 : Int64} {si : Nat → Int32} {sj : Nat → Int64} {sa : Nat → Nat → Int32} {sb : Nat → Nat → Int64} (hf : f_Mo_header_297 nf K191 x2 s0 s1 si sj sa sb = some (r0, vi, vj, va, vb)) {H : Heap} {locs : List Loc} {ls : Array Slot} (hP : va_P (dC, dI) classes (moW h0 r cA si sj sa sb) H) (hD : va_D A (moW h0 r cA si sj sa sb)) (hS : va_S A s.heap H locs) (hl : lv_has ls 6 [(2, .int x2), (0, .ref h0)]) : W p l e R s m args below meth c H locs 0 0 Q (F0 m 297 ls [.long s0, .long s1]) := by
  obtain ⟨hx, hb, hr, hml, hown, hts, hlocks, hRf, hRl⟩ := id C0
  unfold f_Mo_header_297 at hf
  refine lc_gt (tgt := 305) hx hb d_Mo_header_297 d_Mo_header_298 (by decide) (fun c_19 => ?_) (fun c_19 => ?_)
  · have hf := it_t c_19 hf
    exact k_Mo_header_305 C0 hST hA hK hE hK191 hf hP hD hS (lv_sub hl [0, 1] rfl)
  · have hf := it_f c_19 hf
    refine lv_iconst (v := 1) hx hb d_Mo_header_301 (by decide) ?_
    refine lv_goto (tgt := 306) hx hb d_Mo_header_302 (by decide) ?_
    exact k_Mo_header_306 C0 hST hA hK hE hK191 hf hP hD hS (lv_sub hl [0, 1] rfl)
set_option maxHeartbeats 400000 in
set_option maxRecDepth 100000 in
theorem k_Mo_header_226 (C0 : Cx p s m meth c args R b_Mo_header "ZoneFilesModel" 6 (some .boolean) 1 25) (hST : ST A s s.heap) (hA : ∀ q, s.heap.size ≤ q → A q) (hK : va_K (dC, dI) classes (moT cA) s) (hE : ∀ (pc : Nat) (ls : Array Slot) (H : Heap) (locs : List Loc), decode b_Mo_header pc = .ok (.ireturn, 1) → narrow .boolean (.int r0) = .int r0 → va_P (dC, dI) classes (moW h0 r cA vi vj va vb) H → va_D A (moW h0 r cA vi vj va vb) → va_S A s.heap H locs → W p l e R s m args below meth c H locs 0 0 Q (F0 m pc ls [.int r0])) {K191 : Int32 → (Nat → Int32) → (Nat → Int64) → (Nat → Nat → Int32) → (Nat → Nat → Int64) → Option (Int32 × (Nat → Int32) × (Nat → Int64) × (Nat → Nat → Int32) × (Nat → Nat → Int64))} (hK191 : ∀ {x2 : Int32} {si : Nat → Int32} {sj : Nat → Int64} {sa : Nat → Nat → Int32} {sb : Nat → Nat → Int64}, K191 x2 si sj sa sb = some (r0, vi, vj, va, vb) → ∀ {H : Heap} {locs : List Loc} {ls : Array Slot}, va_P (dC, dI) classes (moW h0 r cA si sj sa sb) H → va_D A (moW h0 r cA si sj sa sb) → va_S A s.heap H locs → lv_has ls 6 [(2, .int x2), (0, .ref h0)] → W p l e R s m args below meth c H locs 0 0 Q (F0 m 191 ls [])) {x2 : Int32} {si : Nat → Int32} {sj : Nat → Int64} {sa : Nat → Nat → Int32} {sb : Nat → Nat → Int64} (hf : f_Mo_header_226 nf K191 x2 si sj sa sb = some (r0, vi, vj, va, vb)) {H : Heap} {locs : List Loc} {ls : Array Slot} (hP : va_P (dC, dI) classes (moW h0 r cA si sj sa sb) H) (hD : va_D A (moW h0 r cA si sj sa sb)) (hS : va_S A s.heap H locs) (hl : lv_has ls 6 [(2, .int x2), (0, .ref h0)]) : W p l e R s m args below meth c H locs 0 0 Q (F0 m 226 ls []) := by
  obtain ⟨hx, hb, hr, hml, hown, hts, hlocks, hRf, hRl⟩ := id C0
  unfold f_Mo_header_226 at hf
  refine lv_iconst (v := 1) hx hb d_Mo_header_226 (by decide) ?_
  refine lv_goto (tgt := 306) hx hb d_Mo_header_227 (by decide) ?_
  exact k_Mo_header_306 C0 hST hA hK hE hK191 hf hP hD hS (lv_sub hl [0, 1] rfl)
set_option maxHeartbeats 400000 in
set_option maxRecDepth 100000 in
theorem k_Mo_header_191 (C0 : Cx p s m meth c args R b_Mo_header "ZoneFilesModel" 6 (some .boolean) 1 25) (hST : ST A s s.heap) (hA : ∀ q, s.heap.size ≤ q → A q) (hK : va_K (dC, dI) classes (moT cA) s) (hE : ∀ (pc : Nat) (ls : Array Slot) (H : Heap) (locs : List Loc), decode b_Mo_header pc = .ok (.ireturn, 1) → narrow .boolean (.int r0) = .int r0 → va_P (dC, dI) classes (moW h0 r cA vi vj va vb) H → va_D A (moW h0 r cA vi vj va vb) → va_S A s.heap H locs → W p l e R s m args below meth c H locs 0 0 Q (F0 m pc ls [.int r0])) : ∀ (n : Nat) {x2 : Int32} {si : Nat → Int32} {sj : Nat → Int64} {sa : Nat → Nat → Int32} {sb : Nat → Nat → Int64}, f_Mo_header_191 nf n x2 si sj sa sb = some (r0, vi, vj, va, vb) → ∀ {H : Heap} {locs : List Loc} {ls : Array Slot}, va_P (dC, dI) classes (moW h0 r cA si sj sa sb) H → va_D A (moW h0 r cA si sj sa sb) → va_S A s.heap H locs → lv_has ls 6 [(2, .int x2), (0, .ref h0)] → W p l e R s m args below meth c H locs 0 0 Q (F0 m 191 ls []) := by
  obtain ⟨hx, hb, hr, hml, hown, hts, hlocks, hRf, hRl⟩ := id C0
  intro n
  induction n with
  | zero =>
    intro x2 si sj sa sb hf
    exact absurd hf (by simp [f_Mo_header_191])
  | succ n ih =>
    intro x2 si sj sa sb hf H locs ls hP hD hS hl
    unfold f_Mo_header_191 at hf
    refine lv_iload_n hx hb d_Mo_header_191 rfl (lv_at hl 0 rfl) ?_
    refine lv_bipush (v := 6) hx hb d_Mo_header_192 (by decide) ?_
    refine lv_icmp_ge (tgt := 336) hx hb d_Mo_header_194 (by decide) (fun c_5 => ?_) (fun c_5 => ?_)
    · have hf := it_t c_5 hf
      refine lv_aload_n hx hb d_Mo_header_336 rfl (lv_at hl 1 rfl) ?_
      refine lv_dup hx hb d_Mo_header_337 rfl ?_
      refine mg_32 (v := si 32) hx hb hts hown hK hP rfl d_Mo_header_338 ?_
      refine lv_bipush (v := 44) hx hb d_Mo_header_341 (by decide) ?_
      refine lv_iadd hx hb d_Mo_header_343 ?_
      refine mp_32 hx hb hts hown hK hP hD hS d_Mo_header_344 (fun H locs hP hD hS => ?_)
      refine lv_iconst (v := 1) hx hb d_Mo_header_347 (by decide) ?_
      cases rs hf
      exact hE _ _ _ _ d_Mo_header_348 rfl hP hD hS
    · have hf := it_f c_5 hf
      refine lv_aload_n hx hb d_Mo_header_197 rfl (lv_at hl 1 rfl) ?_
      refine mg_37 hx hb hts hown hK hP d_Mo_header_198 ?_
      refine lv_iload_n hx hb d_Mo_header_201 rfl (lv_at hl 0 rfl) ?_
      obtain ⟨c_6, hf⟩ := it_n hf
      refine ma_37 (v := sb 37 x2.toNatClampNeg) hx hb hK hP c_6 rfl d_Mo_header_202 ?_
      refine lv_lstore_n (lv' := [(3, .long (sb 37 x2.toNatClampNeg)), (2, .int x2), (0, .ref h0)]) hx hb d_Mo_header_203 rfl hl (by decide) rfl (fun ls hl => ?_)
      refine lv_iload_n hx hb d_Mo_header_204 rfl (lv_at hl 1 rfl) ?_
      refine lv_iconst (v := 2) hx hb d_Mo_header_205 (by decide) ?_
      refine lv_icmp_ge (tgt := 234) hx hb d_Mo_header_206 (by decide) (fun c_7 => ?_) (fun c_7 => ?_)
      · have hf := it_t c_7 hf
        refine lv_iload_n hx hb d_Mo_header_234 rfl (lv_at hl 1 rfl) ?_
        refine lv_iconst (v := 2) hx hb d_Mo_header_235 (by decide) ?_
        refine lv_icmp_ne (tgt := 255) hx hb d_Mo_header_236 (by decide) (fun c_8 => ?_) (fun c_8 => ?_)
        · have hf := it_f c_8 hf
          refine lv_iload_n hx hb d_Mo_header_255 rfl (lv_at hl 1 rfl) ?_
          refine lv_iconst (v := 3) hx hb d_Mo_header_256 (by decide) ?_
          refine lv_icmp_ne (tgt := 276) hx hb d_Mo_header_257 (by decide) (fun c_9 => ?_) (fun c_9 => ?_)
          · have hf := it_f c_9 hf
            refine lv_lload_n hx hb d_Mo_header_276 rfl (lv_at hl 0 rfl) ?_
            refine lv_lconst (v := 1) hx hb d_Mo_header_277 (by decide) ?_
            refine lc_lt (tgt := 305) hx hb d_Mo_header_278 d_Mo_header_279 (by decide) (fun c_10 => ?_) (fun c_10 => ?_)
            · have hf := it_t c_10 hf
              exact k_Mo_header_305 C0 hST hA hK hE (fun hf => ih hf) hf hP hD hS (lv_sub hl [1, 2] rfl)
            · have hf := it_f c_10 hf
              refine lv_lload_n hx hb d_Mo_header_282 rfl (lv_at hl 0 rfl) ?_
              refine lv_iload_n hx hb d_Mo_header_283 rfl (lv_at hl 1 rfl) ?_
              refine lv_iconst (v := 4) hx hb d_Mo_header_284 (by decide) ?_
              refine lv_icmp_ne (tgt := 294) hx hb d_Mo_header_285 (by decide) (fun c_18 => ?_) (fun c_18 => ?_)
              · have hf := it_f c_18 hf
                refine lv_ldc2 (v := 200) hx hb hown (hts (.constantLong "ZoneFilesModel" 226 200) m_7_142) d_Mo_header_294 ?_
                exact k_Mo_header_297 C0 hST hA hK hE (fun hf => ih hf) hf hP hD hS (lv_sub hl [1, 2] rfl)
              · have hf := it_t c_18 hf
                refine lv_ldc2 (v := 40) hx hb hown (hts (.constantLong "ZoneFilesModel" 224 40) m_7_141) d_Mo_header_288 ?_
                refine lv_goto (tgt := 297) hx hb d_Mo_header_291 (by decide) ?_
                exact k_Mo_header_297 C0 hST hA hK hE (fun hf => ih hf) hf hP hD hS (lv_sub hl [1, 2] rfl)
          · have hf := it_t c_9 hf
            refine lv_lload_n hx hb d_Mo_header_260 rfl (lv_at hl 0 rfl) ?_
            refine lv_ldc2 (v := 200) hx hb hown (hts (.constantLong "ZoneFilesModel" 226 200) m_7_142) d_Mo_header_261 ?_
            refine lc_gt (tgt := 272) hx hb d_Mo_header_264 d_Mo_header_265 (by decide) (fun c_20 => ?_) (fun c_20 => ?_)
            · have hf := it_t c_20 hf
              refine lv_iconst (v := 0) hx hb d_Mo_header_272 (by decide) ?_
              refine lv_goto (tgt := 306) hx hb d_Mo_header_273 (by decide) ?_
              exact k_Mo_header_306 C0 hST hA hK hE (fun hf => ih hf) hf hP hD hS (lv_sub hl [1, 2] rfl)
            · have hf := it_f c_20 hf
              refine lv_iconst (v := 1) hx hb d_Mo_header_268 (by decide) ?_
              refine lv_goto (tgt := 306) hx hb d_Mo_header_269 (by decide) ?_
              exact k_Mo_header_306 C0 hST hA hK hE (fun hf => ih hf) hf hP hD hS (lv_sub hl [1, 2] rfl)
        · have hf := it_t c_8 hf
          refine lv_lload_n hx hb d_Mo_header_239 rfl (lv_at hl 0 rfl) ?_
          refine lv_ldc2 (v := 40) hx hb hown (hts (.constantLong "ZoneFilesModel" 224 40) m_7_141) d_Mo_header_240 ?_
          refine lc_gt (tgt := 251) hx hb d_Mo_header_243 d_Mo_header_244 (by decide) (fun c_21 => ?_) (fun c_21 => ?_)
          · have hf := it_t c_21 hf
            refine lv_iconst (v := 0) hx hb d_Mo_header_251 (by decide) ?_
            refine lv_goto (tgt := 306) hx hb d_Mo_header_252 (by decide) ?_
            exact k_Mo_header_306 C0 hST hA hK hE (fun hf => ih hf) hf hP hD hS (lv_sub hl [1, 2] rfl)
          · have hf := it_f c_21 hf
            refine lv_iconst (v := 1) hx hb d_Mo_header_247 (by decide) ?_
            refine lv_goto (tgt := 306) hx hb d_Mo_header_248 (by decide) ?_
            exact k_Mo_header_306 C0 hST hA hK hE (fun hf => ih hf) hf hP hD hS (lv_sub hl [1, 2] rfl)
      · have hf := it_f c_7 hf
        refine lv_lload_n hx hb d_Mo_header_209 rfl (lv_at hl 0 rfl) ?_
        refine lv_lconst (v := 0) hx hb d_Mo_header_210 (by decide) ?_
        refine lc_eq (tgt := 226) hx hb d_Mo_header_211 d_Mo_header_212 (by decide) (fun c_22 => ?_) (fun c_22 => ?_)
        · have hf := it_t c_22 hf
          exact k_Mo_header_226 C0 hST hA hK hE (fun hf => ih hf) hf hP hD hS (lv_sub hl [1, 2] rfl)
        · have hf := it_f c_22 hf
          refine lv_lload_n hx hb d_Mo_header_215 rfl (lv_at hl 0 rfl) ?_
          refine lv_aload_n hx hb d_Mo_header_216 rfl (lv_at hl 2 rfl) ?_
          refine mg_37 hx hb hts hown hK hP d_Mo_header_217 ?_
          refine lv_iconst (v := 4) hx hb d_Mo_header_220 (by decide) ?_
          obtain ⟨c_23, hf⟩ := it_n hf
          refine ma_37 (v := sb 37 (4 : Int32).toNatClampNeg) hx hb hK hP c_23 rfl d_Mo_header_221 ?_
          refine lc_ne (tgt := 230) hx hb d_Mo_header_222 d_Mo_header_223 (by decide) (fun c_24 => ?_) (fun c_24 => ?_)
          · have hf := it_f c_24 hf
            refine lv_iconst (v := 0) hx hb d_Mo_header_230 (by decide) ?_
            refine lv_goto (tgt := 306) hx hb d_Mo_header_231 (by decide) ?_
            exact k_Mo_header_306 C0 hST hA hK hE (fun hf => ih hf) hf hP hD hS (lv_sub hl [1, 2] rfl)
          · have hf := it_t c_24 hf
            exact k_Mo_header_226 C0 hST hA hK hE (fun hf => ih hf) hf hP hD hS (lv_sub hl [1, 2] rfl)
set_option maxHeartbeats 400000 in
set_option maxRecDepth 100000 in
theorem k_Mo_header_155 (C0 : Cx p s m meth c args R b_Mo_header "ZoneFilesModel" 6 (some .boolean) 1 25) (hST : ST A s s.heap) (hA : ∀ q, s.heap.size ≤ q → A q) (hK : va_K (dC, dI) classes (moT cA) s) (hE : ∀ (pc : Nat) (ls : Array Slot) (H : Heap) (locs : List Loc), decode b_Mo_header pc = .ok (.ireturn, 1) → narrow .boolean (.int r0) = .int r0 → va_P (dC, dI) classes (moW h0 r cA vi vj va vb) H → va_D A (moW h0 r cA vi vj va vb) → va_S A s.heap H locs → W p l e R s m args below meth c H locs 0 0 Q (F0 m pc ls [.int r0])) : ∀ (n : Nat) {x2 : Int32} {si : Nat → Int32} {sj : Nat → Int64} {sa : Nat → Nat → Int32} {sb : Nat → Nat → Int64}, f_Mo_header_155 nf n x2 si sj sa sb = some (r0, vi, vj, va, vb) → ∀ {H : Heap} {locs : List Loc} {ls : Array Slot}, va_P (dC, dI) classes (moW h0 r cA si sj sa sb) H → va_D A (moW h0 r cA si sj sa sb) → va_S A s.heap H locs → lv_has ls 6 [(2, .int x2), (0, .ref h0)] → W p l e R s m args below meth c H locs 0 0 Q (F0 m 155 ls []) := by
  obtain ⟨hx, hb, hr, hml, hown, hts, hlocks, hRf, hRl⟩ := id C0
  intro n
  induction n with
  | zero =>
    intro x2 si sj sa sb hf
    exact absurd hf (by simp [f_Mo_header_155])
  | succ n ih =>
    intro x2 si sj sa sb hf H locs ls hP hD hS hl
    unfold f_Mo_header_155 at hf
    refine lv_iload_n hx hb d_Mo_header_155 rfl (lv_at hl 0 rfl) ?_
    refine lv_bipush (v := 6) hx hb d_Mo_header_156 (by decide) ?_
    refine lv_icmp_ge (tgt := 189) hx hb d_Mo_header_158 (by decide) (fun c_4 => ?_) (fun c_4 => ?_)
    · have hf := it_t c_4 hf
      refine lv_iconst (v := 0) hx hb d_Mo_header_189 (by decide) ?_
      refine lv_istore_n (lv' := [(2, .int 0), (0, .ref h0)]) hx hb d_Mo_header_190 rfl hl (by decide) rfl (fun ls hl => ?_)
      exact k_Mo_header_191 C0 hST hA hK hE nf hf hP hD hS (lv_sub hl [0, 1] rfl)
    · have hf := it_f c_4 hf
      refine lv_aload_n hx hb d_Mo_header_161 rfl (lv_at hl 1 rfl) ?_
      refine mg_37 hx hb hts hown hK hP d_Mo_header_162 ?_
      refine lv_iload_n hx hb d_Mo_header_165 rfl (lv_at hl 0 rfl) ?_
      refine lv_aload_n hx hb d_Mo_header_166 rfl (lv_at hl 1 rfl) ?_
      refine lv_aload_n hx hb d_Mo_header_167 rfl (lv_at hl 1 rfl) ?_
      refine mg_32 (v := si 32) hx hb hts hown hK hP rfl d_Mo_header_168 ?_
      refine lv_bipush (v := 20) hx hb d_Mo_header_171 (by decide) ?_
      refine lv_iadd hx hb d_Mo_header_173 ?_
      refine lv_iconst (v := 4) hx hb d_Mo_header_174 (by decide) ?_
      refine lv_iload_n hx hb d_Mo_header_175 rfl (lv_at hl 0 rfl) ?_
      refine lv_imul hx hb d_Mo_header_176 ?_
      refine lv_iadd hx hb d_Mo_header_177 ?_
      refine lv_iconst (v := 4) hx hb d_Mo_header_178 (by decide) ?_
      obtain ⟨r_25, hc, hf⟩ := ob hf
      refine cl_S (v := (some (.long r_25))) (st1 := [.long r_25, .int x2, .ref (r 37)]) (va_runV (As := [.int (((si 32) + 20) + (4 * x2)), .int 4]) (rest := [.int x2, .ref (r 37)]) ⟨hx, hb, hml, hown, hts⟩ (c_Mo_unsigned l dC dI h0 r cA nf (((si 32) + 20) + (4 * x2)) 4 si sj sa sb hc) (cwV 2 hts (gdV m_7_137 m_7_139 msel_61 m_1_10 m_7_140) rfl rfl rfl (by decide +kernel) ⟨Nat.le_trans (Nat.le_of_ble_eq_true rfl) hRf, Nat.le_trans (Nat.le_of_ble_eq_true rfl) hRl⟩) ((RO.pre hP hK (hST.ro hS)).vir (va_recv hK hP (ci := 10) (q0 := 0) rfl rfl)) rfl rfl hl.1 rfl (lv_room (Nat.le_of_ble_eq_true rfl)) d_Mo_header_179 ⟨Nat.zero_le _, Nat.zero_le _⟩) rfl ?_
      obtain ⟨c_26, hf⟩ := it_n hf
      refine mz_37 hx hb hK hP hD hS c_26 d_Mo_header_182 (fun H locs hP hD hS => ?_)
      refine lv_iinc (v := x2 + 1) (lv' := [(2, .int (x2 + 1)), (0, .ref h0)]) hx hb d_Mo_header_183 hl (k := 0) rfl rfl (by decide) rfl (fun ls hl => ?_)
      refine lv_goto (tgt := 155) hx hb d_Mo_header_186 (by decide) ?_
      exact ih hf hP hD hS (lv_sub hl [0, 1] rfl)
set_option maxHeartbeats 400000 in
set_option maxRecDepth 100000 in
theorem k_Mo_header_129 (C0 : Cx p s m meth c args R b_Mo_header "ZoneFilesModel" 6 (some .boolean) 1 25) (hST : ST A s s.heap) (hA : ∀ q, s.heap.size ≤ q → A q) (hK : va_K (dC, dI) classes (moT cA) s) (hE : ∀ (pc : Nat) (ls : Array Slot) (H : Heap) (locs : List Loc), decode b_Mo_header pc = .ok (.ireturn, 1) → narrow .boolean (.int r0) = .int r0 → va_P (dC, dI) classes (moW h0 r cA vi vj va vb) H → va_D A (moW h0 r cA vi vj va vb) → va_S A s.heap H locs → W p l e R s m args below meth c H locs 0 0 Q (F0 m pc ls [.int r0])) {si : Nat → Int32} {sj : Nat → Int64} {sa : Nat → Nat → Int32} {sb : Nat → Nat → Int64} (hf : f_Mo_header_129 nf si sj sa sb = some (r0, vi, vj, va, vb)) {H : Heap} {locs : List Loc} {ls : Array Slot} (hP : va_P (dC, dI) classes (moW h0 r cA si sj sa sb) H) (hD : va_D A (moW h0 r cA si sj sa sb)) (hS : va_S A s.heap H locs) (hl : lv_has ls 6 [(0, .ref h0)]) : W p l e R s m args below meth c H locs 0 0 Q (F0 m 129 ls []) := by
  obtain ⟨hx, hb, hr, hml, hown, hts, hlocks, hRf, hRl⟩ := id C0
  unfold f_Mo_header_129 at hf
  refine lv_aload_n hx hb d_Mo_header_129 rfl (lv_at hl 0 rfl) ?_
  refine mg_32 (v := si 32) hx hb hts hown hK hP rfl d_Mo_header_130 ?_
  refine lv_bipush (v := 44) hx hb d_Mo_header_133 (by decide) ?_
  refine lv_iadd hx hb d_Mo_header_135 ?_
  refine lv_aload_n hx hb d_Mo_header_136 rfl (lv_at hl 0 rfl) ?_
  refine mg_1 (v := si 1) hx hb hts hown hK hP rfl d_Mo_header_137 ?_
  refine lv_icmp_le (tgt := 153) hx hb d_Mo_header_140 (by decide) (fun c_3 => ?_) (fun c_3 => ?_)
  · have hf := it_t c_3 hf
    refine lv_iconst (v := 0) hx hb d_Mo_header_153 (by decide) ?_
    refine lv_istore_n (lv' := [(2, .int 0), (0, .ref h0)]) hx hb d_Mo_header_154 rfl hl (by decide) rfl (fun ls hl => ?_)
    exact k_Mo_header_155 C0 hST hA hK hE nf hf hP hD hS (lv_sub hl [0, 1] rfl)
  · have hf := it_f c_3 hf
    refine lv_aload_n hx hb d_Mo_header_143 rfl (lv_at hl 0 rfl) ?_
    refine lv_iconst (v := 1) hx hb d_Mo_header_144 (by decide) ?_
    refine lv_aload_n hx hb d_Mo_header_145 rfl (lv_at hl 0 rfl) ?_
    refine mg_1 (v := si 1) hx hb hts hown hK hP rfl d_Mo_header_146 ?_
    obtain ⟨⟨z_31, i_27, j_28, a_29, b_30⟩, hc, hf⟩ := ob hf
    have hFc := mo_free hD hS hA
    refine cl_M (v := (some (.int z_31))) (st1 := [.int z_31]) (va_runV (As := [.int 1, .int (si 1)]) (rest := []) ⟨hx, hb, hml, hown, hts⟩ (c_Mo_faulty l dC dI h0 r cA H.size nf 1 (si 1) si sj sa sb hc) (cwV 2 hts (gdV m_7_133 m_7_135 msel_60 m_1_10 m_7_136) rfl rfl rfl (by decide +kernel) ⟨Nat.le_trans (Nat.le_of_ble_eq_true rfl) hRf, Nat.le_trans (Nat.le_of_ble_eq_true rfl) hRl⟩) ((MU.pre hP hK hD (hST.mu hS hFc)).vir (va_recv hK hP (ci := 10) (q0 := 0) rfl rfl)) rfl rfl hl.1 rfl (lv_room (Nat.le_of_ble_eq_true rfl)) d_Mo_header_149 ⟨Nat.zero_le _, Nat.zero_le _⟩) rfl hS (fun q _ h => hFc q h) hFc (fun t H1 locs ht hvm hB hz1 hk1 hS => ?_)
    obtain ⟨hP, hD⟩ := mo_back ht hD hB
    generalize H1 = H at hP hS ⊢
    obtain ⟨c_32, hf⟩ := it_g hf
    cases rs hf
    exact hE _ _ _ _ d_Mo_header_152 (nb_of c_32) hP hD hS
set_option maxHeartbeats 400000 in
set_option maxRecDepth 100000 in
theorem k_Mo_header_124 (C0 : Cx p s m meth c args R b_Mo_header "ZoneFilesModel" 6 (some .boolean) 1 25) (hST : ST A s s.heap) (hA : ∀ q, s.heap.size ≤ q → A q) (hK : va_K (dC, dI) classes (moT cA) s) (hE : ∀ (pc : Nat) (ls : Array Slot) (H : Heap) (locs : List Loc), decode b_Mo_header pc = .ok (.ireturn, 1) → narrow .boolean (.int r0) = .int r0 → va_P (dC, dI) classes (moW h0 r cA vi vj va vb) H → va_D A (moW h0 r cA vi vj va vb) → va_S A s.heap H locs → W p l e R s m args below meth c H locs 0 0 Q (F0 m pc ls [.int r0])) {x2 : Int32} {si : Nat → Int32} {sj : Nat → Int64} {sa : Nat → Nat → Int32} {sb : Nat → Nat → Int64} (hf : f_Mo_header_124 nf x2 si sj sa sb = some (r0, vi, vj, va, vb)) {H : Heap} {locs : List Loc} {ls : Array Slot} (hP : va_P (dC, dI) classes (moW h0 r cA si sj sa sb) H) (hD : va_D A (moW h0 r cA si sj sa sb)) (hS : va_S A s.heap H locs) (hl : lv_has ls 6 [(2, .int x2), (0, .ref h0)]) : W p l e R s m args below meth c H locs 0 0 Q (F0 m 124 ls []) := by
  obtain ⟨hx, hb, hr, hml, hown, hts, hlocks, hRf, hRl⟩ := id C0
  unfold f_Mo_header_124 at hf
  refine lv_aload_n hx hb d_Mo_header_124 rfl (lv_at hl 1 rfl) ?_
  refine lv_iload_n hx hb d_Mo_header_125 rfl (lv_at hl 0 rfl) ?_
  refine mp_38 hx hb hts hown hK hP hD hS d_Mo_header_126 (fun H locs hP hD hS => ?_)
  exact k_Mo_header_129 C0 hST hA hK hE hf hP hD hS (lv_sub hl [1] rfl)
set_option maxHeartbeats 400000 in
set_option maxRecDepth 100000 in
theorem k_Mo_header_112 (C0 : Cx p s m meth c args R b_Mo_header "ZoneFilesModel" 6 (some .boolean) 1 25) (hST : ST A s s.heap) (hA : ∀ q, s.heap.size ≤ q → A q) (hK : va_K (dC, dI) classes (moT cA) s) (hE : ∀ (pc : Nat) (ls : Array Slot) (H : Heap) (locs : List Loc), decode b_Mo_header pc = .ok (.ireturn, 1) → narrow .boolean (.int r0) = .int r0 → va_P (dC, dI) classes (moW h0 r cA vi vj va vb) H → va_D A (moW h0 r cA vi vj va vb) → va_S A s.heap H locs → W p l e R s m args below meth c H locs 0 0 Q (F0 m pc ls [.int r0])) {si : Nat → Int32} {sj : Nat → Int64} {sa : Nat → Nat → Int32} {sb : Nat → Nat → Int64} (hf : f_Mo_header_112 nf si sj sa sb = some (r0, vi, vj, va, vb)) {H : Heap} {locs : List Loc} {ls : Array Slot} (hP : va_P (dC, dI) classes (moW h0 r cA si sj sa sb) H) (hD : va_D A (moW h0 r cA si sj sa sb)) (hS : va_S A s.heap H locs) (hl : lv_has ls 6 [(0, .ref h0)]) : W p l e R s m args below meth c H locs 0 0 Q (F0 m 112 ls []) := by
  obtain ⟨hx, hb, hr, hml, hown, hts, hlocks, hRf, hRl⟩ := id C0
  unfold f_Mo_header_112 at hf
  refine lv_aload_n hx hb d_Mo_header_112 rfl (lv_at hl 0 rfl) ?_
  refine lv_iconst (v := 3) hx hb d_Mo_header_113 (by decide) ?_
  refine lv_aload_n hx hb d_Mo_header_114 rfl (lv_at hl 0 rfl) ?_
  refine mg_32 (v := si 32) hx hb hts hown hK hP rfl d_Mo_header_115 ?_
  refine lv_iconst (v := 4) hx hb d_Mo_header_118 (by decide) ?_
  refine lv_iadd hx hb d_Mo_header_119 ?_
  obtain ⟨⟨z_42, i_38, j_39, a_40, b_41⟩, hc, hf⟩ := ob hf
  have hFc := mo_free hD hS hA
  refine cl_M (v := (some (.int z_42))) (st1 := [.int z_42]) (va_runV (As := [.int 3, .int ((si 32) + 4)]) (rest := []) ⟨hx, hb, hml, hown, hts⟩ (c_Mo_faulty l dC dI h0 r cA H.size nf 3 ((si 32) + 4) si sj sa sb hc) (cwV 2 hts (gdV m_7_133 m_7_135 msel_60 m_1_10 m_7_136) rfl rfl rfl (by decide +kernel) ⟨Nat.le_trans (Nat.le_of_ble_eq_true rfl) hRf, Nat.le_trans (Nat.le_of_ble_eq_true rfl) hRl⟩) ((MU.pre hP hK hD (hST.mu hS hFc)).vir (va_recv hK hP (ci := 10) (q0 := 0) rfl rfl)) rfl rfl hl.1 rfl (lv_room (Nat.le_of_ble_eq_true rfl)) d_Mo_header_120 ⟨Nat.zero_le _, Nat.zero_le _⟩) rfl hS (fun q _ h => hFc q h) hFc (fun t H1 locs ht hvm hB hz1 hk1 hS => ?_)
  obtain ⟨hP, hD⟩ := mo_back ht hD hB
  generalize H1 = H at hP hS ⊢
  obtain ⟨c_43, hf⟩ := it_g hf
  cases rs hf
  exact hE _ _ _ _ d_Mo_header_123 (nb_of c_43) hP hD hS
set_option maxHeartbeats 400000 in
set_option maxRecDepth 100000 in
theorem k_Mo_header_50 (C0 : Cx p s m meth c args R b_Mo_header "ZoneFilesModel" 6 (some .boolean) 1 25) (hST : ST A s s.heap) (hA : ∀ q, s.heap.size ≤ q → A q) (hK : va_K (dC, dI) classes (moT cA) s) (hE : ∀ (pc : Nat) (ls : Array Slot) (H : Heap) (locs : List Loc), decode b_Mo_header pc = .ok (.ireturn, 1) → narrow .boolean (.int r0) = .int r0 → va_P (dC, dI) classes (moW h0 r cA vi vj va vb) H → va_D A (moW h0 r cA vi vj va vb) → va_S A s.heap H locs → W p l e R s m args below meth c H locs 0 0 Q (F0 m pc ls [.int r0])) {K2 : Int32 → Int32 → (Nat → Int32) → (Nat → Int64) → (Nat → Nat → Int32) → (Nat → Nat → Int64) → Option (Int32 × (Nat → Int32) × (Nat → Int64) × (Nat → Nat → Int32) × (Nat → Nat → Int64))} (hK2 : ∀ {x2 : Int32} {x1 : Int32} {si : Nat → Int32} {sj : Nat → Int64} {sa : Nat → Nat → Int32} {sb : Nat → Nat → Int64}, K2 x2 x1 si sj sa sb = some (r0, vi, vj, va, vb) → ∀ {H : Heap} {locs : List Loc} {ls : Array Slot}, va_P (dC, dI) classes (moW h0 r cA si sj sa sb) H → va_D A (moW h0 r cA si sj sa sb) → va_S A s.heap H locs → lv_has ls 6 [(2, .int x2), (0, .ref h0), (1, .int x1)] → W p l e R s m args below meth c H locs 0 0 Q (F0 m 2 ls [])) {x2 : Int32} {x1 : Int32} {si : Nat → Int32} {sj : Nat → Int64} {sa : Nat → Nat → Int32} {sb : Nat → Nat → Int64} (hf : f_Mo_header_50 nf K2 x2 x1 si sj sa sb = some (r0, vi, vj, va, vb)) {H : Heap} {locs : List Loc} {ls : Array Slot} (hP : va_P (dC, dI) classes (moW h0 r cA si sj sa sb) H) (hD : va_D A (moW h0 r cA si sj sa sb)) (hS : va_S A s.heap H locs) (hl : lv_has ls 6 [(2, .int x2), (0, .ref h0), (1, .int x1)]) : W p l e R s m args below meth c H locs 0 0 Q (F0 m 50 ls []) := by
  obtain ⟨hx, hb, hr, hml, hown, hts, hlocks, hRf, hRl⟩ := id C0
  unfold f_Mo_header_50 at hf
  refine lv_iinc (v := x2 + 1) (lv' := [(2, .int (x2 + 1)), (0, .ref h0), (1, .int x1)]) hx hb d_Mo_header_50 hl (k := 0) rfl rfl (by decide) rfl (fun ls hl => ?_)
  refine lv_goto (tgt := 2) hx hb d_Mo_header_53 (by decide) ?_
  exact hK2 hf hP hD hS (lv_sub hl [0, 1, 2] rfl)
set_option maxHeartbeats 400000 in
set_option maxRecDepth 100000 in
theorem k_Mo_header_2 (C0 : Cx p s m meth c args R b_Mo_header "ZoneFilesModel" 6 (some .boolean) 1 25) (hST : ST A s s.heap) (hA : ∀ q, s.heap.size ≤ q → A q) (hK : va_K (dC, dI) classes (moT cA) s) (hE : ∀ (pc : Nat) (ls : Array Slot) (H : Heap) (locs : List Loc), decode b_Mo_header pc = .ok (.ireturn, 1) → narrow .boolean (.int r0) = .int r0 → va_P (dC, dI) classes (moW h0 r cA vi vj va vb) H → va_D A (moW h0 r cA vi vj va vb) → va_S A s.heap H locs → W p l e R s m args below meth c H locs 0 0 Q (F0 m pc ls [.int r0])) : ∀ (n : Nat) {x2 : Int32} {x1 : Int32} {si : Nat → Int32} {sj : Nat → Int64} {sa : Nat → Nat → Int32} {sb : Nat → Nat → Int64}, f_Mo_header_2 nf n x2 x1 si sj sa sb = some (r0, vi, vj, va, vb) → ∀ {H : Heap} {locs : List Loc} {ls : Array Slot}, va_P (dC, dI) classes (moW h0 r cA si sj sa sb) H → va_D A (moW h0 r cA si sj sa sb) → va_S A s.heap H locs → lv_has ls 6 [(2, .int x2), (0, .ref h0), (1, .int x1)] → W p l e R s m args below meth c H locs 0 0 Q (F0 m 2 ls []) := by
  obtain ⟨hx, hb, hr, hml, hown, hts, hlocks, hRf, hRl⟩ := id C0
  intro n
  induction n with
  | zero =>
    intro x2 x1 si sj sa sb hf
    exact absurd hf (by simp [f_Mo_header_2])
  | succ n ih =>
    intro x2 x1 si sj sa sb hf H locs ls hP hD hS hl
    unfold f_Mo_header_2 at hf
    refine lv_iload_n hx hb d_Mo_header_2 rfl (lv_at hl 0 rfl) ?_
    refine lv_iconst (v := 4) hx hb d_Mo_header_3 (by decide) ?_
    refine lv_icmp_ge (tgt := 56) hx hb d_Mo_header_4 (by decide) (fun c_1 => ?_) (fun c_1 => ?_)
    · have hf := it_t c_1 hf
      refine lv_aload_n hx hb d_Mo_header_56 rfl (lv_at hl 1 rfl) ?_
      refine mg_32 (v := si 32) hx hb hts hown hK hP rfl d_Mo_header_57 ?_
      refine lv_iconst (v := 4) hx hb d_Mo_header_60 (by decide) ?_
      refine lv_iadd hx hb d_Mo_header_61 ?_
      refine lv_aload_n hx hb d_Mo_header_62 rfl (lv_at hl 1 rfl) ?_
      refine mg_1 (v := si 1) hx hb hts hown hK hP rfl d_Mo_header_63 ?_
      refine lv_icmp_ge (tgt := 129) hx hb d_Mo_header_66 (by decide) (fun c_2 => ?_) (fun c_2 => ?_)
      · have hf := it_t c_2 hf
        exact k_Mo_header_129 C0 hST hA hK hE hf hP hD hS (lv_sub hl [1] rfl)
      · have hf := it_f c_2 hf
        refine lv_aload_n hx hb d_Mo_header_69 rfl (lv_at hl 1 rfl) ?_
        refine mg_0 hx hb hts hown hK hP d_Mo_header_70 ?_
        refine lv_aload_n hx hb d_Mo_header_73 rfl (lv_at hl 1 rfl) ?_
        refine mg_32 (v := si 32) hx hb hts hown hK hP rfl d_Mo_header_74 ?_
        refine lv_iconst (v := 4) hx hb d_Mo_header_77 (by decide) ?_
        refine lv_iadd hx hb d_Mo_header_78 ?_
        obtain ⟨c_33, hf⟩ := it_n hf
        refine ma_0 (v := sa 0 ((si 32) + 4).toNatClampNeg) hx hb hK hP c_33 rfl d_Mo_header_79 ?_
        refine lv_istore_n (lv' := [(2, .int (sa 0 ((si 32) + 4).toNatClampNeg)), (0, .ref h0), (1, .int x1)]) hx hb d_Mo_header_80 rfl hl (by decide) rfl (fun ls hl => ?_)
        refine lv_iload_n hx hb d_Mo_header_81 rfl (lv_at hl 2 rfl) ?_
        refine lv_if_eq (tgt := 96) hx hb d_Mo_header_82 (by decide) (fun c_34 => ?_) (fun c_34 => ?_)
        · have hf := it_t c_34 hf
          refine lv_iload_n hx hb d_Mo_header_96 rfl (lv_at hl 0 rfl) ?_
          refine lv_if_eq (tgt := 124) hx hb d_Mo_header_97 (by decide) (fun c_35 => ?_) (fun c_35 => ?_)
          · have hf := it_t c_35 hf
            exact k_Mo_header_124 C0 hST hA hK hE hf hP hD hS (lv_sub hl [0, 1] rfl)
          · have hf := it_f c_35 hf
            refine lv_iload_n hx hb d_Mo_header_100 rfl (lv_at hl 0 rfl) ?_
            refine lv_bipush (v := 50) hx hb d_Mo_header_101 (by decide) ?_
            refine lv_icmp_eq (tgt := 124) hx hb d_Mo_header_103 (by decide) (fun c_36 => ?_) (fun c_36 => ?_)
            · have hf := it_t c_36 hf
              exact k_Mo_header_124 C0 hST hA hK hE hf hP hD hS (lv_sub hl [0, 1] rfl)
            · have hf := it_f c_36 hf
              refine lv_iload_n hx hb d_Mo_header_106 rfl (lv_at hl 0 rfl) ?_
              refine lv_bipush (v := 51) hx hb d_Mo_header_107 (by decide) ?_
              refine lv_icmp_eq (tgt := 124) hx hb d_Mo_header_109 (by decide) (fun c_37 => ?_) (fun c_37 => ?_)
              · have hf := it_t c_37 hf
                exact k_Mo_header_124 C0 hST hA hK hE hf hP hD hS (lv_sub hl [0, 1] rfl)
              · have hf := it_f c_37 hf
                exact k_Mo_header_112 C0 hST hA hK hE hf hP hD hS (lv_sub hl [1] rfl)
        · have hf := it_f c_34 hf
          refine lv_iload_n hx hb d_Mo_header_85 rfl (lv_at hl 0 rfl) ?_
          refine lv_aload_n hx hb d_Mo_header_86 rfl (lv_at hl 1 rfl) ?_
          refine mg_38 (v := si 38) hx hb hts hown hK hP rfl d_Mo_header_87 ?_
          refine lv_icmp_eq (tgt := 124) hx hb d_Mo_header_90 (by decide) (fun c_44 => ?_) (fun c_44 => ?_)
          · have hf := it_t c_44 hf
            exact k_Mo_header_124 C0 hST hA hK hE hf hP hD hS (lv_sub hl [0, 1] rfl)
          · have hf := it_f c_44 hf
            refine lv_goto (tgt := 112) hx hb d_Mo_header_93 (by decide) ?_
            exact k_Mo_header_112 C0 hST hA hK hE hf hP hD hS (lv_sub hl [1] rfl)
    · have hf := it_f c_1 hf
      refine lv_aload_n hx hb d_Mo_header_7 rfl (lv_at hl 1 rfl) ?_
      refine mg_32 (v := si 32) hx hb hts hown hK hP rfl d_Mo_header_8 ?_
      refine lv_iload_n hx hb d_Mo_header_11 rfl (lv_at hl 0 rfl) ?_
      refine lv_iadd hx hb d_Mo_header_12 ?_
      refine lv_aload_n hx hb d_Mo_header_13 rfl (lv_at hl 1 rfl) ?_
      refine mg_1 (v := si 1) hx hb hts hown hK hP rfl d_Mo_header_14 ?_
      refine lv_icmp_ge (tgt := 50) hx hb d_Mo_header_17 (by decide) (fun c_45 => ?_) (fun c_45 => ?_)
      · have hf := it_t c_45 hf
        exact k_Mo_header_50 C0 hST hA hK hE (fun hf => ih hf) hf hP hD hS (lv_sub hl [0, 1, 2] rfl)
      · have hf := it_f c_45 hf
        refine lv_aload_n hx hb d_Mo_header_20 rfl (lv_at hl 1 rfl) ?_
        refine mg_0 hx hb hts hown hK hP d_Mo_header_21 ?_
        refine lv_aload_n hx hb d_Mo_header_24 rfl (lv_at hl 1 rfl) ?_
        refine mg_32 (v := si 32) hx hb hts hown hK hP rfl d_Mo_header_25 ?_
        refine lv_iload_n hx hb d_Mo_header_28 rfl (lv_at hl 0 rfl) ?_
        refine lv_iadd hx hb d_Mo_header_29 ?_
        obtain ⟨c_46, hf⟩ := it_n hf
        refine ma_0 (v := sa 0 ((si 32) + x2).toNatClampNeg) hx hb hK hP c_46 rfl d_Mo_header_30 ?_
        refine lv_iload_n hx hb d_Mo_header_31 rfl (lv_at hl 0 rfl) ?_
        obtain ⟨r_47, hc, hf⟩ := ob hf
        refine cl_S (v := (some (.int r_47))) (st1 := [.int r_47, .int (sa 0 ((si 32) + x2).toNatClampNeg)]) (va_runS (As := [.int x2]) (rest := [.int (sa 0 ((si 32) + x2).toNatClampNeg)]) ⟨hx, hb, hml, hown, hts⟩ (c_Mo_magic l dC dI nf x2 hc) (va_cwS 1 hts (gdS m_7_130 m_7_131 m_1_10 m_7_132) rfl rfl rfl (by decide +kernel) ⟨Nat.le_trans (Nat.le_of_ble_eq_true rfl) hRf, Nat.le_trans (Nat.le_of_ble_eq_true rfl) hRl⟩) (RO.pre0 hK (hST.ro hS)).sta rfl rfl hl.1 rfl (lv_room (Nat.le_of_ble_eq_true rfl)) d_Mo_header_32 ⟨Nat.zero_le _, Nat.zero_le _⟩) rfl ?_
        refine lv_icmp_eq (tgt := 50) hx hb d_Mo_header_35 (by decide) (fun c_48 => ?_) (fun c_48 => ?_)
        · have hf := it_t c_48 hf
          exact k_Mo_header_50 C0 hST hA hK hE (fun hf => ih hf) hf hP hD hS (lv_sub hl [0, 1, 2] rfl)
        · have hf := it_f c_48 hf
          refine lv_aload_n hx hb d_Mo_header_38 rfl (lv_at hl 1 rfl) ?_
          refine lv_iconst (v := 2) hx hb d_Mo_header_39 (by decide) ?_
          refine lv_aload_n hx hb d_Mo_header_40 rfl (lv_at hl 1 rfl) ?_
          refine mg_32 (v := si 32) hx hb hts hown hK hP rfl d_Mo_header_41 ?_
          refine lv_iload_n hx hb d_Mo_header_44 rfl (lv_at hl 0 rfl) ?_
          refine lv_iadd hx hb d_Mo_header_45 ?_
          obtain ⟨⟨z_53, i_49, j_50, a_51, b_52⟩, hc, hf⟩ := ob hf
          have hFc := mo_free hD hS hA
          refine cl_M (v := (some (.int z_53))) (st1 := [.int z_53]) (va_runV (As := [.int 2, .int ((si 32) + x2)]) (rest := []) ⟨hx, hb, hml, hown, hts⟩ (c_Mo_faulty l dC dI h0 r cA H.size nf 2 ((si 32) + x2) si sj sa sb hc) (cwV 2 hts (gdV m_7_133 m_7_135 msel_60 m_1_10 m_7_136) rfl rfl rfl (by decide +kernel) ⟨Nat.le_trans (Nat.le_of_ble_eq_true rfl) hRf, Nat.le_trans (Nat.le_of_ble_eq_true rfl) hRl⟩) ((MU.pre hP hK hD (hST.mu hS hFc)).vir (va_recv hK hP (ci := 10) (q0 := 0) rfl rfl)) rfl rfl hl.1 rfl (lv_room (Nat.le_of_ble_eq_true rfl)) d_Mo_header_46 ⟨Nat.zero_le _, Nat.zero_le _⟩) rfl hS (fun q _ h => hFc q h) hFc (fun t H1 locs ht hvm hB hz1 hk1 hS => ?_)
          obtain ⟨hP, hD⟩ := mo_back ht hD hB
          generalize H1 = H at hP hS ⊢
          obtain ⟨c_54, hf⟩ := it_g hf
          cases rs hf
          exact hE _ _ _ _ d_Mo_header_49 (nb_of c_54) hP hD hS
set_option maxHeartbeats 400000 in
set_option maxRecDepth 100000 in
theorem k_Mo_header_0 (C0 : Cx p s m meth c args R b_Mo_header "ZoneFilesModel" 6 (some .boolean) 1 25) (hST : ST A s s.heap) (hA : ∀ q, s.heap.size ≤ q → A q) (hK : va_K (dC, dI) classes (moT cA) s) (hE : ∀ (pc : Nat) (ls : Array Slot) (H : Heap) (locs : List Loc), decode b_Mo_header pc = .ok (.ireturn, 1) → narrow .boolean (.int r0) = .int r0 → va_P (dC, dI) classes (moW h0 r cA vi vj va vb) H → va_D A (moW h0 r cA vi vj va vb) → va_S A s.heap H locs → W p l e R s m args below meth c H locs 0 0 Q (F0 m pc ls [.int r0])) {x1 : Int32} {si : Nat → Int32} {sj : Nat → Int64} {sa : Nat → Nat → Int32} {sb : Nat → Nat → Int64} (hf : f_Mo_header_0 nf x1 si sj sa sb = some (r0, vi, vj, va, vb)) {H : Heap} {locs : List Loc} {ls : Array Slot} (hP : va_P (dC, dI) classes (moW h0 r cA si sj sa sb) H) (hD : va_D A (moW h0 r cA si sj sa sb)) (hS : va_S A s.heap H locs) (hl : lv_has ls 6 [(0, .ref h0), (1, .int x1)]) : W p l e R s m args below meth c H locs 0 0 Q (F0 m 0 ls []) := by
  obtain ⟨hx, hb, hr, hml, hown, hts, hlocks, hRf, hRl⟩ := id C0
  unfold f_Mo_header_0 at hf
  refine lv_iconst (v := 0) hx hb d_Mo_header_0 (by decide) ?_
  refine lv_istore_n (lv' := [(2, .int 0), (0, .ref h0), (1, .int x1)]) hx hb d_Mo_header_1 rfl hl (by decide) rfl (fun ls hl => ?_)
  exact k_Mo_header_2 C0 hST hA hK hE nf hf hP hD hS (lv_sub hl [0, 1, 2] rfl)
end
set_option maxHeartbeats 400000 in
set_option maxRecDepth 100000 in
theorem c_Mo_header (l : Launch) (dC : Nat → ClassId) (dI : Nat → Nat → Nat) (h0 : Nat) (r : Nat → Nat) (cA : Nat → ClassId) (sz : Nat) (nf : Nat) (p0 : Int32) (si : Nat → Int32) (sj : Nat → Int64) (sa : Nat → Nat → Int32) (sb : Nat → Nat → Int64) {r0 : Int32} {vi : Nat → Int32} {vj : Nat → Int64} {va : Nat → Nat → Int32} {vb : Nat → Nat → Int64} (hf : f_Mo_header nf p0 si sj sa sb = some (r0, vi, vj, va, vb)) : Met l y_Mo_header (wd y_Mo_header b_Mo_header 6 (some .boolean)) ({ frames := 1, cells := 0, slots := 0, locals := 25 }) (MU dC dI (moW h0 r cA si sj sa sb) (moT cA) sz [.ref h0, .int p0]) (MV (some (.int r0)) (fun t => va_P (dC, dI) classes (moW h0 r cA vi vj va vb) t.heap) (va_A (moW h0 r cA si sj sa sb) sz)) 0 0 (va_A (moW h0 r cA si sj sa sb) sz) :=
  met_M (plainFor_of_name (by decide)) (Nat.le_of_ble_eq_true rfl) (fun p e R s m args below meth c ls hRc hRs hsz hin C0 hST hK hP hD hl => by
    obtain ⟨hx, hb, hr, hml, hown, hts, hlocks, hRf, hRl⟩ := id C0
    subst hsz
    have hA : ∀ q : Nat, s.heap.size ≤ q → va_A (moW h0 r cA si sj sa sb) s.heap.size q := fun q h => Or.inr h
    have hS : va_S (va_A (moW h0 r cA si sj sa sb) s.heap.size) s.heap s.heap [] := va_S.rf
    unfold f_Mo_header at hf
    exact k_Mo_header_0 C0 hST hA hK (fun pc ls H locs hd hn hP hD hS => W.zret hx hb hr hn (fun t ht hW => ⟨⟨rfl, mo_end ht hP⟩, hS.F ht⟩) hS.2.2 hd) hf hP hD hS (lv_sub hl [0, 1] rfl))
-- ZoneFilesModel.needs(J)Z
def f_Mo_needs_33 (nf : Nat) (s0 : Int32) (si : Nat → Int32) (sj : Nat → Int64) (sa : Nat → Nat → Int32) (sb : Nat → Nat → Int64) : Option (Int32 × (Nat → Int32) × (Nat → Int64) × (Nat → Nat → Int32) × (Nat → Nat → Int64)) :=
  if s0 = 0 ∨ s0 = 1 then some (s0, si, sj, sa, sb) else none
def f_Mo_needs_28 (nf : Nat) (si : Nat → Int32) (sj : Nat → Int64) (sa : Nat → Nat → Int32) (sb : Nat → Nat → Int64) : Option (Int32 × (Nat → Int32) × (Nat → Int64) × (Nat → Nat → Int32) × (Nat → Nat → Int64)) :=
  f_Mo_needs_33 nf 1 si sj sa sb
def f_Mo_needs_0 (nf : Nat) (x1 : Int64) (si : Nat → Int32) (sj : Nat → Int64) (sa : Nat → Nat → Int32) (sb : Nat → Nat → Int64) : Option (Int32 × (Nat → Int32) × (Nat → Int64) × (Nat → Nat → Int32) × (Nat → Nat → Int64)) :=
  if (((si 32).toInt64) + x1) ≤ ((si 1).toInt64) then
  f_Mo_needs_28 nf si sj sa sb
  else
  (f_Mo_faulty nf 1 (si 1) si sj sa sb).bind fun (z_7, i_3, j_4, a_5, b_6) =>
    if z_7 = 0 then
    f_Mo_needs_33 nf 0 i_3 j_4 a_5 b_6
    else
    f_Mo_needs_28 nf i_3 j_4 a_5 b_6
def f_Mo_needs (nf : Nat) (p0 : Int64) (si : Nat → Int32) (sj : Nat → Int64) (sa : Nat → Nat → Int32) (sb : Nat → Nat → Int64) : Option (Int32 × (Nat → Int32) × (Nat → Int64) × (Nat → Nat → Int32) × (Nat → Nat → Int64)) :=
  f_Mo_needs_0 nf p0 si sj sa sb
section
variable {p : Program} {l : Launch} {e : Env} {R : Room} {s : State} {m : MethodId} {args : Array Value} {below : List Frame} {meth : Method} {c : Code} {Q : State → Prop} {dC : Nat → ClassId} {dI : Nat → Nat → Nat} {nf : Nat} {A : Nat → Prop} {h0 : Nat} {r : Nat → Nat} {cA : Nat → ClassId}
variable {r0 : Int32} {vi : Nat → Int32} {vj : Nat → Int64} {va : Nat → Nat → Int32} {vb : Nat → Nat → Int64}
set_option maxHeartbeats 400000 in
set_option maxRecDepth 100000 in
theorem k_Mo_needs_33 (C0 : Cx p s m meth c args R b_Mo_needs "ZoneFilesModel" 3 (some .boolean) 1 22) (hST : ST A s s.heap) (hA : ∀ q, s.heap.size ≤ q → A q) (hK : va_K (dC, dI) classes (moT cA) s) (hE : ∀ (pc : Nat) (ls : Array Slot) (H : Heap) (locs : List Loc), decode b_Mo_needs pc = .ok (.ireturn, 1) → narrow .boolean (.int r0) = .int r0 → va_P (dC, dI) classes (moW h0 r cA vi vj va vb) H → va_D A (moW h0 r cA vi vj va vb) → va_S A s.heap H locs → W p l e R s m args below meth c H locs 0 0 Q (F0 m pc ls [.int r0])) {s0 : Int32} {si : Nat → Int32} {sj : Nat → Int64} {sa : Nat → Nat → Int32} {sb : Nat → Nat → Int64} (hf : f_Mo_needs_33 nf s0 si sj sa sb = some (r0, vi, vj, va, vb)) {H : Heap} {locs : List Loc} {ls : Array Slot} (hP : va_P (dC, dI) classes (moW h0 r cA si sj sa sb) H) (hD : va_D A (moW h0 r cA si sj sa sb)) (hS : va_S A s.heap H locs) (hl : lv_has ls 3 []) : W p l e R s m args below meth c H locs 0 0 Q (F0 m 33 ls [.int s0]) := by
  obtain ⟨hx, hb, hr, hml, hown, hts, hlocks, hRf, hRl⟩ := id C0
  unfold f_Mo_needs_33 at hf
  obtain ⟨c_2, hf⟩ := it_g hf
  cases rs hf
  exact hE _ _ _ _ d_Mo_needs_33 (nb_of c_2) hP hD hS
set_option maxHeartbeats 400000 in
set_option maxRecDepth 100000 in
theorem k_Mo_needs_28 (C0 : Cx p s m meth c args R b_Mo_needs "ZoneFilesModel" 3 (some .boolean) 1 22) (hST : ST A s s.heap) (hA : ∀ q, s.heap.size ≤ q → A q) (hK : va_K (dC, dI) classes (moT cA) s) (hE : ∀ (pc : Nat) (ls : Array Slot) (H : Heap) (locs : List Loc), decode b_Mo_needs pc = .ok (.ireturn, 1) → narrow .boolean (.int r0) = .int r0 → va_P (dC, dI) classes (moW h0 r cA vi vj va vb) H → va_D A (moW h0 r cA vi vj va vb) → va_S A s.heap H locs → W p l e R s m args below meth c H locs 0 0 Q (F0 m pc ls [.int r0])) {si : Nat → Int32} {sj : Nat → Int64} {sa : Nat → Nat → Int32} {sb : Nat → Nat → Int64} (hf : f_Mo_needs_28 nf si sj sa sb = some (r0, vi, vj, va, vb)) {H : Heap} {locs : List Loc} {ls : Array Slot} (hP : va_P (dC, dI) classes (moW h0 r cA si sj sa sb) H) (hD : va_D A (moW h0 r cA si sj sa sb)) (hS : va_S A s.heap H locs) (hl : lv_has ls 3 []) : W p l e R s m args below meth c H locs 0 0 Q (F0 m 28 ls []) := by
  obtain ⟨hx, hb, hr, hml, hown, hts, hlocks, hRf, hRl⟩ := id C0
  unfold f_Mo_needs_28 at hf
  refine lv_iconst (v := 1) hx hb d_Mo_needs_28 (by decide) ?_
  refine lv_goto (tgt := 33) hx hb d_Mo_needs_29 (by decide) ?_
  exact k_Mo_needs_33 C0 hST hA hK hE hf hP hD hS (lv_sub hl [] rfl)
set_option maxHeartbeats 400000 in
set_option maxRecDepth 100000 in
theorem k_Mo_needs_0 (C0 : Cx p s m meth c args R b_Mo_needs "ZoneFilesModel" 3 (some .boolean) 1 22) (hST : ST A s s.heap) (hA : ∀ q, s.heap.size ≤ q → A q) (hK : va_K (dC, dI) classes (moT cA) s) (hE : ∀ (pc : Nat) (ls : Array Slot) (H : Heap) (locs : List Loc), decode b_Mo_needs pc = .ok (.ireturn, 1) → narrow .boolean (.int r0) = .int r0 → va_P (dC, dI) classes (moW h0 r cA vi vj va vb) H → va_D A (moW h0 r cA vi vj va vb) → va_S A s.heap H locs → W p l e R s m args below meth c H locs 0 0 Q (F0 m pc ls [.int r0])) {x1 : Int64} {si : Nat → Int32} {sj : Nat → Int64} {sa : Nat → Nat → Int32} {sb : Nat → Nat → Int64} (hf : f_Mo_needs_0 nf x1 si sj sa sb = some (r0, vi, vj, va, vb)) {H : Heap} {locs : List Loc} {ls : Array Slot} (hP : va_P (dC, dI) classes (moW h0 r cA si sj sa sb) H) (hD : va_D A (moW h0 r cA si sj sa sb)) (hS : va_S A s.heap H locs) (hl : lv_has ls 3 [(0, .ref h0), (1, .long x1)]) : W p l e R s m args below meth c H locs 0 0 Q (F0 m 0 ls []) := by
  obtain ⟨hx, hb, hr, hml, hown, hts, hlocks, hRf, hRl⟩ := id C0
  unfold f_Mo_needs_0 at hf
  refine lv_aload_n hx hb d_Mo_needs_0 rfl (lv_at hl 0 rfl) ?_
  refine mg_32 (v := si 32) hx hb hts hown hK hP rfl d_Mo_needs_1 ?_
  refine lv_i2l hx hb d_Mo_needs_4 rfl ?_
  refine lv_lload_n hx hb d_Mo_needs_5 rfl (lv_at hl 1 rfl) ?_
  refine lv_ladd hx hb d_Mo_needs_6 ?_
  refine lv_aload_n hx hb d_Mo_needs_7 rfl (lv_at hl 0 rfl) ?_
  refine mg_1 (v := si 1) hx hb hts hown hK hP rfl d_Mo_needs_8 ?_
  refine lv_i2l hx hb d_Mo_needs_11 rfl ?_
  refine lc_le (tgt := 28) hx hb d_Mo_needs_12 d_Mo_needs_13 (by decide) (fun c_1 => ?_) (fun c_1 => ?_)
  · have hf := it_t c_1 hf
    exact k_Mo_needs_28 C0 hST hA hK hE hf hP hD hS (lv_sub hl [] rfl)
  · have hf := it_f c_1 hf
    refine lv_aload_n hx hb d_Mo_needs_16 rfl (lv_at hl 0 rfl) ?_
    refine lv_iconst (v := 1) hx hb d_Mo_needs_17 (by decide) ?_
    refine lv_aload_n hx hb d_Mo_needs_18 rfl (lv_at hl 0 rfl) ?_
    refine mg_1 (v := si 1) hx hb hts hown hK hP rfl d_Mo_needs_19 ?_
    obtain ⟨⟨z_7, i_3, j_4, a_5, b_6⟩, hc, hf⟩ := ob hf
    have hFc := mo_free hD hS hA
    refine cl_M (v := (some (.int z_7))) (st1 := [.int z_7]) (va_runV (As := [.int 1, .int (si 1)]) (rest := []) ⟨hx, hb, hml, hown, hts⟩ (c_Mo_faulty l dC dI h0 r cA H.size nf 1 (si 1) si sj sa sb hc) (cwV 2 hts (gdV m_7_133 m_7_135 msel_60 m_1_10 m_7_136) rfl rfl rfl (by decide +kernel) ⟨Nat.le_trans (Nat.le_of_ble_eq_true rfl) hRf, Nat.le_trans (Nat.le_of_ble_eq_true rfl) hRl⟩) ((MU.pre hP hK hD (hST.mu hS hFc)).vir (va_recv hK hP (ci := 10) (q0 := 0) rfl rfl)) rfl rfl hl.1 rfl (lv_room (Nat.le_of_ble_eq_true rfl)) d_Mo_needs_22 ⟨Nat.zero_le _, Nat.zero_le _⟩) rfl hS (fun q _ h => hFc q h) hFc (fun t H1 locs ht hvm hB hz1 hk1 hS => ?_)
    obtain ⟨hP, hD⟩ := mo_back ht hD hB
    generalize H1 = H at hP hS ⊢
    refine lv_if_eq (tgt := 32) hx hb d_Mo_needs_25 (by decide) (fun c_8 => ?_) (fun c_8 => ?_)
    · have hf := it_t c_8 hf
      refine lv_iconst (v := 0) hx hb d_Mo_needs_32 (by decide) ?_
      exact k_Mo_needs_33 C0 hST hA hK hE hf hP hD hS (lv_sub hl [] rfl)
    · have hf := it_f c_8 hf
      exact k_Mo_needs_28 C0 hST hA hK hE hf hP hD hS (lv_sub hl [] rfl)
end
set_option maxHeartbeats 400000 in
set_option maxRecDepth 100000 in
theorem c_Mo_needs (l : Launch) (dC : Nat → ClassId) (dI : Nat → Nat → Nat) (h0 : Nat) (r : Nat → Nat) (cA : Nat → ClassId) (sz : Nat) (nf : Nat) (p0 : Int64) (si : Nat → Int32) (sj : Nat → Int64) (sa : Nat → Nat → Int32) (sb : Nat → Nat → Int64) {r0 : Int32} {vi : Nat → Int32} {vj : Nat → Int64} {va : Nat → Nat → Int32} {vb : Nat → Nat → Int64} (hf : f_Mo_needs nf p0 si sj sa sb = some (r0, vi, vj, va, vb)) : Met l y_Mo_needs (wd y_Mo_needs b_Mo_needs 3 (some .boolean)) ({ frames := 1, cells := 0, slots := 0, locals := 22 }) (MU dC dI (moW h0 r cA si sj sa sb) (moT cA) sz [.ref h0, .long p0]) (MV (some (.int r0)) (fun t => va_P (dC, dI) classes (moW h0 r cA vi vj va vb) t.heap) (va_A (moW h0 r cA si sj sa sb) sz)) 0 0 (va_A (moW h0 r cA si sj sa sb) sz) :=
  met_M (plainFor_of_name (by decide)) (Nat.le_of_ble_eq_true rfl) (fun p e R s m args below meth c ls hRc hRs hsz hin C0 hST hK hP hD hl => by
    obtain ⟨hx, hb, hr, hml, hown, hts, hlocks, hRf, hRl⟩ := id C0
    subst hsz
    have hA : ∀ q : Nat, s.heap.size ≤ q → va_A (moW h0 r cA si sj sa sb) s.heap.size q := fun q h => Or.inr h
    have hS : va_S (va_A (moW h0 r cA si sj sa sb) s.heap.size) s.heap s.heap [] := va_S.rf
    unfold f_Mo_needs at hf
    exact k_Mo_needs_0 C0 hST hA hK (fun pc ls H locs hd hn hP hD hS => W.zret hx hb hr hn (fun t ht hW => ⟨⟨rfl, mo_end ht hP⟩, hS.F ht⟩) hS.2.2 hd) hf hP hD hS (lv_sub hl [0, 1] rfl))
-- ZoneFilesModel.flagRows()Z
def f_Mo_flagRows_172 (nf : Nat) (K108 : Int32 → Int32 → (Nat → Int32) → (Nat → Int64) → (Nat → Nat → Int32) → (Nat → Nat → Int64) → Option (Int32 × (Nat → Int32) × (Nat → Int64) × (Nat → Nat → Int32) × (Nat → Nat → Int64))) (x2 : Int32) (x1 : Int32) (s0 : Int32) (si : Nat → Int32) (sj : Nat → Int64) (sa : Nat → Nat → Int32) (sb : Nat → Nat → Int64) : Option (Int32 × (Nat → Int32) × (Nat → Int64) × (Nat → Nat → Int32) × (Nat → Nat → Int64)) :=
  if s0 = 0 then
  (f_Mo_faulty nf 13 (si 32) si sj sa sb).bind fun (z_28, i_24, j_25, a_26, b_27) =>
    if z_28 = 0 ∨ z_28 = 1 then some (z_28, i_24, j_25, a_26, b_27) else none
  else
  if (si 32) < 0 ∨ 6000 ≤ (si 32).toNatClampNeg then none else
    if ((40 * x1) + x2) < 0 ∨ 200 ≤ ((40 * x1) + x2).toNatClampNeg then none else
    K108 (x2 + 1) x1 (va_up si 32 ((si 32) + 1)) sj (va_up sa 21 (upd (sa 21) ((40 * x1) + x2).toNatClampNeg (sa 0 (si 32).toNatClampNeg))) sb
def f_Mo_flagRows_167 (nf : Nat) (K108 : Int32 → Int32 → (Nat → Int32) → (Nat → Int64) → (Nat → Nat → Int32) → (Nat → Nat → Int64) → Option (Int32 × (Nat → Int32) × (Nat → Int64) × (Nat → Nat → Int32) × (Nat → Nat → Int64))) (x2 : Int32) (x1 : Int32) (si : Nat → Int32) (sj : Nat → Int64) (sa : Nat → Nat → Int32) (sb : Nat → Nat → Int64) : Option (Int32 × (Nat → Int32) × (Nat → Int64) × (Nat → Nat → Int32) × (Nat → Nat → Int64)) :=
  f_Mo_flagRows_172 nf K108 x2 x1 1 si sj sa sb
def f_Mo_flagRows_171 (nf : Nat) (K108 : Int32 → Int32 → (Nat → Int32) → (Nat → Int64) → (Nat → Nat → Int32) → (Nat → Nat → Int64) → Option (Int32 × (Nat → Int32) × (Nat → Int64) × (Nat → Nat → Int32) × (Nat → Nat → Int64))) (x2 : Int32) (x1 : Int32) (si : Nat → Int32) (sj : Nat → Int64) (sa : Nat → Nat → Int32) (sb : Nat → Nat → Int64) : Option (Int32 × (Nat → Int32) × (Nat → Int64) × (Nat → Nat → Int32) × (Nat → Nat → Int64)) :=
  f_Mo_flagRows_172 nf K108 x2 x1 0 si sj sa sb
def f_Mo_flagRows_108 (nf : Nat) : Nat → Int32 → Int32 → (Nat → Int32) → (Nat → Int64) → (Nat → Nat → Int32) → (Nat → Nat → Int64) → Option (Int32 × (Nat → Int32) × (Nat → Int64) × (Nat → Nat → Int32) × (Nat → Nat → Int64))
  | 0, _, _, _, _, _, _ => none
  | n + 1, x2, x1, si, sj, sa, sb =>
    if x1 < 0 ∨ 5 ≤ x1.toNatClampNeg then none else
    if (sa 10 x1.toNatClampNeg) ≤ x2 then
    some (1, si, sj, sa, sb)
    else
    if (si 32) < 0 ∨ 6000 ≤ (si 32).toNatClampNeg then none else
      if (sa 0 (si 32).toNatClampNeg) = 0 then
      f_Mo_flagRows_167 nf (f_Mo_flagRows_108 nf n) x2 x1 si sj sa sb
      else
      if (si 32) < 0 ∨ 6000 ≤ (si 32).toNatClampNeg then none else
        if (sa 0 (si 32).toNatClampNeg) = (1 : Int32) then
        if x1 < 0 ∨ 5 ≤ x1.toNatClampNeg then none else
          if (sa 9 x1.toNatClampNeg) ≤ 0 then
          f_Mo_flagRows_171 nf (f_Mo_flagRows_108 nf n) x2 x1 si sj sa sb
          else
          if ((40 * x1) + x2) < 0 ∨ 200 ≤ ((40 * x1) + x2).toNatClampNeg then none else
            if (sa 20 ((40 * x1) + x2).toNatClampNeg) = (1 : Int32) then
            f_Mo_flagRows_167 nf (f_Mo_flagRows_108 nf n) x2 x1 si sj sa sb
            else
            f_Mo_flagRows_171 nf (f_Mo_flagRows_108 nf n) x2 x1 si sj sa sb
        else
        f_Mo_flagRows_171 nf (f_Mo_flagRows_108 nf n) x2 x1 si sj sa sb
def f_Mo_flagRows_20 (nf : Nat) : Nat → Int32 → Int32 → (Nat → Int32) → (Nat → Int64) → (Nat → Nat → Int32) → (Nat → Nat → Int64) → Option (Int32 × (Nat → Int32) × (Nat → Int64) × (Nat → Nat → Int32) × (Nat → Nat → Int64))
  | 0, _, _, _, _, _, _ => none
  | n + 1, x2, x1, si, sj, sa, sb =>
    if x1 < 0 ∨ 5 ≤ x1.toNatClampNeg then none else
    if (sa 9 x1.toNatClampNeg) ≤ x2 then
    if x1 < 0 ∨ 5 ≤ x1.toNatClampNeg then none else
      (f_Mo_needs nf ((sa 10 x1.toNatClampNeg).toInt64) si sj sa sb).bind fun (z_15, i_11, j_12, a_13, b_14) =>
      if z_15 = 0 then
      some (0, i_11, j_12, a_13, b_14)
      else
      f_Mo_flagRows_108 nf nf 0 x1 i_11 j_12 a_13 b_14
    else
    if (si 32) < 0 ∨ 6000 ≤ (si 32).toNatClampNeg then none else
      if (sa 0 (si 32).toNatClampNeg) ≤ (1 : Int32) then
      if (si 32) < 0 ∨ 6000 ≤ (si 32).toNatClampNeg then none else
        if ((40 * x1) + x2) < 0 ∨ 200 ≤ ((40 * x1) + x2).toNatClampNeg then none else
        f_Mo_flagRows_20 nf n (x2 + 1) x1 (va_up si 32 ((si 32) + 1)) sj (va_up sa 20 (upd (sa 20) ((40 * x1) + x2).toNatClampNeg (sa 0 (si 32).toNatClampNeg))) sb
      else
      (f_Mo_faulty nf 13 (si 32) si sj sa sb).bind fun (z_44, i_40, j_41, a_42, b_43) =>
        if z_44 = 0 ∨ z_44 = 1 then some (z_44, i_40, j_41, a_42, b_43) else none
def f_Mo_flagRows_0 (nf : Nat) (si : Nat → Int32) (sj : Nat → Int64) (sa : Nat → Nat → Int32) (sb : Nat → Nat → Int64) : Option (Int32 × (Nat → Int32) × (Nat → Int64) × (Nat → Nat → Int32) × (Nat → Nat → Int64)) :=
  if (4 : Int32) < 0 ∨ 5 ≤ (4 : Int32).toNatClampNeg then none else
  (f_Mo_needs nf ((sa 9 (4 : Int32).toNatClampNeg).toInt64) si sj sa sb).bind fun (z_6, i_2, j_3, a_4, b_5) =>
  if z_6 = 0 then
  some (0, i_2, j_3, a_4, b_5)
  else
  f_Mo_flagRows_20 nf nf 0 4 i_2 j_3 a_4 b_5
def f_Mo_flagRows (nf : Nat) (si : Nat → Int32) (sj : Nat → Int64) (sa : Nat → Nat → Int32) (sb : Nat → Nat → Int64) : Option (Int32 × (Nat → Int32) × (Nat → Int64) × (Nat → Nat → Int32) × (Nat → Nat → Int64)) :=
  f_Mo_flagRows_0 nf si sj sa sb
section
variable {p : Program} {l : Launch} {e : Env} {R : Room} {s : State} {m : MethodId} {args : Array Value} {below : List Frame} {meth : Method} {c : Code} {Q : State → Prop} {dC : Nat → ClassId} {dI : Nat → Nat → Nat} {nf : Nat} {A : Nat → Prop} {h0 : Nat} {r : Nat → Nat} {cA : Nat → ClassId}
variable {r0 : Int32} {vi : Nat → Int32} {vj : Nat → Int64} {va : Nat → Nat → Int32} {vb : Nat → Nat → Int64}
set_option maxHeartbeats 400000 in
set_option maxRecDepth 100000 in
theorem k_Mo_flagRows_172 (C0 : Cx p s m meth c args R b_Mo_flagRows "ZoneFilesModel" 4 (some .boolean) 2 44) (hST : ST A s s.heap) (hA : ∀ q, s.heap.size ≤ q → A q) (hK : va_K (dC, dI) classes (moT cA) s) (hE : ∀ (pc : Nat) (ls : Array Slot) (H : Heap) (locs : List Loc), decode b_Mo_flagRows pc = .ok (.ireturn, 1) → narrow .boolean (.int r0) = .int r0 → va_P (dC, dI) classes (moW h0 r cA vi vj va vb) H → va_D A (moW h0 r cA vi vj va vb) → va_S A s.heap H locs → W p l e R s m args below meth c H locs 0 0 Q (F0 m pc ls [.int r0])) {K108 : Int32 → Int32 → (Nat → Int32) → (Nat → Int64) → (Nat → Nat → Int32) → (Nat → Nat → Int64) → Option (Int32 × (Nat → Int32) × (Nat → Int64) × (Nat → Nat → Int32) × (Nat → Nat → Int64))} (hK108 : ∀ {x2 : Int32} {x1 : Int32} {si : Nat → Int32} {sj : Nat → Int64} {sa : Nat → Nat → Int32} {sb : Nat → Nat → Int64}, K108 x2 x1 si sj sa sb = some (r0, vi, vj, va, vb) → ∀ {H : Heap} {locs : List Loc} {ls : Array Slot}, va_P (dC, dI) classes (moW h0 r cA si sj sa sb) H → va_D A (moW h0 r cA si sj sa sb) → va_S A s.heap H locs → lv_has ls 4 [(2, .int x2), (1, .int x1), (0, .ref h0)] → W p l e R s m args below meth c H locs 0 0 Q (F0 m 108 ls [])) {x2 : Int32} {x1 : Int32} {s0 : Int32} {si : Nat → Int32} {sj : Nat → Int64} {sa : Nat → Nat → Int32} {sb : Nat → Nat → Int64} (hf : f_Mo_flagRows_172 nf K108 x2 x1 s0 si sj sa sb = some (r0, vi, vj, va, vb)) {H : Heap} {locs : List Loc} {ls : Array Slot} (hP : va_P (dC, dI) classes (moW h0 r cA si sj sa sb) H) (hD : va_D A (moW h0 r cA si sj sa sb)) (hS : va_S A s.heap H locs) (hl : lv_has ls 4 [(2, .int x2), (1, .int x1), (0, .ref h0)]) : W p l e R s m args below meth c H locs 0 0 Q (F0 m 172 ls [.int s0]) := by
  obtain ⟨hx, hb, hr, hml, hown, hts, hlocks, hRf, hRl⟩ := id C0
  unfold f_Mo_flagRows_172 at hf
  refine lv_istore_n (lv' := [(3, .int s0), (2, .int x2), (1, .int x1), (0, .ref h0)]) hx hb d_Mo_flagRows_172 rfl hl (by decide) rfl (fun ls hl => ?_)
  refine lv_iload_n hx hb d_Mo_flagRows_173 rfl (lv_at hl 0 rfl) ?_
  refine lv_if_ne (tgt := 188) hx hb d_Mo_flagRows_174 (by decide) (fun c_21 => ?_) (fun c_21 => ?_)
  · have hf := it_f c_21 hf
    refine lv_aload_n hx hb d_Mo_flagRows_188 rfl (lv_at hl 3 rfl) ?_
    refine mg_21 hx hb hts hown hK hP d_Mo_flagRows_189 ?_
    refine lv_bipush (v := 40) hx hb d_Mo_flagRows_192 (by decide) ?_
    refine lv_iload_n hx hb d_Mo_flagRows_194 rfl (lv_at hl 2 rfl) ?_
    refine lv_imul hx hb d_Mo_flagRows_195 ?_
    refine lv_iload_n hx hb d_Mo_flagRows_196 rfl (lv_at hl 1 rfl) ?_
    refine lv_iadd hx hb d_Mo_flagRows_197 ?_
    refine lv_aload_n hx hb d_Mo_flagRows_198 rfl (lv_at hl 3 rfl) ?_
    refine mg_0 hx hb hts hown hK hP d_Mo_flagRows_199 ?_
    refine lv_aload_n hx hb d_Mo_flagRows_202 rfl (lv_at hl 3 rfl) ?_
    refine mg_32 (v := si 32) hx hb hts hown hK hP rfl d_Mo_flagRows_203 ?_
    obtain ⟨c_22, hf⟩ := it_n hf
    refine ma_0 (v := sa 0 (si 32).toNatClampNeg) hx hb hK hP c_22 rfl d_Mo_flagRows_206 ?_
    obtain ⟨c_23, hf⟩ := it_n hf
    refine mz_21 hx hb hK hP hD hS c_23 d_Mo_flagRows_207 (fun H locs hP hD hS => ?_)
    refine lv_aload_n hx hb d_Mo_flagRows_208 rfl (lv_at hl 3 rfl) ?_
    refine lv_dup hx hb d_Mo_flagRows_209 rfl ?_
    refine mg_32 (v := si 32) hx hb hts hown hK hP rfl d_Mo_flagRows_210 ?_
    refine lv_iconst (v := 1) hx hb d_Mo_flagRows_213 (by decide) ?_
    refine lv_iadd hx hb d_Mo_flagRows_214 ?_
    refine mp_32 hx hb hts hown hK hP hD hS d_Mo_flagRows_215 (fun H locs hP hD hS => ?_)
    refine lv_iinc (v := x2 + 1) (lv' := [(2, .int (x2 + 1)), (3, .int s0), (1, .int x1), (0, .ref h0)]) hx hb d_Mo_flagRows_218 hl (k := 1) rfl rfl (by decide) rfl (fun ls hl => ?_)
    refine lv_goto (tgt := 108) hx hb d_Mo_flagRows_221 (by decide) ?_
    exact hK108 hf hP hD hS (lv_sub hl [0, 2, 3] rfl)
  · have hf := it_t c_21 hf
    refine lv_aload_n hx hb d_Mo_flagRows_177 rfl (lv_at hl 3 rfl) ?_
    refine lv_bipush (v := 13) hx hb d_Mo_flagRows_178 (by decide) ?_
    refine lv_aload_n hx hb d_Mo_flagRows_180 rfl (lv_at hl 3 rfl) ?_
    refine mg_32 (v := si 32) hx hb hts hown hK hP rfl d_Mo_flagRows_181 ?_
    obtain ⟨⟨z_28, i_24, j_25, a_26, b_27⟩, hc, hf⟩ := ob hf
    have hFc := mo_free hD hS hA
    refine cl_M (v := (some (.int z_28))) (st1 := [.int z_28]) (va_runV (As := [.int 13, .int (si 32)]) (rest := []) ⟨hx, hb, hml, hown, hts⟩ (c_Mo_faulty l dC dI h0 r cA H.size nf 13 (si 32) si sj sa sb hc) (cwV 2 hts (gdV m_7_133 m_7_135 msel_60 m_1_10 m_7_136) rfl rfl rfl (by decide +kernel) ⟨Nat.le_trans (Nat.le_of_ble_eq_true rfl) hRf, Nat.le_trans (Nat.le_of_ble_eq_true rfl) hRl⟩) ((MU.pre hP hK hD (hST.mu hS hFc)).vir (va_recv hK hP (ci := 10) (q0 := 0) rfl rfl)) rfl rfl hl.1 rfl (lv_room (Nat.le_of_ble_eq_true rfl)) d_Mo_flagRows_184 ⟨Nat.zero_le _, Nat.zero_le _⟩) rfl hS (fun q _ h => hFc q h) hFc (fun t H1 locs ht hvm hB hz1 hk1 hS => ?_)
    obtain ⟨hP, hD⟩ := mo_back ht hD hB
    generalize H1 = H at hP hS ⊢
    obtain ⟨c_29, hf⟩ := it_g hf
    cases rs hf
    exact hE _ _ _ _ d_Mo_flagRows_187 (nb_of c_29) hP hD hS
set_option maxHeartbeats 400000 in
set_option maxRecDepth 100000 in
theorem k_Mo_flagRows_167 (C0 : Cx p s m meth c args R b_Mo_flagRows "ZoneFilesModel" 4 (some .boolean) 2 44) (hST : ST A s s.heap) (hA : ∀ q, s.heap.size ≤ q → A q) (hK : va_K (dC, dI) classes (moT cA) s) (hE : ∀ (pc : Nat) (ls : Array Slot) (H : Heap) (locs : List Loc), decode b_Mo_flagRows pc = .ok (.ireturn, 1) → narrow .boolean (.int r0) = .int r0 → va_P (dC, dI) classes (moW h0 r cA vi vj va vb) H → va_D A (moW h0 r cA vi vj va vb) → va_S A s.heap H locs → W p l e R s m args below meth c H locs 0 0 Q (F0 m pc ls [.int r0])) {K108 : Int32 → Int32 → (Nat → Int32) → (Nat → Int64) → (Nat → Nat → Int32) → (Nat → Nat → Int64) → Option (Int32 × (Nat → Int32) × (Nat → Int64) × (Nat → Nat → Int32) × (Nat → Nat → Int64))} (hK108 : ∀ {x2 : Int32} {x1 : Int32} {si : Nat → Int32} {sj : Nat → Int64} {sa : Nat → Nat → Int32} {sb : Nat → Nat → Int64}, K108 x2 x1 si sj sa sb = some (r0, vi, vj, va, vb) → ∀ {H : Heap} {locs : List Loc} {ls : Array Slot}, va_P (dC, dI) classes (moW h0 r cA si sj sa sb) H → va_D A (moW h0 r cA si sj sa sb) → va_S A s.heap H locs → lv_has ls 4 [(2, .int x2), (1, .int x1), (0, .ref h0)] → W p l e R s m args below meth c H locs 0 0 Q (F0 m 108 ls [])) {x2 : Int32} {x1 : Int32} {si : Nat → Int32} {sj : Nat → Int64} {sa : Nat → Nat → Int32} {sb : Nat → Nat → Int64} (hf : f_Mo_flagRows_167 nf K108 x2 x1 si sj sa sb = some (r0, vi, vj, va, vb)) {H : Heap} {locs : List Loc} {ls : Array Slot} (hP : va_P (dC, dI) classes (moW h0 r cA si sj sa sb) H) (hD : va_D A (moW h0 r cA si sj sa sb)) (hS : va_S A s.heap H locs) (hl : lv_has ls 4 [(2, .int x2), (1, .int x1), (0, .ref h0)]) : W p l e R s m args below meth c H locs 0 0 Q (F0 m 167 ls []) := by
  obtain ⟨hx, hb, hr, hml, hown, hts, hlocks, hRf, hRl⟩ := id C0
  unfold f_Mo_flagRows_167 at hf
  refine lv_iconst (v := 1) hx hb d_Mo_flagRows_167 (by decide) ?_
  refine lv_goto (tgt := 172) hx hb d_Mo_flagRows_168 (by decide) ?_
  exact k_Mo_flagRows_172 C0 hST hA hK hE hK108 hf hP hD hS (lv_sub hl [0, 1, 2] rfl)
set_option maxHeartbeats 400000 in
set_option maxRecDepth 100000 in
theorem k_Mo_flagRows_171 (C0 : Cx p s m meth c args R b_Mo_flagRows "ZoneFilesModel" 4 (some .boolean) 2 44) (hST : ST A s s.heap) (hA : ∀ q, s.heap.size ≤ q → A q) (hK : va_K (dC, dI) classes (moT cA) s) (hE : ∀ (pc : Nat) (ls : Array Slot) (H : Heap) (locs : List Loc), decode b_Mo_flagRows pc = .ok (.ireturn, 1) → narrow .boolean (.int r0) = .int r0 → va_P (dC, dI) classes (moW h0 r cA vi vj va vb) H → va_D A (moW h0 r cA vi vj va vb) → va_S A s.heap H locs → W p l e R s m args below meth c H locs 0 0 Q (F0 m pc ls [.int r0])) {K108 : Int32 → Int32 → (Nat → Int32) → (Nat → Int64) → (Nat → Nat → Int32) → (Nat → Nat → Int64) → Option (Int32 × (Nat → Int32) × (Nat → Int64) × (Nat → Nat → Int32) × (Nat → Nat → Int64))} (hK108 : ∀ {x2 : Int32} {x1 : Int32} {si : Nat → Int32} {sj : Nat → Int64} {sa : Nat → Nat → Int32} {sb : Nat → Nat → Int64}, K108 x2 x1 si sj sa sb = some (r0, vi, vj, va, vb) → ∀ {H : Heap} {locs : List Loc} {ls : Array Slot}, va_P (dC, dI) classes (moW h0 r cA si sj sa sb) H → va_D A (moW h0 r cA si sj sa sb) → va_S A s.heap H locs → lv_has ls 4 [(2, .int x2), (1, .int x1), (0, .ref h0)] → W p l e R s m args below meth c H locs 0 0 Q (F0 m 108 ls [])) {x2 : Int32} {x1 : Int32} {si : Nat → Int32} {sj : Nat → Int64} {sa : Nat → Nat → Int32} {sb : Nat → Nat → Int64} (hf : f_Mo_flagRows_171 nf K108 x2 x1 si sj sa sb = some (r0, vi, vj, va, vb)) {H : Heap} {locs : List Loc} {ls : Array Slot} (hP : va_P (dC, dI) classes (moW h0 r cA si sj sa sb) H) (hD : va_D A (moW h0 r cA si sj sa sb)) (hS : va_S A s.heap H locs) (hl : lv_has ls 4 [(2, .int x2), (1, .int x1), (0, .ref h0)]) : W p l e R s m args below meth c H locs 0 0 Q (F0 m 171 ls []) := by
  obtain ⟨hx, hb, hr, hml, hown, hts, hlocks, hRf, hRl⟩ := id C0
  unfold f_Mo_flagRows_171 at hf
  refine lv_iconst (v := 0) hx hb d_Mo_flagRows_171 (by decide) ?_
  exact k_Mo_flagRows_172 C0 hST hA hK hE hK108 hf hP hD hS (lv_sub hl [0, 1, 2] rfl)
set_option maxHeartbeats 400000 in
set_option maxRecDepth 100000 in
theorem k_Mo_flagRows_108 (C0 : Cx p s m meth c args R b_Mo_flagRows "ZoneFilesModel" 4 (some .boolean) 2 44) (hST : ST A s s.heap) (hA : ∀ q, s.heap.size ≤ q → A q) (hK : va_K (dC, dI) classes (moT cA) s) (hE : ∀ (pc : Nat) (ls : Array Slot) (H : Heap) (locs : List Loc), decode b_Mo_flagRows pc = .ok (.ireturn, 1) → narrow .boolean (.int r0) = .int r0 → va_P (dC, dI) classes (moW h0 r cA vi vj va vb) H → va_D A (moW h0 r cA vi vj va vb) → va_S A s.heap H locs → W p l e R s m args below meth c H locs 0 0 Q (F0 m pc ls [.int r0])) : ∀ (n : Nat) {x2 : Int32} {x1 : Int32} {si : Nat → Int32} {sj : Nat → Int64} {sa : Nat → Nat → Int32} {sb : Nat → Nat → Int64}, f_Mo_flagRows_108 nf n x2 x1 si sj sa sb = some (r0, vi, vj, va, vb) → ∀ {H : Heap} {locs : List Loc} {ls : Array Slot}, va_P (dC, dI) classes (moW h0 r cA si sj sa sb) H → va_D A (moW h0 r cA si sj sa sb) → va_S A s.heap H locs → lv_has ls 4 [(2, .int x2), (1, .int x1), (0, .ref h0)] → W p l e R s m args below meth c H locs 0 0 Q (F0 m 108 ls []) := by
  obtain ⟨hx, hb, hr, hml, hown, hts, hlocks, hRf, hRl⟩ := id C0
  intro n
  induction n with
  | zero =>
    intro x2 x1 si sj sa sb hf
    exact absurd hf (by simp [f_Mo_flagRows_108])
  | succ n ih =>
    intro x2 x1 si sj sa sb hf H locs ls hP hD hS hl
    unfold f_Mo_flagRows_108 at hf
    refine lv_iload_n hx hb d_Mo_flagRows_108 rfl (lv_at hl 0 rfl) ?_
    refine lv_aload_n hx hb d_Mo_flagRows_109 rfl (lv_at hl 2 rfl) ?_
    refine mg_10 hx hb hts hown hK hP d_Mo_flagRows_110 ?_
    refine lv_iload_n hx hb d_Mo_flagRows_113 rfl (lv_at hl 1 rfl) ?_
    obtain ⟨c_17, hf⟩ := it_n hf
    refine ma_10 (v := sa 10 x1.toNatClampNeg) hx hb hK hP c_17 rfl d_Mo_flagRows_114 ?_
    refine lv_icmp_ge (tgt := 224) hx hb d_Mo_flagRows_115 (by decide) (fun c_18 => ?_) (fun c_18 => ?_)
    · have hf := it_t c_18 hf
      refine lv_iconst (v := 1) hx hb d_Mo_flagRows_224 (by decide) ?_
      cases rs hf
      exact hE _ _ _ _ d_Mo_flagRows_225 rfl hP hD hS
    · have hf := it_f c_18 hf
      refine lv_aload_n hx hb d_Mo_flagRows_118 rfl (lv_at hl 2 rfl) ?_
      refine mg_0 hx hb hts hown hK hP d_Mo_flagRows_119 ?_
      refine lv_aload_n hx hb d_Mo_flagRows_122 rfl (lv_at hl 2 rfl) ?_
      refine mg_32 (v := si 32) hx hb hts hown hK hP rfl d_Mo_flagRows_123 ?_
      obtain ⟨c_19, hf⟩ := it_n hf
      refine ma_0 (v := sa 0 (si 32).toNatClampNeg) hx hb hK hP c_19 rfl d_Mo_flagRows_126 ?_
      refine lv_if_eq (tgt := 167) hx hb d_Mo_flagRows_127 (by decide) (fun c_20 => ?_) (fun c_20 => ?_)
      · have hf := it_t c_20 hf
        exact k_Mo_flagRows_167 C0 hST hA hK hE (fun hf => ih hf) hf hP hD hS (lv_sub hl [0, 1, 2] rfl)
      · have hf := it_f c_20 hf
        refine lv_aload_n hx hb d_Mo_flagRows_130 rfl (lv_at hl 2 rfl) ?_
        refine mg_0 hx hb hts hown hK hP d_Mo_flagRows_131 ?_
        refine lv_aload_n hx hb d_Mo_flagRows_134 rfl (lv_at hl 2 rfl) ?_
        refine mg_32 (v := si 32) hx hb hts hown hK hP rfl d_Mo_flagRows_135 ?_
        obtain ⟨c_30, hf⟩ := it_n hf
        refine ma_0 (v := sa 0 (si 32).toNatClampNeg) hx hb hK hP c_30 rfl d_Mo_flagRows_138 ?_
        refine lv_iconst (v := 1) hx hb d_Mo_flagRows_139 (by decide) ?_
        refine lv_icmp_ne (tgt := 171) hx hb d_Mo_flagRows_140 (by decide) (fun c_31 => ?_) (fun c_31 => ?_)
        · have hf := it_f c_31 hf
          exact k_Mo_flagRows_171 C0 hST hA hK hE (fun hf => ih hf) hf hP hD hS (lv_sub hl [0, 1, 2] rfl)
        · have hf := it_t c_31 hf
          refine lv_aload_n hx hb d_Mo_flagRows_143 rfl (lv_at hl 2 rfl) ?_
          refine mg_9 hx hb hts hown hK hP d_Mo_flagRows_144 ?_
          refine lv_iload_n hx hb d_Mo_flagRows_147 rfl (lv_at hl 1 rfl) ?_
          obtain ⟨c_32, hf⟩ := it_n hf
          refine ma_9 (v := sa 9 x1.toNatClampNeg) hx hb hK hP c_32 rfl d_Mo_flagRows_148 ?_
          refine lv_if_le (tgt := 171) hx hb d_Mo_flagRows_149 (by decide) (fun c_33 => ?_) (fun c_33 => ?_)
          · have hf := it_t c_33 hf
            exact k_Mo_flagRows_171 C0 hST hA hK hE (fun hf => ih hf) hf hP hD hS (lv_sub hl [0, 1, 2] rfl)
          · have hf := it_f c_33 hf
            refine lv_aload_n hx hb d_Mo_flagRows_152 rfl (lv_at hl 2 rfl) ?_
            refine mg_20 hx hb hts hown hK hP d_Mo_flagRows_153 ?_
            refine lv_bipush (v := 40) hx hb d_Mo_flagRows_156 (by decide) ?_
            refine lv_iload_n hx hb d_Mo_flagRows_158 rfl (lv_at hl 1 rfl) ?_
            refine lv_imul hx hb d_Mo_flagRows_159 ?_
            refine lv_iload_n hx hb d_Mo_flagRows_160 rfl (lv_at hl 0 rfl) ?_
            refine lv_iadd hx hb d_Mo_flagRows_161 ?_
            obtain ⟨c_34, hf⟩ := it_n hf
            refine ma_20 (v := sa 20 ((40 * x1) + x2).toNatClampNeg) hx hb hK hP c_34 rfl d_Mo_flagRows_162 ?_
            refine lv_iconst (v := 1) hx hb d_Mo_flagRows_163 (by decide) ?_
            refine lv_icmp_ne (tgt := 171) hx hb d_Mo_flagRows_164 (by decide) (fun c_35 => ?_) (fun c_35 => ?_)
            · have hf := it_f c_35 hf
              exact k_Mo_flagRows_171 C0 hST hA hK hE (fun hf => ih hf) hf hP hD hS (lv_sub hl [0, 1, 2] rfl)
            · have hf := it_t c_35 hf
              exact k_Mo_flagRows_167 C0 hST hA hK hE (fun hf => ih hf) hf hP hD hS (lv_sub hl [0, 1, 2] rfl)
set_option maxHeartbeats 400000 in
set_option maxRecDepth 100000 in
theorem k_Mo_flagRows_20 (C0 : Cx p s m meth c args R b_Mo_flagRows "ZoneFilesModel" 4 (some .boolean) 2 44) (hST : ST A s s.heap) (hA : ∀ q, s.heap.size ≤ q → A q) (hK : va_K (dC, dI) classes (moT cA) s) (hE : ∀ (pc : Nat) (ls : Array Slot) (H : Heap) (locs : List Loc), decode b_Mo_flagRows pc = .ok (.ireturn, 1) → narrow .boolean (.int r0) = .int r0 → va_P (dC, dI) classes (moW h0 r cA vi vj va vb) H → va_D A (moW h0 r cA vi vj va vb) → va_S A s.heap H locs → W p l e R s m args below meth c H locs 0 0 Q (F0 m pc ls [.int r0])) : ∀ (n : Nat) {x2 : Int32} {x1 : Int32} {si : Nat → Int32} {sj : Nat → Int64} {sa : Nat → Nat → Int32} {sb : Nat → Nat → Int64}, f_Mo_flagRows_20 nf n x2 x1 si sj sa sb = some (r0, vi, vj, va, vb) → ∀ {H : Heap} {locs : List Loc} {ls : Array Slot}, va_P (dC, dI) classes (moW h0 r cA si sj sa sb) H → va_D A (moW h0 r cA si sj sa sb) → va_S A s.heap H locs → lv_has ls 4 [(2, .int x2), (1, .int x1), (0, .ref h0)] → W p l e R s m args below meth c H locs 0 0 Q (F0 m 20 ls []) := by
  obtain ⟨hx, hb, hr, hml, hown, hts, hlocks, hRf, hRl⟩ := id C0
  intro n
  induction n with
  | zero =>
    intro x2 x1 si sj sa sb hf
    exact absurd hf (by simp [f_Mo_flagRows_20])
  | succ n ih =>
    intro x2 x1 si sj sa sb hf H locs ls hP hD hS hl
    unfold f_Mo_flagRows_20 at hf
    refine lv_iload_n hx hb d_Mo_flagRows_20 rfl (lv_at hl 0 rfl) ?_
    refine lv_aload_n hx hb d_Mo_flagRows_21 rfl (lv_at hl 2 rfl) ?_
    refine mg_9 hx hb hts hown hK hP d_Mo_flagRows_22 ?_
    refine lv_iload_n hx hb d_Mo_flagRows_25 rfl (lv_at hl 1 rfl) ?_
    obtain ⟨c_8, hf⟩ := it_n hf
    refine ma_9 (v := sa 9 x1.toNatClampNeg) hx hb hK hP c_8 rfl d_Mo_flagRows_26 ?_
    refine lv_icmp_ge (tgt := 90) hx hb d_Mo_flagRows_27 (by decide) (fun c_9 => ?_) (fun c_9 => ?_)
    · have hf := it_t c_9 hf
      refine lv_aload_n hx hb d_Mo_flagRows_90 rfl (lv_at hl 2 rfl) ?_
      refine lv_aload_n hx hb d_Mo_flagRows_91 rfl (lv_at hl 2 rfl) ?_
      refine mg_10 hx hb hts hown hK hP d_Mo_flagRows_92 ?_
      refine lv_iload_n hx hb d_Mo_flagRows_95 rfl (lv_at hl 1 rfl) ?_
      obtain ⟨c_10, hf⟩ := it_n hf
      refine ma_10 (v := sa 10 x1.toNatClampNeg) hx hb hK hP c_10 rfl d_Mo_flagRows_96 ?_
      refine lv_i2l hx hb d_Mo_flagRows_97 rfl ?_
      obtain ⟨⟨z_15, i_11, j_12, a_13, b_14⟩, hc, hf⟩ := ob hf
      have hFc := mo_free hD hS hA
      refine cl_M (v := (some (.int z_15))) (st1 := [.int z_15]) (va_runV (As := [.long ((sa 10 x1.toNatClampNeg).toInt64)]) (rest := []) ⟨hx, hb, hml, hown, hts⟩ (c_Mo_needs l dC dI h0 r cA H.size nf ((sa 10 x1.toNatClampNeg).toInt64) si sj sa sb hc) (cwV 1 hts (gdV m_7_151 m_7_153 msel_64 m_1_10 m_7_154) rfl rfl rfl (by decide +kernel) ⟨Nat.le_trans (Nat.le_of_ble_eq_true rfl) hRf, Nat.le_trans (Nat.le_of_ble_eq_true rfl) hRl⟩) ((MU.pre hP hK hD (hST.mu hS hFc)).vir (va_recv hK hP (ci := 10) (q0 := 0) rfl rfl)) rfl rfl hl.1 rfl (lv_room (Nat.le_of_ble_eq_true rfl)) d_Mo_flagRows_98 ⟨Nat.zero_le _, Nat.zero_le _⟩) rfl hS (fun q _ h => hFc q h) hFc (fun t H1 locs ht hvm hB hz1 hk1 hS => ?_)
      obtain ⟨hP, hD⟩ := mo_back ht hD hB
      generalize H1 = H at hP hS ⊢
      refine lv_if_ne (tgt := 106) hx hb d_Mo_flagRows_101 (by decide) (fun c_16 => ?_) (fun c_16 => ?_)
      · have hf := it_f c_16 hf
        refine lv_iconst (v := 0) hx hb d_Mo_flagRows_106 (by decide) ?_
        refine lv_istore_n (lv' := [(2, .int 0), (1, .int x1), (0, .ref h0)]) hx hb d_Mo_flagRows_107 rfl hl (by decide) rfl (fun ls hl => ?_)
        exact k_Mo_flagRows_108 C0 hST hA hK hE nf hf hP hD hS (lv_sub hl [0, 1, 2] rfl)
      · have hf := it_t c_16 hf
        refine lv_iconst (v := 0) hx hb d_Mo_flagRows_104 (by decide) ?_
        cases rs hf
        exact hE _ _ _ _ d_Mo_flagRows_105 rfl hP hD hS
    · have hf := it_f c_9 hf
      refine lv_aload_n hx hb d_Mo_flagRows_30 rfl (lv_at hl 2 rfl) ?_
      refine mg_0 hx hb hts hown hK hP d_Mo_flagRows_31 ?_
      refine lv_aload_n hx hb d_Mo_flagRows_34 rfl (lv_at hl 2 rfl) ?_
      refine mg_32 (v := si 32) hx hb hts hown hK hP rfl d_Mo_flagRows_35 ?_
      obtain ⟨c_36, hf⟩ := it_n hf
      refine ma_0 (v := sa 0 (si 32).toNatClampNeg) hx hb hK hP c_36 rfl d_Mo_flagRows_38 ?_
      refine lv_iconst (v := 1) hx hb d_Mo_flagRows_39 (by decide) ?_
      refine lv_icmp_le (tgt := 54) hx hb d_Mo_flagRows_40 (by decide) (fun c_37 => ?_) (fun c_37 => ?_)
      · have hf := it_t c_37 hf
        refine lv_aload_n hx hb d_Mo_flagRows_54 rfl (lv_at hl 2 rfl) ?_
        refine mg_20 hx hb hts hown hK hP d_Mo_flagRows_55 ?_
        refine lv_bipush (v := 40) hx hb d_Mo_flagRows_58 (by decide) ?_
        refine lv_iload_n hx hb d_Mo_flagRows_60 rfl (lv_at hl 1 rfl) ?_
        refine lv_imul hx hb d_Mo_flagRows_61 ?_
        refine lv_iload_n hx hb d_Mo_flagRows_62 rfl (lv_at hl 0 rfl) ?_
        refine lv_iadd hx hb d_Mo_flagRows_63 ?_
        refine lv_aload_n hx hb d_Mo_flagRows_64 rfl (lv_at hl 2 rfl) ?_
        refine mg_0 hx hb hts hown hK hP d_Mo_flagRows_65 ?_
        refine lv_aload_n hx hb d_Mo_flagRows_68 rfl (lv_at hl 2 rfl) ?_
        refine mg_32 (v := si 32) hx hb hts hown hK hP rfl d_Mo_flagRows_69 ?_
        obtain ⟨c_38, hf⟩ := it_n hf
        refine ma_0 (v := sa 0 (si 32).toNatClampNeg) hx hb hK hP c_38 rfl d_Mo_flagRows_72 ?_
        obtain ⟨c_39, hf⟩ := it_n hf
        refine mz_20 hx hb hK hP hD hS c_39 d_Mo_flagRows_73 (fun H locs hP hD hS => ?_)
        refine lv_aload_n hx hb d_Mo_flagRows_74 rfl (lv_at hl 2 rfl) ?_
        refine lv_dup hx hb d_Mo_flagRows_75 rfl ?_
        refine mg_32 (v := si 32) hx hb hts hown hK hP rfl d_Mo_flagRows_76 ?_
        refine lv_iconst (v := 1) hx hb d_Mo_flagRows_79 (by decide) ?_
        refine lv_iadd hx hb d_Mo_flagRows_80 ?_
        refine mp_32 hx hb hts hown hK hP hD hS d_Mo_flagRows_81 (fun H locs hP hD hS => ?_)
        refine lv_iinc (v := x2 + 1) (lv' := [(2, .int (x2 + 1)), (1, .int x1), (0, .ref h0)]) hx hb d_Mo_flagRows_84 hl (k := 0) rfl rfl (by decide) rfl (fun ls hl => ?_)
        refine lv_goto (tgt := 20) hx hb d_Mo_flagRows_87 (by decide) ?_
        exact ih hf hP hD hS (lv_sub hl [0, 1, 2] rfl)
      · have hf := it_f c_37 hf
        refine lv_aload_n hx hb d_Mo_flagRows_43 rfl (lv_at hl 2 rfl) ?_
        refine lv_bipush (v := 13) hx hb d_Mo_flagRows_44 (by decide) ?_
        refine lv_aload_n hx hb d_Mo_flagRows_46 rfl (lv_at hl 2 rfl) ?_
        refine mg_32 (v := si 32) hx hb hts hown hK hP rfl d_Mo_flagRows_47 ?_
        obtain ⟨⟨z_44, i_40, j_41, a_42, b_43⟩, hc, hf⟩ := ob hf
        have hFc := mo_free hD hS hA
        refine cl_M (v := (some (.int z_44))) (st1 := [.int z_44]) (va_runV (As := [.int 13, .int (si 32)]) (rest := []) ⟨hx, hb, hml, hown, hts⟩ (c_Mo_faulty l dC dI h0 r cA H.size nf 13 (si 32) si sj sa sb hc) (cwV 2 hts (gdV m_7_133 m_7_135 msel_60 m_1_10 m_7_136) rfl rfl rfl (by decide +kernel) ⟨Nat.le_trans (Nat.le_of_ble_eq_true rfl) hRf, Nat.le_trans (Nat.le_of_ble_eq_true rfl) hRl⟩) ((MU.pre hP hK hD (hST.mu hS hFc)).vir (va_recv hK hP (ci := 10) (q0 := 0) rfl rfl)) rfl rfl hl.1 rfl (lv_room (Nat.le_of_ble_eq_true rfl)) d_Mo_flagRows_50 ⟨Nat.zero_le _, Nat.zero_le _⟩) rfl hS (fun q _ h => hFc q h) hFc (fun t H1 locs ht hvm hB hz1 hk1 hS => ?_)
        obtain ⟨hP, hD⟩ := mo_back ht hD hB
        generalize H1 = H at hP hS ⊢
        obtain ⟨c_45, hf⟩ := it_g hf
        cases rs hf
        exact hE _ _ _ _ d_Mo_flagRows_53 (nb_of c_45) hP hD hS
set_option maxHeartbeats 400000 in
set_option maxRecDepth 100000 in
theorem k_Mo_flagRows_0 (C0 : Cx p s m meth c args R b_Mo_flagRows "ZoneFilesModel" 4 (some .boolean) 2 44) (hST : ST A s s.heap) (hA : ∀ q, s.heap.size ≤ q → A q) (hK : va_K (dC, dI) classes (moT cA) s) (hE : ∀ (pc : Nat) (ls : Array Slot) (H : Heap) (locs : List Loc), decode b_Mo_flagRows pc = .ok (.ireturn, 1) → narrow .boolean (.int r0) = .int r0 → va_P (dC, dI) classes (moW h0 r cA vi vj va vb) H → va_D A (moW h0 r cA vi vj va vb) → va_S A s.heap H locs → W p l e R s m args below meth c H locs 0 0 Q (F0 m pc ls [.int r0])) {si : Nat → Int32} {sj : Nat → Int64} {sa : Nat → Nat → Int32} {sb : Nat → Nat → Int64} (hf : f_Mo_flagRows_0 nf si sj sa sb = some (r0, vi, vj, va, vb)) {H : Heap} {locs : List Loc} {ls : Array Slot} (hP : va_P (dC, dI) classes (moW h0 r cA si sj sa sb) H) (hD : va_D A (moW h0 r cA si sj sa sb)) (hS : va_S A s.heap H locs) (hl : lv_has ls 4 [(0, .ref h0)]) : W p l e R s m args below meth c H locs 0 0 Q (F0 m 0 ls []) := by
  obtain ⟨hx, hb, hr, hml, hown, hts, hlocks, hRf, hRl⟩ := id C0
  unfold f_Mo_flagRows_0 at hf
  refine lv_iconst (v := 4) hx hb d_Mo_flagRows_0 (by decide) ?_
  refine lv_istore_n (lv' := [(1, .int 4), (0, .ref h0)]) hx hb d_Mo_flagRows_1 rfl hl (by decide) rfl (fun ls hl => ?_)
  refine lv_aload_n hx hb d_Mo_flagRows_2 rfl (lv_at hl 1 rfl) ?_
  refine lv_aload_n hx hb d_Mo_flagRows_3 rfl (lv_at hl 1 rfl) ?_
  refine mg_9 hx hb hts hown hK hP d_Mo_flagRows_4 ?_
  refine lv_iload_n hx hb d_Mo_flagRows_7 rfl (lv_at hl 0 rfl) ?_
  obtain ⟨c_1, hf⟩ := it_n hf
  refine ma_9 (v := sa 9 (4 : Int32).toNatClampNeg) hx hb hK hP c_1 rfl d_Mo_flagRows_8 ?_
  refine lv_i2l hx hb d_Mo_flagRows_9 rfl ?_
  obtain ⟨⟨z_6, i_2, j_3, a_4, b_5⟩, hc, hf⟩ := ob hf
  have hFc := mo_free hD hS hA
  refine cl_M (v := (some (.int z_6))) (st1 := [.int z_6]) (va_runV (As := [.long ((sa 9 (4 : Int32).toNatClampNeg).toInt64)]) (rest := []) ⟨hx, hb, hml, hown, hts⟩ (c_Mo_needs l dC dI h0 r cA H.size nf ((sa 9 (4 : Int32).toNatClampNeg).toInt64) si sj sa sb hc) (cwV 1 hts (gdV m_7_151 m_7_153 msel_64 m_1_10 m_7_154) rfl rfl rfl (by decide +kernel) ⟨Nat.le_trans (Nat.le_of_ble_eq_true rfl) hRf, Nat.le_trans (Nat.le_of_ble_eq_true rfl) hRl⟩) ((MU.pre hP hK hD (hST.mu hS hFc)).vir (va_recv hK hP (ci := 10) (q0 := 0) rfl rfl)) rfl rfl hl.1 rfl (lv_room (Nat.le_of_ble_eq_true rfl)) d_Mo_flagRows_10 ⟨Nat.zero_le _, Nat.zero_le _⟩) rfl hS (fun q _ h => hFc q h) hFc (fun t H1 locs ht hvm hB hz1 hk1 hS => ?_)
  obtain ⟨hP, hD⟩ := mo_back ht hD hB
  generalize H1 = H at hP hS ⊢
  refine lv_if_ne (tgt := 18) hx hb d_Mo_flagRows_13 (by decide) (fun c_7 => ?_) (fun c_7 => ?_)
  · have hf := it_f c_7 hf
    refine lv_iconst (v := 0) hx hb d_Mo_flagRows_18 (by decide) ?_
    refine lv_istore_n (lv' := [(2, .int 0), (1, .int 4), (0, .ref h0)]) hx hb d_Mo_flagRows_19 rfl hl (by decide) rfl (fun ls hl => ?_)
    exact k_Mo_flagRows_20 C0 hST hA hK hE nf hf hP hD hS (lv_sub hl [0, 1, 2] rfl)
  · have hf := it_t c_7 hf
    refine lv_iconst (v := 0) hx hb d_Mo_flagRows_16 (by decide) ?_
    cases rs hf
    exact hE _ _ _ _ d_Mo_flagRows_17 rfl hP hD hS
end
set_option maxHeartbeats 400000 in
set_option maxRecDepth 100000 in
theorem c_Mo_flagRows (l : Launch) (dC : Nat → ClassId) (dI : Nat → Nat → Nat) (h0 : Nat) (r : Nat → Nat) (cA : Nat → ClassId) (sz : Nat) (nf : Nat) (si : Nat → Int32) (sj : Nat → Int64) (sa : Nat → Nat → Int32) (sb : Nat → Nat → Int64) {r0 : Int32} {vi : Nat → Int32} {vj : Nat → Int64} {va : Nat → Nat → Int32} {vb : Nat → Nat → Int64} (hf : f_Mo_flagRows nf si sj sa sb = some (r0, vi, vj, va, vb)) : Met l y_Mo_flagRows (wd y_Mo_flagRows b_Mo_flagRows 4 (some .boolean)) ({ frames := 2, cells := 0, slots := 0, locals := 44 }) (MU dC dI (moW h0 r cA si sj sa sb) (moT cA) sz [.ref h0]) (MV (some (.int r0)) (fun t => va_P (dC, dI) classes (moW h0 r cA vi vj va vb) t.heap) (va_A (moW h0 r cA si sj sa sb) sz)) 0 0 (va_A (moW h0 r cA si sj sa sb) sz) :=
  met_M (plainFor_of_name (by decide)) (Nat.le_of_ble_eq_true rfl) (fun p e R s m args below meth c ls hRc hRs hsz hin C0 hST hK hP hD hl => by
    obtain ⟨hx, hb, hr, hml, hown, hts, hlocks, hRf, hRl⟩ := id C0
    subst hsz
    have hA : ∀ q : Nat, s.heap.size ≤ q → va_A (moW h0 r cA si sj sa sb) s.heap.size q := fun q h => Or.inr h
    have hS : va_S (va_A (moW h0 r cA si sj sa sb) s.heap.size) s.heap s.heap [] := va_S.rf
    unfold f_Mo_flagRows at hf
    exact k_Mo_flagRows_0 C0 hST hA hK (fun pc ls H locs hd hn hP hD hS => W.zret hx hb hr hn (fun t ht hW => ⟨⟨rfl, mo_end ht hP⟩, hS.F ht⟩) hS.2.2 hd) hf hP hD hS (lv_sub hl [0] rfl))
-- ZoneFilesModel.leapRows(I)Z
def f_Mo_leapRows_86 (nf : Nat) (si : Nat → Int32) (sj : Nat → Int64) (sa : Nat → Nat → Int32) (sb : Nat → Nat → Int64) : Option (Int32 × (Nat → Int32) × (Nat → Int64) × (Nat → Nat → Int32) × (Nat → Nat → Int64)) :=
  (f_Mo_faulty nf 11 (si 32) si sj sa sb).bind fun (z_16, i_12, j_13, a_14, b_15) =>
  if z_16 = 0 ∨ z_16 = 1 then some (z_16, i_12, j_13, a_14, b_15) else none
def f_Mo_leapRows_162 (nf : Nat) (K27 : Int32 → Int32 → Int32 → (Nat → Int32) → (Nat → Int64) → (Nat → Nat → Int32) → (Nat → Nat → Int64) → Option (Int32 × (Nat → Int32) × (Nat → Int64) × (Nat → Nat → Int32) × (Nat → Nat → Int64))) (x7 : Int64) (x5 : Int64) (x4 : Int32) (x3 : Int32) (x2 : Int32) (x1 : Int32) (si : Nat → Int32) (sj : Nat → Int64) (sa : Nat → Nat → Int32) (sb : Nat → Nat → Int64) : Option (Int32 × (Nat → Int32) × (Nat → Int64) × (Nat → Nat → Int32) × (Nat → Nat → Int64)) :=
  if x4 < 0 ∨ 200 ≤ x4.toNatClampNeg then none else
  if x4 < 0 ∨ 200 ≤ x4.toNatClampNeg then none else
  K27 (x3 + 1) x2 x1 (va_up si 32 ((si 32) + (x1 + 4))) sj sa (va_up (va_up sb 18 (vp_updL (sb 18) x4.toNatClampNeg x5)) 19 (vp_updL (sb 19) x4.toNatClampNeg x7))
def f_Mo_leapRows_131 (nf : Nat) (K27 : Int32 → Int32 → Int32 → (Nat → Int32) → (Nat → Int64) → (Nat → Nat → Int32) → (Nat → Nat → Int64) → Option (Int32 × (Nat → Int32) × (Nat → Int64) × (Nat → Nat → Int32) × (Nat → Nat → Int64))) (x7 : Int64) (x5 : Int64) (x4 : Int32) (x3 : Int32) (x2 : Int32) (x1 : Int32) (s0 : Int64) (si : Nat → Int32) (sj : Nat → Int64) (sa : Nat → Nat → Int32) (sb : Nat → Nat → Int64) : Option (Int32 × (Nat → Int32) × (Nat → Int64) × (Nat → Nat → Int32) × (Nat → Nat → Int64)) :=
  if s0 = (1 : Int64) then
  f_Mo_leapRows_162 nf K27 x7 x5 x4 x3 x2 x1 si sj sa sb
  else
  if s0 = (-1 : Int64) then
    f_Mo_leapRows_162 nf K27 x7 x5 x4 x3 x2 x1 si sj sa sb
    else
    (f_Mo_faulty nf 12 ((si 32) + x1) si sj sa sb).bind fun (z_30, i_26, j_27, a_28, b_29) =>
      if z_30 = 0 ∨ z_30 = 1 then some (z_30, i_26, j_27, a_28, b_29) else none
def f_Mo_leapRows_97 (nf : Nat) (K27 : Int32 → Int32 → Int32 → (Nat → Int32) → (Nat → Int64) → (Nat → Nat → Int32) → (Nat → Nat → Int64) → Option (Int32 × (Nat → Int32) × (Nat → Int64) × (Nat → Nat → Int32) × (Nat → Nat → Int64))) (x5 : Int64) (x4 : Int32) (x3 : Int32) (x2 : Int32) (x1 : Int32) (si : Nat → Int32) (sj : Nat → Int64) (sa : Nat → Nat → Int32) (sb : Nat → Nat → Int64) : Option (Int32 × (Nat → Int32) × (Nat → Int64) × (Nat → Nat → Int32) × (Nat → Nat → Int64)) :=
  (f_Mo_signed nf ((si 32) + x1) 4 si sj sa sb).bind fun r_19 =>
  if x3 = 0 then
  f_Mo_leapRows_131 nf K27 r_19 x5 x4 x3 x2 x1 r_19 si sj sa sb
  else
  if (x4 - 1) < 0 ∨ 200 ≤ (x4 - 1).toNatClampNeg then none else
    f_Mo_leapRows_131 nf K27 r_19 x5 x4 x3 x2 x1 (r_19 - (sb 19 (x4 - 1).toNatClampNeg)) si sj sa sb
def f_Mo_leapRows_27 (nf : Nat) : Nat → Int32 → Int32 → Int32 → (Nat → Int32) → (Nat → Int64) → (Nat → Nat → Int32) → (Nat → Nat → Int64) → Option (Int32 × (Nat → Int32) × (Nat → Int64) × (Nat → Nat → Int32) × (Nat → Nat → Int64))
  | 0, _, _, _, _, _, _, _ => none
  | n + 1, x3, x2, x1, si, sj, sa, sb =>
    if x2 < 0 ∨ 5 ≤ x2.toNatClampNeg then none else
    if (sa 8 x2.toNatClampNeg) ≤ x3 then
    some (1, si, sj, sa, sb)
    else
    (f_Mo_signed nf (si 32) x1 si sj sa sb).bind fun r_10 =>
      if r_10 < (0 : Int64) then
      f_Mo_leapRows_86 nf si sj sa sb
      else
      if x3 ≤ 0 then
        f_Mo_leapRows_97 nf (f_Mo_leapRows_27 nf n) r_10 ((40 * x2) + x3) x3 x2 x1 si sj sa sb
        else
        if (((40 * x2) + x3) - 1) < 0 ∨ 200 ≤ (((40 * x2) + x3) - 1).toNatClampNeg then none else
          if (2419199 : Int64) ≤ (r_10 - (sb 18 (((40 * x2) + x3) - 1).toNatClampNeg)) then
          f_Mo_leapRows_97 nf (f_Mo_leapRows_27 nf n) r_10 ((40 * x2) + x3) x3 x2 x1 si sj sa sb
          else
          f_Mo_leapRows_86 nf si sj sa sb
def f_Mo_leapRows_0 (nf : Nat) (x1 : Int32) (si : Nat → Int32) (sj : Nat → Int64) (sa : Nat → Nat → Int32) (sb : Nat → Nat → Int64) : Option (Int32 × (Nat → Int32) × (Nat → Int64) × (Nat → Nat → Int32) × (Nat → Nat → Int64)) :=
  if (4 : Int32) < 0 ∨ 5 ≤ (4 : Int32).toNatClampNeg then none else
  (f_Mo_needs nf ((x1.toInt64 + 4) * ((sa 8 (4 : Int32).toNatClampNeg).toInt64)) si sj sa sb).bind fun (z_6, i_2, j_3, a_4, b_5) =>
  if z_6 = 0 then
  some (0, i_2, j_3, a_4, b_5)
  else
  f_Mo_leapRows_27 nf nf 0 4 x1 i_2 j_3 a_4 b_5
def f_Mo_leapRows (nf : Nat) (p0 : Int32) (si : Nat → Int32) (sj : Nat → Int64) (sa : Nat → Nat → Int32) (sb : Nat → Nat → Int64) : Option (Int32 × (Nat → Int32) × (Nat → Int64) × (Nat → Nat → Int32) × (Nat → Nat → Int64)) :=
  f_Mo_leapRows_0 nf p0 si sj sa sb
section
variable {p : Program} {l : Launch} {e : Env} {R : Room} {s : State} {m : MethodId} {args : Array Value} {below : List Frame} {meth : Method} {c : Code} {Q : State → Prop} {dC : Nat → ClassId} {dI : Nat → Nat → Nat} {nf : Nat} {A : Nat → Prop} {h0 : Nat} {r : Nat → Nat} {cA : Nat → ClassId}
variable {r0 : Int32} {vi : Nat → Int32} {vj : Nat → Int64} {va : Nat → Nat → Int32} {vb : Nat → Nat → Int64}
set_option maxHeartbeats 400000 in
set_option maxRecDepth 100000 in
theorem k_Mo_leapRows_86 (C0 : Cx p s m meth c args R b_Mo_leapRows "ZoneFilesModel" 11 (some .boolean) 2 49) (hST : ST A s s.heap) (hA : ∀ q, s.heap.size ≤ q → A q) (hK : va_K (dC, dI) classes (moT cA) s) (hE : ∀ (pc : Nat) (ls : Array Slot) (H : Heap) (locs : List Loc), decode b_Mo_leapRows pc = .ok (.ireturn, 1) → narrow .boolean (.int r0) = .int r0 → va_P (dC, dI) classes (moW h0 r cA vi vj va vb) H → va_D A (moW h0 r cA vi vj va vb) → va_S A s.heap H locs → W p l e R s m args below meth c H locs 0 0 Q (F0 m pc ls [.int r0])) {si : Nat → Int32} {sj : Nat → Int64} {sa : Nat → Nat → Int32} {sb : Nat → Nat → Int64} (hf : f_Mo_leapRows_86 nf si sj sa sb = some (r0, vi, vj, va, vb)) {H : Heap} {locs : List Loc} {ls : Array Slot} (hP : va_P (dC, dI) classes (moW h0 r cA si sj sa sb) H) (hD : va_D A (moW h0 r cA si sj sa sb)) (hS : va_S A s.heap H locs) (hl : lv_has ls 11 [(0, .ref h0)]) : W p l e R s m args below meth c H locs 0 0 Q (F0 m 86 ls []) := by
  obtain ⟨hx, hb, hr, hml, hown, hts, hlocks, hRf, hRl⟩ := id C0
  unfold f_Mo_leapRows_86 at hf
  refine lv_aload_n hx hb d_Mo_leapRows_86 rfl (lv_at hl 0 rfl) ?_
  refine lv_bipush (v := 11) hx hb d_Mo_leapRows_87 (by decide) ?_
  refine lv_aload_n hx hb d_Mo_leapRows_89 rfl (lv_at hl 0 rfl) ?_
  refine mg_32 (v := si 32) hx hb hts hown hK hP rfl d_Mo_leapRows_90 ?_
  obtain ⟨⟨z_16, i_12, j_13, a_14, b_15⟩, hc, hf⟩ := ob hf
  have hFc := mo_free hD hS hA
  refine cl_M (v := (some (.int z_16))) (st1 := [.int z_16]) (va_runV (As := [.int 11, .int (si 32)]) (rest := []) ⟨hx, hb, hml, hown, hts⟩ (c_Mo_faulty l dC dI h0 r cA H.size nf 11 (si 32) si sj sa sb hc) (cwV 2 hts (gdV m_7_133 m_7_135 msel_60 m_1_10 m_7_136) rfl rfl rfl (by decide +kernel) ⟨Nat.le_trans (Nat.le_of_ble_eq_true rfl) hRf, Nat.le_trans (Nat.le_of_ble_eq_true rfl) hRl⟩) ((MU.pre hP hK hD (hST.mu hS hFc)).vir (va_recv hK hP (ci := 10) (q0 := 0) rfl rfl)) rfl rfl hl.1 rfl (lv_room (Nat.le_of_ble_eq_true rfl)) d_Mo_leapRows_93 ⟨Nat.zero_le _, Nat.zero_le _⟩) rfl hS (fun q _ h => hFc q h) hFc (fun t H1 locs ht hvm hB hz1 hk1 hS => ?_)
  obtain ⟨hP, hD⟩ := mo_back ht hD hB
  generalize H1 = H at hP hS ⊢
  obtain ⟨c_17, hf⟩ := it_g hf
  cases rs hf
  exact hE _ _ _ _ d_Mo_leapRows_96 (nb_of c_17) hP hD hS
set_option maxHeartbeats 400000 in
set_option maxRecDepth 100000 in
theorem k_Mo_leapRows_162 (C0 : Cx p s m meth c args R b_Mo_leapRows "ZoneFilesModel" 11 (some .boolean) 2 49) (hST : ST A s s.heap) (hA : ∀ q, s.heap.size ≤ q → A q) (hK : va_K (dC, dI) classes (moT cA) s) (hE : ∀ (pc : Nat) (ls : Array Slot) (H : Heap) (locs : List Loc), decode b_Mo_leapRows pc = .ok (.ireturn, 1) → narrow .boolean (.int r0) = .int r0 → va_P (dC, dI) classes (moW h0 r cA vi vj va vb) H → va_D A (moW h0 r cA vi vj va vb) → va_S A s.heap H locs → W p l e R s m args below meth c H locs 0 0 Q (F0 m pc ls [.int r0])) {K27 : Int32 → Int32 → Int32 → (Nat → Int32) → (Nat → Int64) → (Nat → Nat → Int32) → (Nat → Nat → Int64) → Option (Int32 × (Nat → Int32) × (Nat → Int64) × (Nat → Nat → Int32) × (Nat → Nat → Int64))} (hK27 : ∀ {x3 : Int32} {x2 : Int32} {x1 : Int32} {si : Nat → Int32} {sj : Nat → Int64} {sa : Nat → Nat → Int32} {sb : Nat → Nat → Int64}, K27 x3 x2 x1 si sj sa sb = some (r0, vi, vj, va, vb) → ∀ {H : Heap} {locs : List Loc} {ls : Array Slot}, va_P (dC, dI) classes (moW h0 r cA si sj sa sb) H → va_D A (moW h0 r cA si sj sa sb) → va_S A s.heap H locs → lv_has ls 11 [(3, .int x3), (2, .int x2), (0, .ref h0), (1, .int x1)] → W p l e R s m args below meth c H locs 0 0 Q (F0 m 27 ls [])) {x7 : Int64} {x5 : Int64} {x4 : Int32} {x3 : Int32} {x2 : Int32} {x1 : Int32} {si : Nat → Int32} {sj : Nat → Int64} {sa : Nat → Nat → Int32} {sb : Nat → Nat → Int64} (hf : f_Mo_leapRows_162 nf K27 x7 x5 x4 x3 x2 x1 si sj sa sb = some (r0, vi, vj, va, vb)) {H : Heap} {locs : List Loc} {ls : Array Slot} (hP : va_P (dC, dI) classes (moW h0 r cA si sj sa sb) H) (hD : va_D A (moW h0 r cA si sj sa sb)) (hS : va_S A s.heap H locs) (hl : lv_has ls 11 [(7, .long x7), (5, .long x5), (4, .int x4), (3, .int x3), (2, .int x2), (0, .ref h0), (1, .int x1)]) : W p l e R s m args below meth c H locs 0 0 Q (F0 m 162 ls []) := by
  obtain ⟨hx, hb, hr, hml, hown, hts, hlocks, hRf, hRl⟩ := id C0
  unfold f_Mo_leapRows_162 at hf
  refine lv_aload_n hx hb d_Mo_leapRows_162 rfl (lv_at hl 5 rfl) ?_
  refine mg_18 hx hb hts hown hK hP d_Mo_leapRows_163 ?_
  refine lv_iload hx hb d_Mo_leapRows_166 (lv_at hl 2 rfl) ?_
  refine lv_lload hx hb d_Mo_leapRows_168 (lv_at hl 1 rfl) ?_
  obtain ⟨c_23, hf⟩ := it_n hf
  refine mz_18 hx hb hK hP hD hS c_23 d_Mo_leapRows_170 (fun H locs hP hD hS => ?_)
  refine lv_aload_n hx hb d_Mo_leapRows_171 rfl (lv_at hl 5 rfl) ?_
  refine mg_19 hx hb hts hown hK hP d_Mo_leapRows_172 ?_
  refine lv_iload hx hb d_Mo_leapRows_175 (lv_at hl 2 rfl) ?_
  refine lv_lload hx hb d_Mo_leapRows_177 (lv_at hl 0 rfl) ?_
  obtain ⟨c_24, hf⟩ := it_n hf
  refine mz_19 hx hb hK hP hD hS c_24 d_Mo_leapRows_179 (fun H locs hP hD hS => ?_)
  refine lv_aload_n hx hb d_Mo_leapRows_180 rfl (lv_at hl 5 rfl) ?_
  refine lv_dup hx hb d_Mo_leapRows_181 rfl ?_
  refine mg_32 (v := si 32) hx hb hts hown hK hP rfl d_Mo_leapRows_182 ?_
  refine lv_iload_n hx hb d_Mo_leapRows_185 rfl (lv_at hl 6 rfl) ?_
  refine lv_iconst (v := 4) hx hb d_Mo_leapRows_186 (by decide) ?_
  refine lv_iadd hx hb d_Mo_leapRows_187 ?_
  refine lv_iadd hx hb d_Mo_leapRows_188 ?_
  refine mp_32 hx hb hts hown hK hP hD hS d_Mo_leapRows_189 (fun H locs hP hD hS => ?_)
  refine lv_iinc (v := x3 + 1) (lv' := [(3, .int (x3 + 1)), (7, .long x7), (5, .long x5), (4, .int x4), (2, .int x2), (0, .ref h0), (1, .int x1)]) hx hb d_Mo_leapRows_192 hl (k := 3) rfl rfl (by decide) rfl (fun ls hl => ?_)
  refine lv_goto (tgt := 27) hx hb d_Mo_leapRows_195 (by decide) ?_
  exact hK27 hf hP hD hS (lv_sub hl [0, 4, 5, 6] rfl)
set_option maxHeartbeats 400000 in
set_option maxRecDepth 100000 in
theorem k_Mo_leapRows_131 (C0 : Cx p s m meth c args R b_Mo_leapRows "ZoneFilesModel" 11 (some .boolean) 2 49) (hST : ST A s s.heap) (hA : ∀ q, s.heap.size ≤ q → A q) (hK : va_K (dC, dI) classes (moT cA) s) (hE : ∀ (pc : Nat) (ls : Array Slot) (H : Heap) (locs : List Loc), decode b_Mo_leapRows pc = .ok (.ireturn, 1) → narrow .boolean (.int r0) = .int r0 → va_P (dC, dI) classes (moW h0 r cA vi vj va vb) H → va_D A (moW h0 r cA vi vj va vb) → va_S A s.heap H locs → W p l e R s m args below meth c H locs 0 0 Q (F0 m pc ls [.int r0])) {K27 : Int32 → Int32 → Int32 → (Nat → Int32) → (Nat → Int64) → (Nat → Nat → Int32) → (Nat → Nat → Int64) → Option (Int32 × (Nat → Int32) × (Nat → Int64) × (Nat → Nat → Int32) × (Nat → Nat → Int64))} (hK27 : ∀ {x3 : Int32} {x2 : Int32} {x1 : Int32} {si : Nat → Int32} {sj : Nat → Int64} {sa : Nat → Nat → Int32} {sb : Nat → Nat → Int64}, K27 x3 x2 x1 si sj sa sb = some (r0, vi, vj, va, vb) → ∀ {H : Heap} {locs : List Loc} {ls : Array Slot}, va_P (dC, dI) classes (moW h0 r cA si sj sa sb) H → va_D A (moW h0 r cA si sj sa sb) → va_S A s.heap H locs → lv_has ls 11 [(3, .int x3), (2, .int x2), (0, .ref h0), (1, .int x1)] → W p l e R s m args below meth c H locs 0 0 Q (F0 m 27 ls [])) {x7 : Int64} {x5 : Int64} {x4 : Int32} {x3 : Int32} {x2 : Int32} {x1 : Int32} {s0 : Int64} {si : Nat → Int32} {sj : Nat → Int64} {sa : Nat → Nat → Int32} {sb : Nat → Nat → Int64} (hf : f_Mo_leapRows_131 nf K27 x7 x5 x4 x3 x2 x1 s0 si sj sa sb = some (r0, vi, vj, va, vb)) {H : Heap} {locs : List Loc} {ls : Array Slot} (hP : va_P (dC, dI) classes (moW h0 r cA si sj sa sb) H) (hD : va_D A (moW h0 r cA si sj sa sb)) (hS : va_S A s.heap H locs) (hl : lv_has ls 11 [(7, .long x7), (5, .long x5), (4, .int x4), (3, .int x3), (2, .int x2), (0, .ref h0), (1, .int x1)]) : W p l e R s m args below meth c H locs 0 0 Q (F0 m 131 ls [.long s0]) := by
  obtain ⟨hx, hb, hr, hml, hown, hts, hlocks, hRf, hRl⟩ := id C0
  unfold f_Mo_leapRows_131 at hf
  refine lv_lstore (lv' := [(9, .long s0), (7, .long x7), (5, .long x5), (4, .int x4), (3, .int x3), (2, .int x2), (0, .ref h0), (1, .int x1)]) hx hb d_Mo_leapRows_131 hl (by decide) rfl (fun ls hl => ?_)
  refine lv_lload hx hb d_Mo_leapRows_133 (lv_at hl 0 rfl) ?_
  refine lv_lconst (v := 1) hx hb d_Mo_leapRows_135 (by decide) ?_
  refine lc_eq (tgt := 162) hx hb d_Mo_leapRows_136 d_Mo_leapRows_137 (by decide) (fun c_22 => ?_) (fun c_22 => ?_)
  · have hf := it_t c_22 hf
    exact k_Mo_leapRows_162 C0 hST hA hK hE hK27 hf hP hD hS (lv_sub hl [1, 2, 3, 4, 5, 6, 7] rfl)
  · have hf := it_f c_22 hf
    refine lv_lload hx hb d_Mo_leapRows_140 (lv_at hl 0 rfl) ?_
    refine lv_ldc2 (v := (-1)) hx hb hown (hts (.constantLong "ZoneFilesModel" 267 (-1)) m_7_185) d_Mo_leapRows_142 ?_
    refine lc_eq (tgt := 162) hx hb d_Mo_leapRows_145 d_Mo_leapRows_146 (by decide) (fun c_25 => ?_) (fun c_25 => ?_)
    · have hf := it_t c_25 hf
      exact k_Mo_leapRows_162 C0 hST hA hK hE hK27 hf hP hD hS (lv_sub hl [1, 2, 3, 4, 5, 6, 7] rfl)
    · have hf := it_f c_25 hf
      refine lv_aload_n hx hb d_Mo_leapRows_149 rfl (lv_at hl 6 rfl) ?_
      refine lv_bipush (v := 12) hx hb d_Mo_leapRows_150 (by decide) ?_
      refine lv_aload_n hx hb d_Mo_leapRows_152 rfl (lv_at hl 6 rfl) ?_
      refine mg_32 (v := si 32) hx hb hts hown hK hP rfl d_Mo_leapRows_153 ?_
      refine lv_iload_n hx hb d_Mo_leapRows_156 rfl (lv_at hl 7 rfl) ?_
      refine lv_iadd hx hb d_Mo_leapRows_157 ?_
      obtain ⟨⟨z_30, i_26, j_27, a_28, b_29⟩, hc, hf⟩ := ob hf
      have hFc := mo_free hD hS hA
      refine cl_M (v := (some (.int z_30))) (st1 := [.int z_30]) (va_runV (As := [.int 12, .int ((si 32) + x1)]) (rest := []) ⟨hx, hb, hml, hown, hts⟩ (c_Mo_faulty l dC dI h0 r cA H.size nf 12 ((si 32) + x1) si sj sa sb hc) (cwV 2 hts (gdV m_7_133 m_7_135 msel_60 m_1_10 m_7_136) rfl rfl rfl (by decide +kernel) ⟨Nat.le_trans (Nat.le_of_ble_eq_true rfl) hRf, Nat.le_trans (Nat.le_of_ble_eq_true rfl) hRl⟩) ((MU.pre hP hK hD (hST.mu hS hFc)).vir (va_recv hK hP (ci := 10) (q0 := 0) rfl rfl)) rfl rfl hl.1 rfl (lv_room (Nat.le_of_ble_eq_true rfl)) d_Mo_leapRows_158 ⟨Nat.zero_le _, Nat.zero_le _⟩) rfl hS (fun q _ h => hFc q h) hFc (fun t H1 locs ht hvm hB hz1 hk1 hS => ?_)
      obtain ⟨hP, hD⟩ := mo_back ht hD hB
      generalize H1 = H at hP hS ⊢
      obtain ⟨c_31, hf⟩ := it_g hf
      cases rs hf
      exact hE _ _ _ _ d_Mo_leapRows_161 (nb_of c_31) hP hD hS
set_option maxHeartbeats 400000 in
set_option maxRecDepth 100000 in
theorem k_Mo_leapRows_97 (C0 : Cx p s m meth c args R b_Mo_leapRows "ZoneFilesModel" 11 (some .boolean) 2 49) (hST : ST A s s.heap) (hA : ∀ q, s.heap.size ≤ q → A q) (hK : va_K (dC, dI) classes (moT cA) s) (hE : ∀ (pc : Nat) (ls : Array Slot) (H : Heap) (locs : List Loc), decode b_Mo_leapRows pc = .ok (.ireturn, 1) → narrow .boolean (.int r0) = .int r0 → va_P (dC, dI) classes (moW h0 r cA vi vj va vb) H → va_D A (moW h0 r cA vi vj va vb) → va_S A s.heap H locs → W p l e R s m args below meth c H locs 0 0 Q (F0 m pc ls [.int r0])) {K27 : Int32 → Int32 → Int32 → (Nat → Int32) → (Nat → Int64) → (Nat → Nat → Int32) → (Nat → Nat → Int64) → Option (Int32 × (Nat → Int32) × (Nat → Int64) × (Nat → Nat → Int32) × (Nat → Nat → Int64))} (hK27 : ∀ {x3 : Int32} {x2 : Int32} {x1 : Int32} {si : Nat → Int32} {sj : Nat → Int64} {sa : Nat → Nat → Int32} {sb : Nat → Nat → Int64}, K27 x3 x2 x1 si sj sa sb = some (r0, vi, vj, va, vb) → ∀ {H : Heap} {locs : List Loc} {ls : Array Slot}, va_P (dC, dI) classes (moW h0 r cA si sj sa sb) H → va_D A (moW h0 r cA si sj sa sb) → va_S A s.heap H locs → lv_has ls 11 [(3, .int x3), (2, .int x2), (0, .ref h0), (1, .int x1)] → W p l e R s m args below meth c H locs 0 0 Q (F0 m 27 ls [])) {x5 : Int64} {x4 : Int32} {x3 : Int32} {x2 : Int32} {x1 : Int32} {si : Nat → Int32} {sj : Nat → Int64} {sa : Nat → Nat → Int32} {sb : Nat → Nat → Int64} (hf : f_Mo_leapRows_97 nf K27 x5 x4 x3 x2 x1 si sj sa sb = some (r0, vi, vj, va, vb)) {H : Heap} {locs : List Loc} {ls : Array Slot} (hP : va_P (dC, dI) classes (moW h0 r cA si sj sa sb) H) (hD : va_D A (moW h0 r cA si sj sa sb)) (hS : va_S A s.heap H locs) (hl : lv_has ls 11 [(5, .long x5), (4, .int x4), (3, .int x3), (2, .int x2), (0, .ref h0), (1, .int x1)]) : W p l e R s m args below meth c H locs 0 0 Q (F0 m 97 ls []) := by
  obtain ⟨hx, hb, hr, hml, hown, hts, hlocks, hRf, hRl⟩ := id C0
  unfold f_Mo_leapRows_97 at hf
  refine lv_aload_n hx hb d_Mo_leapRows_97 rfl (lv_at hl 4 rfl) ?_
  refine lv_aload_n hx hb d_Mo_leapRows_98 rfl (lv_at hl 4 rfl) ?_
  refine mg_32 (v := si 32) hx hb hts hown hK hP rfl d_Mo_leapRows_99 ?_
  refine lv_iload_n hx hb d_Mo_leapRows_102 rfl (lv_at hl 5 rfl) ?_
  refine lv_iadd hx hb d_Mo_leapRows_103 ?_
  refine lv_iconst (v := 4) hx hb d_Mo_leapRows_104 (by decide) ?_
  obtain ⟨r_19, hc, hf⟩ := ob hf
  refine cl_S (v := (some (.long r_19))) (st1 := [.long r_19]) (va_runV (As := [.int ((si 32) + x1), .int 4]) (rest := []) ⟨hx, hb, hml, hown, hts⟩ (c_Mo_signed l dC dI h0 r cA nf ((si 32) + x1) 4 si sj sa sb hc) (cwV 2 hts (gdV m_7_155 m_7_157 msel_65 m_1_10 m_7_158) rfl rfl rfl (by decide +kernel) ⟨Nat.le_trans (Nat.le_of_ble_eq_true rfl) hRf, Nat.le_trans (Nat.le_of_ble_eq_true rfl) hRl⟩) ((RO.pre hP hK (hST.ro hS)).vir (va_recv hK hP (ci := 10) (q0 := 0) rfl rfl)) rfl rfl hl.1 rfl (lv_room (Nat.le_of_ble_eq_true rfl)) d_Mo_leapRows_105 ⟨Nat.zero_le _, Nat.zero_le _⟩) rfl ?_
  refine lv_lstore (lv' := [(7, .long r_19), (5, .long x5), (4, .int x4), (3, .int x3), (2, .int x2), (0, .ref h0), (1, .int x1)]) hx hb d_Mo_leapRows_108 hl (by decide) rfl (fun ls hl => ?_)
  refine lv_iload_n hx hb d_Mo_leapRows_110 rfl (lv_at hl 3 rfl) ?_
  refine lv_if_ne (tgt := 119) hx hb d_Mo_leapRows_111 (by decide) (fun c_20 => ?_) (fun c_20 => ?_)
  · have hf := it_f c_20 hf
    refine lv_lload hx hb d_Mo_leapRows_119 (lv_at hl 0 rfl) ?_
    refine lv_aload_n hx hb d_Mo_leapRows_121 rfl (lv_at hl 5 rfl) ?_
    refine mg_19 hx hb hts hown hK hP d_Mo_leapRows_122 ?_
    refine lv_iload hx hb d_Mo_leapRows_125 (lv_at hl 2 rfl) ?_
    refine lv_iconst (v := 1) hx hb d_Mo_leapRows_127 (by decide) ?_
    refine lv_isub hx hb d_Mo_leapRows_128 ?_
    obtain ⟨c_21, hf⟩ := it_n hf
    refine ma_19 (v := sb 19 (x4 - 1).toNatClampNeg) hx hb hK hP c_21 rfl d_Mo_leapRows_129 ?_
    refine lv_lsub hx hb d_Mo_leapRows_130 ?_
    exact k_Mo_leapRows_131 C0 hST hA hK hE hK27 hf hP hD hS (lv_sub hl [0, 1, 2, 3, 4, 5, 6] rfl)
  · have hf := it_t c_20 hf
    refine lv_lload hx hb d_Mo_leapRows_114 (lv_at hl 0 rfl) ?_
    refine lv_goto (tgt := 131) hx hb d_Mo_leapRows_116 (by decide) ?_
    exact k_Mo_leapRows_131 C0 hST hA hK hE hK27 hf hP hD hS (lv_sub hl [0, 1, 2, 3, 4, 5, 6] rfl)
set_option maxHeartbeats 400000 in
set_option maxRecDepth 100000 in
theorem k_Mo_leapRows_27 (C0 : Cx p s m meth c args R b_Mo_leapRows "ZoneFilesModel" 11 (some .boolean) 2 49) (hST : ST A s s.heap) (hA : ∀ q, s.heap.size ≤ q → A q) (hK : va_K (dC, dI) classes (moT cA) s) (hE : ∀ (pc : Nat) (ls : Array Slot) (H : Heap) (locs : List Loc), decode b_Mo_leapRows pc = .ok (.ireturn, 1) → narrow .boolean (.int r0) = .int r0 → va_P (dC, dI) classes (moW h0 r cA vi vj va vb) H → va_D A (moW h0 r cA vi vj va vb) → va_S A s.heap H locs → W p l e R s m args below meth c H locs 0 0 Q (F0 m pc ls [.int r0])) : ∀ (n : Nat) {x3 : Int32} {x2 : Int32} {x1 : Int32} {si : Nat → Int32} {sj : Nat → Int64} {sa : Nat → Nat → Int32} {sb : Nat → Nat → Int64}, f_Mo_leapRows_27 nf n x3 x2 x1 si sj sa sb = some (r0, vi, vj, va, vb) → ∀ {H : Heap} {locs : List Loc} {ls : Array Slot}, va_P (dC, dI) classes (moW h0 r cA si sj sa sb) H → va_D A (moW h0 r cA si sj sa sb) → va_S A s.heap H locs → lv_has ls 11 [(3, .int x3), (2, .int x2), (0, .ref h0), (1, .int x1)] → W p l e R s m args below meth c H locs 0 0 Q (F0 m 27 ls []) := by
  obtain ⟨hx, hb, hr, hml, hown, hts, hlocks, hRf, hRl⟩ := id C0
  intro n
  induction n with
  | zero =>
    intro x3 x2 x1 si sj sa sb hf
    exact absurd hf (by simp [f_Mo_leapRows_27])
  | succ n ih =>
    intro x3 x2 x1 si sj sa sb hf H locs ls hP hD hS hl
    unfold f_Mo_leapRows_27 at hf
    refine lv_iload_n hx hb d_Mo_leapRows_27 rfl (lv_at hl 0 rfl) ?_
    refine lv_aload_n hx hb d_Mo_leapRows_28 rfl (lv_at hl 2 rfl) ?_
    refine mg_8 hx hb hts hown hK hP d_Mo_leapRows_29 ?_
    refine lv_iload_n hx hb d_Mo_leapRows_32 rfl (lv_at hl 1 rfl) ?_
    obtain ⟨c_8, hf⟩ := it_n hf
    refine ma_8 (v := sa 8 x2.toNatClampNeg) hx hb hK hP c_8 rfl d_Mo_leapRows_33 ?_
    refine lv_icmp_ge (tgt := 198) hx hb d_Mo_leapRows_34 (by decide) (fun c_9 => ?_) (fun c_9 => ?_)
    · have hf := it_t c_9 hf
      refine lv_iconst (v := 1) hx hb d_Mo_leapRows_198 (by decide) ?_
      cases rs hf
      exact hE _ _ _ _ d_Mo_leapRows_199 rfl hP hD hS
    · have hf := it_f c_9 hf
      refine lv_bipush (v := 40) hx hb d_Mo_leapRows_37 (by decide) ?_
      refine lv_iload_n hx hb d_Mo_leapRows_39 rfl (lv_at hl 1 rfl) ?_
      refine lv_imul hx hb d_Mo_leapRows_40 ?_
      refine lv_iload_n hx hb d_Mo_leapRows_41 rfl (lv_at hl 0 rfl) ?_
      refine lv_iadd hx hb d_Mo_leapRows_42 ?_
      refine lv_istore (lv' := [(4, .int ((40 * x2) + x3)), (3, .int x3), (2, .int x2), (0, .ref h0), (1, .int x1)]) hx hb d_Mo_leapRows_43 hl (by decide) rfl (fun ls hl => ?_)
      refine lv_aload_n hx hb d_Mo_leapRows_45 rfl (lv_at hl 3 rfl) ?_
      refine lv_aload_n hx hb d_Mo_leapRows_46 rfl (lv_at hl 3 rfl) ?_
      refine mg_32 (v := si 32) hx hb hts hown hK hP rfl d_Mo_leapRows_47 ?_
      refine lv_iload_n hx hb d_Mo_leapRows_50 rfl (lv_at hl 4 rfl) ?_
      obtain ⟨r_10, hc, hf⟩ := ob hf
      refine cl_S (v := (some (.long r_10))) (st1 := [.long r_10]) (va_runV (As := [.int (si 32), .int x1]) (rest := []) ⟨hx, hb, hml, hown, hts⟩ (c_Mo_signed l dC dI h0 r cA nf (si 32) x1 si sj sa sb hc) (cwV 2 hts (gdV m_7_155 m_7_157 msel_65 m_1_10 m_7_158) rfl rfl rfl (by decide +kernel) ⟨Nat.le_trans (Nat.le_of_ble_eq_true rfl) hRf, Nat.le_trans (Nat.le_of_ble_eq_true rfl) hRl⟩) ((RO.pre hP hK (hST.ro hS)).vir (va_recv hK hP (ci := 10) (q0 := 0) rfl rfl)) rfl rfl hl.1 rfl (lv_room (Nat.le_of_ble_eq_true rfl)) d_Mo_leapRows_51 ⟨Nat.zero_le _, Nat.zero_le _⟩) rfl ?_
      refine lv_lstore (lv' := [(5, .long r_10), (4, .int ((40 * x2) + x3)), (3, .int x3), (2, .int x2), (0, .ref h0), (1, .int x1)]) hx hb d_Mo_leapRows_54 hl (by decide) rfl (fun ls hl => ?_)
      refine lv_lload hx hb d_Mo_leapRows_56 (lv_at hl 0 rfl) ?_
      refine lv_lconst (v := 0) hx hb d_Mo_leapRows_58 (by decide) ?_
      refine lc_lt (tgt := 86) hx hb d_Mo_leapRows_59 d_Mo_leapRows_60 (by decide) (fun c_11 => ?_) (fun c_11 => ?_)
      · have hf := it_t c_11 hf
        exact k_Mo_leapRows_86 C0 hST hA hK hE hf hP hD hS (lv_sub hl [4] rfl)
      · have hf := it_f c_11 hf
        refine lv_iload_n hx hb d_Mo_leapRows_63 rfl (lv_at hl 2 rfl) ?_
        refine lv_if_le (tgt := 97) hx hb d_Mo_leapRows_64 (by decide) (fun c_18 => ?_) (fun c_18 => ?_)
        · have hf := it_t c_18 hf
          exact k_Mo_leapRows_97 C0 hST hA hK hE (fun hf => ih hf) hf hP hD hS (lv_sub hl [0, 1, 2, 3, 4, 5] rfl)
        · have hf := it_f c_18 hf
          refine lv_lload hx hb d_Mo_leapRows_67 (lv_at hl 0 rfl) ?_
          refine lv_aload_n hx hb d_Mo_leapRows_69 rfl (lv_at hl 4 rfl) ?_
          refine mg_18 hx hb hts hown hK hP d_Mo_leapRows_70 ?_
          refine lv_iload hx hb d_Mo_leapRows_73 (lv_at hl 1 rfl) ?_
          refine lv_iconst (v := 1) hx hb d_Mo_leapRows_75 (by decide) ?_
          refine lv_isub hx hb d_Mo_leapRows_76 ?_
          obtain ⟨c_32, hf⟩ := it_n hf
          refine ma_18 (v := sb 18 (((40 * x2) + x3) - 1).toNatClampNeg) hx hb hK hP c_32 rfl d_Mo_leapRows_77 ?_
          refine lv_lsub hx hb d_Mo_leapRows_78 ?_
          refine lv_ldc2 (v := 2419199) hx hb hown (hts (.constantLong "ZoneFilesModel" 265 2419199) m_7_184) d_Mo_leapRows_79 ?_
          refine lc_ge (tgt := 97) hx hb d_Mo_leapRows_82 d_Mo_leapRows_83 (by decide) (fun c_33 => ?_) (fun c_33 => ?_)
          · have hf := it_t c_33 hf
            exact k_Mo_leapRows_97 C0 hST hA hK hE (fun hf => ih hf) hf hP hD hS (lv_sub hl [0, 1, 2, 3, 4, 5] rfl)
          · have hf := it_f c_33 hf
            exact k_Mo_leapRows_86 C0 hST hA hK hE hf hP hD hS (lv_sub hl [4] rfl)
set_option maxHeartbeats 400000 in
set_option maxRecDepth 100000 in
theorem k_Mo_leapRows_0 (C0 : Cx p s m meth c args R b_Mo_leapRows "ZoneFilesModel" 11 (some .boolean) 2 49) (hST : ST A s s.heap) (hA : ∀ q, s.heap.size ≤ q → A q) (hK : va_K (dC, dI) classes (moT cA) s) (hE : ∀ (pc : Nat) (ls : Array Slot) (H : Heap) (locs : List Loc), decode b_Mo_leapRows pc = .ok (.ireturn, 1) → narrow .boolean (.int r0) = .int r0 → va_P (dC, dI) classes (moW h0 r cA vi vj va vb) H → va_D A (moW h0 r cA vi vj va vb) → va_S A s.heap H locs → W p l e R s m args below meth c H locs 0 0 Q (F0 m pc ls [.int r0])) {x1 : Int32} {si : Nat → Int32} {sj : Nat → Int64} {sa : Nat → Nat → Int32} {sb : Nat → Nat → Int64} (hf : f_Mo_leapRows_0 nf x1 si sj sa sb = some (r0, vi, vj, va, vb)) {H : Heap} {locs : List Loc} {ls : Array Slot} (hP : va_P (dC, dI) classes (moW h0 r cA si sj sa sb) H) (hD : va_D A (moW h0 r cA si sj sa sb)) (hS : va_S A s.heap H locs) (hl : lv_has ls 11 [(0, .ref h0), (1, .int x1)]) : W p l e R s m args below meth c H locs 0 0 Q (F0 m 0 ls []) := by
  obtain ⟨hx, hb, hr, hml, hown, hts, hlocks, hRf, hRl⟩ := id C0
  unfold f_Mo_leapRows_0 at hf
  refine lv_iconst (v := 4) hx hb d_Mo_leapRows_0 (by decide) ?_
  refine lv_istore_n (lv' := [(2, .int 4), (0, .ref h0), (1, .int x1)]) hx hb d_Mo_leapRows_1 rfl hl (by decide) rfl (fun ls hl => ?_)
  refine lv_aload_n hx hb d_Mo_leapRows_2 rfl (lv_at hl 1 rfl) ?_
  refine lv_iload_n hx hb d_Mo_leapRows_3 rfl (lv_at hl 2 rfl) ?_
  refine lv_i2l hx hb d_Mo_leapRows_4 rfl ?_
  refine lv_ldc2 (v := 4) hx hb hown (hts (.constantLong "ZoneFilesModel" 263 4) m_7_183) d_Mo_leapRows_5 ?_
  refine lv_ladd hx hb d_Mo_leapRows_8 ?_
  refine lv_aload_n hx hb d_Mo_leapRows_9 rfl (lv_at hl 1 rfl) ?_
  refine mg_8 hx hb hts hown hK hP d_Mo_leapRows_10 ?_
  refine lv_iload_n hx hb d_Mo_leapRows_13 rfl (lv_at hl 0 rfl) ?_
  obtain ⟨c_1, hf⟩ := it_n hf
  refine ma_8 (v := sa 8 (4 : Int32).toNatClampNeg) hx hb hK hP c_1 rfl d_Mo_leapRows_14 ?_
  refine lv_i2l hx hb d_Mo_leapRows_15 rfl ?_
  refine lv_lmul hx hb d_Mo_leapRows_16 ?_
  obtain ⟨⟨z_6, i_2, j_3, a_4, b_5⟩, hc, hf⟩ := ob hf
  have hFc := mo_free hD hS hA
  refine cl_M (v := (some (.int z_6))) (st1 := [.int z_6]) (va_runV (As := [.long ((x1.toInt64 + 4) * ((sa 8 (4 : Int32).toNatClampNeg).toInt64))]) (rest := []) ⟨hx, hb, hml, hown, hts⟩ (c_Mo_needs l dC dI h0 r cA H.size nf ((x1.toInt64 + 4) * ((sa 8 (4 : Int32).toNatClampNeg).toInt64)) si sj sa sb hc) (cwV 1 hts (gdV m_7_151 m_7_153 msel_64 m_1_10 m_7_154) rfl rfl rfl (by decide +kernel) ⟨Nat.le_trans (Nat.le_of_ble_eq_true rfl) hRf, Nat.le_trans (Nat.le_of_ble_eq_true rfl) hRl⟩) ((MU.pre hP hK hD (hST.mu hS hFc)).vir (va_recv hK hP (ci := 10) (q0 := 0) rfl rfl)) rfl rfl hl.1 rfl (lv_room (Nat.le_of_ble_eq_true rfl)) d_Mo_leapRows_17 ⟨Nat.zero_le _, Nat.zero_le _⟩) rfl hS (fun q _ h => hFc q h) hFc (fun t H1 locs ht hvm hB hz1 hk1 hS => ?_)
  obtain ⟨hP, hD⟩ := mo_back ht hD hB
  generalize H1 = H at hP hS ⊢
  refine lv_if_ne (tgt := 25) hx hb d_Mo_leapRows_20 (by decide) (fun c_7 => ?_) (fun c_7 => ?_)
  · have hf := it_f c_7 hf
    refine lv_iconst (v := 0) hx hb d_Mo_leapRows_25 (by decide) ?_
    refine lv_istore_n (lv' := [(3, .int 0), (2, .int 4), (0, .ref h0), (1, .int x1)]) hx hb d_Mo_leapRows_26 rfl hl (by decide) rfl (fun ls hl => ?_)
    exact k_Mo_leapRows_27 C0 hST hA hK hE nf hf hP hD hS (lv_sub hl [0, 1, 2, 3] rfl)
  · have hf := it_t c_7 hf
    refine lv_iconst (v := 0) hx hb d_Mo_leapRows_23 (by decide) ?_
    cases rs hf
    exact hE _ _ _ _ d_Mo_leapRows_24 rfl hP hD hS
end
set_option maxHeartbeats 400000 in
set_option maxRecDepth 100000 in
theorem c_Mo_leapRows (l : Launch) (dC : Nat → ClassId) (dI : Nat → Nat → Nat) (h0 : Nat) (r : Nat → Nat) (cA : Nat → ClassId) (sz : Nat) (nf : Nat) (p0 : Int32) (si : Nat → Int32) (sj : Nat → Int64) (sa : Nat → Nat → Int32) (sb : Nat → Nat → Int64) {r0 : Int32} {vi : Nat → Int32} {vj : Nat → Int64} {va : Nat → Nat → Int32} {vb : Nat → Nat → Int64} (hf : f_Mo_leapRows nf p0 si sj sa sb = some (r0, vi, vj, va, vb)) : Met l y_Mo_leapRows (wd y_Mo_leapRows b_Mo_leapRows 11 (some .boolean)) ({ frames := 2, cells := 0, slots := 0, locals := 49 }) (MU dC dI (moW h0 r cA si sj sa sb) (moT cA) sz [.ref h0, .int p0]) (MV (some (.int r0)) (fun t => va_P (dC, dI) classes (moW h0 r cA vi vj va vb) t.heap) (va_A (moW h0 r cA si sj sa sb) sz)) 0 0 (va_A (moW h0 r cA si sj sa sb) sz) :=
  met_M (plainFor_of_name (by decide)) (Nat.le_of_ble_eq_true rfl) (fun p e R s m args below meth c ls hRc hRs hsz hin C0 hST hK hP hD hl => by
    obtain ⟨hx, hb, hr, hml, hown, hts, hlocks, hRf, hRl⟩ := id C0
    subst hsz
    have hA : ∀ q : Nat, s.heap.size ≤ q → va_A (moW h0 r cA si sj sa sb) s.heap.size q := fun q h => Or.inr h
    have hS : va_S (va_A (moW h0 r cA si sj sa sb) s.heap.size) s.heap s.heap [] := va_S.rf
    unfold f_Mo_leapRows at hf
    exact k_Mo_leapRows_0 C0 hST hA hK (fun pc ls H locs hd hn hP hD hS => W.zret hx hb hr hn (fun t ht hW => ⟨⟨rfl, mo_end ht hP⟩, hS.F ht⟩) hS.2.2 hd) hf hP hD hS (lv_sub hl [0, 1] rfl))
-- ZoneFilesModel.nameSize(II)I
def f_Mo_nameSize_67 (nf : Nat) (s0 : Int32) : Option (Int32) :=
  some s0
def f_Mo_nameSize_48 (nf : Nat) (sa : Nat → Nat → Int32) (x4 : Int32) (x3 : Int32) (x1 : Int32) : Option (Int32) :=
  if x1 < 0 ∨ 5 ≤ x1.toNatClampNeg then none else
  if x4 = (sa 7 x1.toNatClampNeg) then
  f_Mo_nameSize_67 nf (-1)
  else
  f_Mo_nameSize_67 nf (x4 - x3)
def f_Mo_nameSize_15 (nf : Nat) (sa : Nat → Nat → Int32) : Nat → Int32 → Int32 → Int32 → Option (Int32)
  | 0, _, _, _ => none
  | n + 1, x4, x3, x1 =>
    if x1 < 0 ∨ 5 ≤ x1.toNatClampNeg then none else
    if (sa 7 x1.toNatClampNeg) ≤ x4 then
    f_Mo_nameSize_48 nf sa x4 x3 x1
    else
    if ((200 * x1) + x4) < 0 ∨ 1000 ≤ ((200 * x1) + x4).toNatClampNeg then none else
      if (sa 17 ((200 * x1) + x4).toNatClampNeg) = 0 then
      f_Mo_nameSize_48 nf sa x4 x3 x1
      else
      f_Mo_nameSize_15 nf sa n (x4 + 1) x3 x1
def f_Mo_nameSize_0 (nf : Nat) (sa : Nat → Nat → Int32) (x1 : Int32) (x2 : Int32) : Option (Int32) :=
  if ((40 * x1) + x2) < 0 ∨ 200 ≤ ((40 * x1) + x2).toNatClampNeg then none else
  f_Mo_nameSize_15 nf sa nf (sa 16 ((40 * x1) + x2).toNatClampNeg) (sa 16 ((40 * x1) + x2).toNatClampNeg) x1
def f_Mo_nameSize (nf : Nat) (p0 : Int32) (p1 : Int32) (si : Nat → Int32) (sj : Nat → Int64) (sa : Nat → Nat → Int32) (sb : Nat → Nat → Int64) : Option (Int32) :=
  f_Mo_nameSize_0 nf sa p0 p1
section
variable {p : Program} {l : Launch} {e : Env} {R : Room} {s : State} {m : MethodId} {args : Array Value} {below : List Frame} {meth : Method} {c : Code} {Q : State → Prop} {dC : Nat → ClassId} {dI : Nat → Nat → Nat} {nf : Nat} {A : Nat → Prop} {h0 : Nat} {r : Nat → Nat} {cA : Nat → ClassId}
variable {si : Nat → Int32} {sj : Nat → Int64} {sa : Nat → Nat → Int32} {sb : Nat → Nat → Int64} {r0 : Int32}
set_option maxHeartbeats 400000 in
set_option maxRecDepth 100000 in
theorem k_Mo_nameSize_67 (C0 : Cx p s m meth c args R b_Mo_nameSize "ZoneFilesModel" 5 (some .int) 0 0) (hST : ST (fun _ => False) s s.heap) (hK : va_K (dC, dI) classes (moT cA) s) (hP : va_P (dC, dI) classes (moW h0 r cA si sj sa sb) s.heap) (hE : ∀ (pc : Nat) (ls : Array Slot), decode b_Mo_nameSize pc = .ok (.ireturn, 1) → narrow .int (.int r0) = .int r0 → W p l e R s m args below meth c s.heap [] 0 0 Q (F0 m pc ls [.int r0])) {s0 : Int32} (hf : f_Mo_nameSize_67 nf s0 = some r0) {ls : Array Slot} (hl : lv_has ls 5 []) : W p l e R s m args below meth c s.heap [] 0 0 Q (F0 m 67 ls [.int s0]) := by
  obtain ⟨hx, hb, hr, hml, hown, hts, hlocks, hRf, hRl⟩ := id C0
  obtain ⟨tms, hZms, hTms, tmg, hZmg, hTmg, hNW⟩ := id hST
  unfold f_Mo_nameSize_67 at hf
  cases rs hf
  exact hE _ _ d_Mo_nameSize_67 rfl
set_option maxHeartbeats 400000 in
set_option maxRecDepth 100000 in
theorem k_Mo_nameSize_48 (C0 : Cx p s m meth c args R b_Mo_nameSize "ZoneFilesModel" 5 (some .int) 0 0) (hST : ST (fun _ => False) s s.heap) (hK : va_K (dC, dI) classes (moT cA) s) (hP : va_P (dC, dI) classes (moW h0 r cA si sj sa sb) s.heap) (hE : ∀ (pc : Nat) (ls : Array Slot), decode b_Mo_nameSize pc = .ok (.ireturn, 1) → narrow .int (.int r0) = .int r0 → W p l e R s m args below meth c s.heap [] 0 0 Q (F0 m pc ls [.int r0])) {x4 : Int32} {x3 : Int32} {x1 : Int32} (hf : f_Mo_nameSize_48 nf sa x4 x3 x1 = some r0) {ls : Array Slot} (hl : lv_has ls 5 [(4, .int x4), (3, .int x3), (0, .ref h0), (1, .int x1)]) : W p l e R s m args below meth c s.heap [] 0 0 Q (F0 m 48 ls []) := by
  obtain ⟨hx, hb, hr, hml, hown, hts, hlocks, hRf, hRl⟩ := id C0
  obtain ⟨tms, hZms, hTms, tmg, hZmg, hTmg, hNW⟩ := id hST
  unfold f_Mo_nameSize_48 at hf
  refine lv_iload hx hb d_Mo_nameSize_48 (lv_at hl 0 rfl) ?_
  refine lv_aload_n hx hb d_Mo_nameSize_50 rfl (lv_at hl 2 rfl) ?_
  refine mg_7 hx hb hts hown hK hP d_Mo_nameSize_51 ?_
  refine lv_iload_n hx hb d_Mo_nameSize_54 rfl (lv_at hl 3 rfl) ?_
  obtain ⟨c_4, hf⟩ := it_n hf
  refine ma_7 (v := sa 7 x1.toNatClampNeg) hx hb hK hP c_4 rfl d_Mo_nameSize_55 ?_
  refine lv_icmp_ne (tgt := 63) hx hb d_Mo_nameSize_56 (by decide) (fun c_5 => ?_) (fun c_5 => ?_)
  · have hf := it_f c_5 hf
    refine lv_iload hx hb d_Mo_nameSize_63 (lv_at hl 0 rfl) ?_
    refine lv_iload_n hx hb d_Mo_nameSize_65 rfl (lv_at hl 1 rfl) ?_
    refine lv_isub hx hb d_Mo_nameSize_66 ?_
    exact k_Mo_nameSize_67 C0 hST hK hP hE hf (lv_sub hl [] rfl)
  · have hf := it_t c_5 hf
    refine lv_iconst (v := -1) hx hb d_Mo_nameSize_59 (by decide) ?_
    refine lv_goto (tgt := 67) hx hb d_Mo_nameSize_60 (by decide) ?_
    exact k_Mo_nameSize_67 C0 hST hK hP hE hf (lv_sub hl [] rfl)
set_option maxHeartbeats 400000 in
set_option maxRecDepth 100000 in
theorem k_Mo_nameSize_15 (C0 : Cx p s m meth c args R b_Mo_nameSize "ZoneFilesModel" 5 (some .int) 0 0) (hST : ST (fun _ => False) s s.heap) (hK : va_K (dC, dI) classes (moT cA) s) (hP : va_P (dC, dI) classes (moW h0 r cA si sj sa sb) s.heap) (hE : ∀ (pc : Nat) (ls : Array Slot), decode b_Mo_nameSize pc = .ok (.ireturn, 1) → narrow .int (.int r0) = .int r0 → W p l e R s m args below meth c s.heap [] 0 0 Q (F0 m pc ls [.int r0])) : ∀ (n : Nat) {x4 : Int32} {x3 : Int32} {x1 : Int32}, f_Mo_nameSize_15 nf sa n x4 x3 x1 = some r0 → ∀ {ls : Array Slot}, lv_has ls 5 [(4, .int x4), (3, .int x3), (0, .ref h0), (1, .int x1)] → W p l e R s m args below meth c s.heap [] 0 0 Q (F0 m 15 ls []) := by
  obtain ⟨hx, hb, hr, hml, hown, hts, hlocks, hRf, hRl⟩ := id C0
  obtain ⟨tms, hZms, hTms, tmg, hZmg, hTmg, hNW⟩ := id hST
  intro n
  induction n with
  | zero =>
    intro x4 x3 x1 hf
    exact absurd hf (by simp [f_Mo_nameSize_15])
  | succ n ih =>
    intro x4 x3 x1 hf ls hl
    unfold f_Mo_nameSize_15 at hf
    refine lv_iload hx hb d_Mo_nameSize_15 (lv_at hl 0 rfl) ?_
    refine lv_aload_n hx hb d_Mo_nameSize_17 rfl (lv_at hl 2 rfl) ?_
    refine mg_7 hx hb hts hown hK hP d_Mo_nameSize_18 ?_
    refine lv_iload_n hx hb d_Mo_nameSize_21 rfl (lv_at hl 3 rfl) ?_
    obtain ⟨c_2, hf⟩ := it_n hf
    refine ma_7 (v := sa 7 x1.toNatClampNeg) hx hb hK hP c_2 rfl d_Mo_nameSize_22 ?_
    refine lv_icmp_ge (tgt := 48) hx hb d_Mo_nameSize_23 (by decide) (fun c_3 => ?_) (fun c_3 => ?_)
    · have hf := it_t c_3 hf
      exact k_Mo_nameSize_48 C0 hST hK hP hE hf (lv_sub hl [0, 1, 2, 3] rfl)
    · have hf := it_f c_3 hf
      refine lv_aload_n hx hb d_Mo_nameSize_26 rfl (lv_at hl 2 rfl) ?_
      refine mg_17 hx hb hts hown hK hP d_Mo_nameSize_27 ?_
      refine lv_sipush (v := 200) hx hb d_Mo_nameSize_30 (by decide) ?_
      refine lv_iload_n hx hb d_Mo_nameSize_33 rfl (lv_at hl 3 rfl) ?_
      refine lv_imul hx hb d_Mo_nameSize_34 ?_
      refine lv_iload hx hb d_Mo_nameSize_35 (lv_at hl 0 rfl) ?_
      refine lv_iadd hx hb d_Mo_nameSize_37 ?_
      obtain ⟨c_6, hf⟩ := it_n hf
      refine ma_17 (v := sa 17 ((200 * x1) + x4).toNatClampNeg) hx hb hK hP c_6 rfl d_Mo_nameSize_38 ?_
      refine lv_if_eq (tgt := 48) hx hb d_Mo_nameSize_39 (by decide) (fun c_7 => ?_) (fun c_7 => ?_)
      · have hf := it_t c_7 hf
        exact k_Mo_nameSize_48 C0 hST hK hP hE hf (lv_sub hl [0, 1, 2, 3] rfl)
      · have hf := it_f c_7 hf
        refine lv_iinc (v := x4 + 1) (lv' := [(4, .int (x4 + 1)), (3, .int x3), (0, .ref h0), (1, .int x1)]) hx hb d_Mo_nameSize_42 hl (k := 0) rfl rfl (by decide) rfl (fun ls hl => ?_)
        refine lv_goto (tgt := 15) hx hb d_Mo_nameSize_45 (by decide) ?_
        exact ih hf (lv_sub hl [0, 1, 2, 3] rfl)
set_option maxHeartbeats 400000 in
set_option maxRecDepth 100000 in
theorem k_Mo_nameSize_0 (C0 : Cx p s m meth c args R b_Mo_nameSize "ZoneFilesModel" 5 (some .int) 0 0) (hST : ST (fun _ => False) s s.heap) (hK : va_K (dC, dI) classes (moT cA) s) (hP : va_P (dC, dI) classes (moW h0 r cA si sj sa sb) s.heap) (hE : ∀ (pc : Nat) (ls : Array Slot), decode b_Mo_nameSize pc = .ok (.ireturn, 1) → narrow .int (.int r0) = .int r0 → W p l e R s m args below meth c s.heap [] 0 0 Q (F0 m pc ls [.int r0])) {x1 : Int32} {x2 : Int32} (hf : f_Mo_nameSize_0 nf sa x1 x2 = some r0) {ls : Array Slot} (hl : lv_has ls 5 [(0, .ref h0), (1, .int x1), (2, .int x2)]) : W p l e R s m args below meth c s.heap [] 0 0 Q (F0 m 0 ls []) := by
  obtain ⟨hx, hb, hr, hml, hown, hts, hlocks, hRf, hRl⟩ := id C0
  obtain ⟨tms, hZms, hTms, tmg, hZmg, hTmg, hNW⟩ := id hST
  unfold f_Mo_nameSize_0 at hf
  refine lv_aload_n hx hb d_Mo_nameSize_0 rfl (lv_at hl 0 rfl) ?_
  refine mg_16 hx hb hts hown hK hP d_Mo_nameSize_1 ?_
  refine lv_bipush (v := 40) hx hb d_Mo_nameSize_4 (by decide) ?_
  refine lv_iload_n hx hb d_Mo_nameSize_6 rfl (lv_at hl 1 rfl) ?_
  refine lv_imul hx hb d_Mo_nameSize_7 ?_
  refine lv_iload_n hx hb d_Mo_nameSize_8 rfl (lv_at hl 2 rfl) ?_
  refine lv_iadd hx hb d_Mo_nameSize_9 ?_
  obtain ⟨c_1, hf⟩ := it_n hf
  refine ma_16 (v := sa 16 ((40 * x1) + x2).toNatClampNeg) hx hb hK hP c_1 rfl d_Mo_nameSize_10 ?_
  refine lv_istore_n (lv' := [(3, .int (sa 16 ((40 * x1) + x2).toNatClampNeg)), (0, .ref h0), (1, .int x1), (2, .int x2)]) hx hb d_Mo_nameSize_11 rfl hl (by decide) rfl (fun ls hl => ?_)
  refine lv_iload_n hx hb d_Mo_nameSize_12 rfl (lv_at hl 0 rfl) ?_
  refine lv_istore (lv' := [(4, .int (sa 16 ((40 * x1) + x2).toNatClampNeg)), (3, .int (sa 16 ((40 * x1) + x2).toNatClampNeg)), (0, .ref h0), (1, .int x1), (2, .int x2)]) hx hb d_Mo_nameSize_13 hl (by decide) rfl (fun ls hl => ?_)
  exact k_Mo_nameSize_15 C0 hST hK hP hE nf hf (lv_sub hl [0, 1, 2, 3] rfl)
end
set_option maxHeartbeats 400000 in
set_option maxRecDepth 100000 in
theorem c_Mo_nameSize (l : Launch) (dC : Nat → ClassId) (dI : Nat → Nat → Nat) (h0 : Nat) (r : Nat → Nat) (cA : Nat → ClassId) (nf : Nat) (p0 : Int32) (p1 : Int32) (si : Nat → Int32) (sj : Nat → Int64) (sa : Nat → Nat → Int32) (sb : Nat → Nat → Int64) {r0 : Int32} (hf : f_Mo_nameSize nf p0 p1 si sj sa sb = some r0) : Met l y_Mo_nameSize (wd y_Mo_nameSize b_Mo_nameSize 5 (some .int)) ({ frames := 0, cells := 0, slots := 0, locals := 0 }) (RO dC dI (moW h0 r cA si sj sa sb) (moT cA) [.ref h0, .int p0, .int p1]) (SV (some (.int r0))) 0 0 (fun _ => False) :=
  met_S (plainFor_of_name (by decide)) (Nat.le_of_ble_eq_true rfl) (fun p e R s m args below meth c ls C0 hST hK hP hl => by
    obtain ⟨hx, hb, hr, hml, hown, hts, hlocks, hRf, hRl⟩ := id C0
    unfold f_Mo_nameSize at hf
    exact k_Mo_nameSize_0 C0 hST hK hP (fun pc ls hd hn => W.zret hx hb hr hn (fun t ht hW => ⟨rfl, ht⟩) (fun q h => by cases h) hd) hf (lv_sub hl [0, 1, 2] rfl))
-- ZoneFilesModel.nameRows()Z
def f_Mo_nameRows_180 (nf : Nat) (K91 : Int32 → Int32 → Int32 → (Nat → Int32) → (Nat → Int64) → (Nat → Nat → Int32) → (Nat → Nat → Int64) → Option (Int32 × (Nat → Int32) × (Nat → Int64) × (Nat → Nat → Int32) × (Nat → Nat → Int64))) (x5 : Int32) (x3 : Int32) (x2 : Int32) (x1 : Int32) (si : Nat → Int32) (sj : Nat → Int64) (sa : Nat → Nat → Int32) (sb : Nat → Nat → Int64) : Option (Int32 × (Nat → Int32) × (Nat → Int64) × (Nat → Nat → Int32) × (Nat → Nat → Int64)) :=
  if x5 = 0 then
  (f_Mo_faulty nf 10 ((x2 + (6 * x3)) + 5) si sj sa sb).bind fun (z_22, i_18, j_19, a_20, b_21) =>
    if z_22 = 0 ∨ z_22 = 1 then some (z_22, i_18, j_19, a_20, b_21) else none
  else
  K91 (x3 + 1) x2 x1 si sj sa sb
def f_Mo_nameRows_132 (nf : Nat) (K91 : Int32 → Int32 → Int32 → (Nat → Int32) → (Nat → Int64) → (Nat → Nat → Int32) → (Nat → Nat → Int64) → Option (Int32 × (Nat → Int32) × (Nat → Int64) × (Nat → Nat → Int32) × (Nat → Nat → Int64))) : Nat → Int32 → Int32 → Int32 → Int32 → Int32 → Int32 → (Nat → Int32) → (Nat → Int64) → (Nat → Nat → Int32) → (Nat → Nat → Int64) → Option (Int32 × (Nat → Int32) × (Nat → Int64) × (Nat → Nat → Int32) × (Nat → Nat → Int64))
  | 0, _, _, _, _, _, _, _, _, _, _ => none
  | n + 1, x6, x5, x4, x3, x2, x1, si, sj, sa, sb =>
    if x4 ≤ x6 then
    f_Mo_nameRows_180 nf K91 x5 x3 x2 x1 si sj sa sb
    else
    if x5 = 0 then
      f_Mo_nameRows_180 nf K91 x5 x3 x2 x1 si sj sa sb
      else
      if ((40 * x1) + x3) < 0 ∨ 200 ≤ ((40 * x1) + x3).toNatClampNeg then none else
        if (((200 * x1) + (sa 16 ((40 * x1) + x3).toNatClampNeg)) + x6) < 0 ∨ 1000 ≤ (((200 * x1) + (sa 16 ((40 * x1) + x3).toNatClampNeg)) + x6).toNatClampNeg then none else
        (f_Mo_isNamed nf (sa 17 (((200 * x1) + (sa 16 ((40 * x1) + x3).toNatClampNeg)) + x6).toNatClampNeg)).bind fun r_27 =>
        f_Mo_nameRows_132 nf K91 n (x6 + 1) r_27 x4 x3 x2 x1 si sj sa sb
def f_Mo_nameRows_127 (nf : Nat) (K91 : Int32 → Int32 → Int32 → (Nat → Int32) → (Nat → Int64) → (Nat → Nat → Int32) → (Nat → Nat → Int64) → Option (Int32 × (Nat → Int32) × (Nat → Int64) × (Nat → Nat → Int32) × (Nat → Nat → Int64))) (x4 : Int32) (x3 : Int32) (x2 : Int32) (x1 : Int32) (s0 : Int32) (si : Nat → Int32) (sj : Nat → Int64) (sa : Nat → Nat → Int32) (sb : Nat → Nat → Int64) : Option (Int32 × (Nat → Int32) × (Nat → Int64) × (Nat → Nat → Int32) × (Nat → Nat → Int64)) :=
  f_Mo_nameRows_132 nf K91 nf 0 s0 x4 x3 x2 x1 si sj sa sb
def f_Mo_nameRows_126 (nf : Nat) (K91 : Int32 → Int32 → Int32 → (Nat → Int32) → (Nat → Int64) → (Nat → Nat → Int32) → (Nat → Nat → Int64) → Option (Int32 × (Nat → Int32) × (Nat → Int64) × (Nat → Nat → Int32) × (Nat → Nat → Int64))) (x4 : Int32) (x3 : Int32) (x2 : Int32) (x1 : Int32) (si : Nat → Int32) (sj : Nat → Int64) (sa : Nat → Nat → Int32) (sb : Nat → Nat → Int64) : Option (Int32 × (Nat → Int32) × (Nat → Int64) × (Nat → Nat → Int32) × (Nat → Nat → Int64)) :=
  f_Mo_nameRows_127 nf K91 x4 x3 x2 x1 0 si sj sa sb
def f_Mo_nameRows_91 (nf : Nat) : Nat → Int32 → Int32 → Int32 → (Nat → Int32) → (Nat → Int64) → (Nat → Nat → Int32) → (Nat → Nat → Int64) → Option (Int32 × (Nat → Int32) × (Nat → Int64) × (Nat → Nat → Int32) × (Nat → Nat → Int64))
  | 0, _, _, _, _, _, _, _ => none
  | n + 1, x3, x2, x1, si, sj, sa, sb =>
    if x1 < 0 ∨ 5 ≤ x1.toNatClampNeg then none else
    if (sa 6 x1.toNatClampNeg) ≤ x3 then
    some (1, si, sj, sa, sb)
    else
    (f_Mo_nameSize nf x1 x3 si sj sa sb).bind fun r_14 =>
      if r_14 < (3 : Int32) then
      f_Mo_nameRows_126 nf (f_Mo_nameRows_91 nf n) r_14 x3 x2 x1 si sj sa sb
      else
      if (10 : Int32) < r_14 then
        f_Mo_nameRows_126 nf (f_Mo_nameRows_91 nf n) r_14 x3 x2 x1 si sj sa sb
        else
        f_Mo_nameRows_127 nf (f_Mo_nameRows_91 nf n) r_14 x3 x2 x1 1 si sj sa sb
def f_Mo_nameRows_35 (nf : Nat) : Nat → Int32 → Int32 → Int32 → (Nat → Int32) → (Nat → Int64) → (Nat → Nat → Int32) → (Nat → Nat → Int64) → Option (Int32 × (Nat → Int32) × (Nat → Int64) × (Nat → Nat → Int32) × (Nat → Nat → Int64))
  | 0, _, _, _, _, _, _, _ => none
  | n + 1, x3, x2, x1, si, sj, sa, sb =>
    if x1 < 0 ∨ 5 ≤ x1.toNatClampNeg then none else
    if (sa 7 x1.toNatClampNeg) ≤ x3 then
    if x1 < 0 ∨ 5 ≤ x1.toNatClampNeg then none else
      f_Mo_nameRows_91 nf nf 0 x2 x1 (va_up si 32 ((si 32) + (sa 7 x1.toNatClampNeg))) sj sa sb
    else
    if ((si 32) + x3) < 0 ∨ 6000 ≤ ((si 32) + x3).toNatClampNeg then none else
      if ((200 * x1) + x3) < 0 ∨ 1000 ≤ ((200 * x1) + x3).toNatClampNeg then none else
      f_Mo_nameRows_35 nf n (x3 + 1) x2 x1 si sj (va_up sa 17 (upd (sa 17) ((200 * x1) + x3).toNatClampNeg (sa 0 ((si 32) + x3).toNatClampNeg))) sb
def f_Mo_nameRows_0 (nf : Nat) (si : Nat → Int32) (sj : Nat → Int64) (sa : Nat → Nat → Int32) (sb : Nat → Nat → Int64) : Option (Int32 × (Nat → Int32) × (Nat → Int64) × (Nat → Nat → Int32) × (Nat → Nat → Int64)) :=
  if (4 : Int32) < 0 ∨ 5 ≤ (4 : Int32).toNatClampNeg then none else
  if (4 : Int32) < 0 ∨ 5 ≤ (4 : Int32).toNatClampNeg then none else
  (f_Mo_needs nf ((sa 7 (4 : Int32).toNatClampNeg).toInt64) si sj sa sb).bind fun (z_7, i_3, j_4, a_5, b_6) =>
  if z_7 = 0 then
  some (0, i_3, j_4, a_5, b_6)
  else
  f_Mo_nameRows_35 nf nf 0 ((si 32) - (6 * (sa 6 (4 : Int32).toNatClampNeg))) 4 i_3 j_4 a_5 b_6
def f_Mo_nameRows (nf : Nat) (si : Nat → Int32) (sj : Nat → Int64) (sa : Nat → Nat → Int32) (sb : Nat → Nat → Int64) : Option (Int32 × (Nat → Int32) × (Nat → Int64) × (Nat → Nat → Int32) × (Nat → Nat → Int64)) :=
  f_Mo_nameRows_0 nf si sj sa sb
section
variable {p : Program} {l : Launch} {e : Env} {R : Room} {s : State} {m : MethodId} {args : Array Value} {below : List Frame} {meth : Method} {c : Code} {Q : State → Prop} {dC : Nat → ClassId} {dI : Nat → Nat → Nat} {nf : Nat} {A : Nat → Prop} {h0 : Nat} {r : Nat → Nat} {cA : Nat → ClassId}
variable {r0 : Int32} {vi : Nat → Int32} {vj : Nat → Int64} {va : Nat → Nat → Int32} {vb : Nat → Nat → Int64}
set_option maxHeartbeats 400000 in
set_option maxRecDepth 100000 in
theorem k_Mo_nameRows_180 (C0 : Cx p s m meth c args R b_Mo_nameRows "ZoneFilesModel" 7 (some .boolean) 2 44) (hST : ST A s s.heap) (hA : ∀ q, s.heap.size ≤ q → A q) (hK : va_K (dC, dI) classes (moT cA) s) (hE : ∀ (pc : Nat) (ls : Array Slot) (H : Heap) (locs : List Loc), decode b_Mo_nameRows pc = .ok (.ireturn, 1) → narrow .boolean (.int r0) = .int r0 → va_P (dC, dI) classes (moW h0 r cA vi vj va vb) H → va_D A (moW h0 r cA vi vj va vb) → va_S A s.heap H locs → W p l e R s m args below meth c H locs 0 0 Q (F0 m pc ls [.int r0])) {K91 : Int32 → Int32 → Int32 → (Nat → Int32) → (Nat → Int64) → (Nat → Nat → Int32) → (Nat → Nat → Int64) → Option (Int32 × (Nat → Int32) × (Nat → Int64) × (Nat → Nat → Int32) × (Nat → Nat → Int64))} (hK91 : ∀ {x3 : Int32} {x2 : Int32} {x1 : Int32} {si : Nat → Int32} {sj : Nat → Int64} {sa : Nat → Nat → Int32} {sb : Nat → Nat → Int64}, K91 x3 x2 x1 si sj sa sb = some (r0, vi, vj, va, vb) → ∀ {H : Heap} {locs : List Loc} {ls : Array Slot}, va_P (dC, dI) classes (moW h0 r cA si sj sa sb) H → va_D A (moW h0 r cA si sj sa sb) → va_S A s.heap H locs → lv_has ls 7 [(3, .int x3), (2, .int x2), (1, .int x1), (0, .ref h0)] → W p l e R s m args below meth c H locs 0 0 Q (F0 m 91 ls [])) {x5 : Int32} {x3 : Int32} {x2 : Int32} {x1 : Int32} {si : Nat → Int32} {sj : Nat → Int64} {sa : Nat → Nat → Int32} {sb : Nat → Nat → Int64} (hf : f_Mo_nameRows_180 nf K91 x5 x3 x2 x1 si sj sa sb = some (r0, vi, vj, va, vb)) {H : Heap} {locs : List Loc} {ls : Array Slot} (hP : va_P (dC, dI) classes (moW h0 r cA si sj sa sb) H) (hD : va_D A (moW h0 r cA si sj sa sb)) (hS : va_S A s.heap H locs) (hl : lv_has ls 7 [(5, .int x5), (3, .int x3), (2, .int x2), (1, .int x1), (0, .ref h0)]) : W p l e R s m args below meth c H locs 0 0 Q (F0 m 180 ls []) := by
  obtain ⟨hx, hb, hr, hml, hown, hts, hlocks, hRf, hRl⟩ := id C0
  unfold f_Mo_nameRows_180 at hf
  refine lv_iload hx hb d_Mo_nameRows_180 (lv_at hl 0 rfl) ?_
  refine lv_if_ne (tgt := 200) hx hb d_Mo_nameRows_182 (by decide) (fun c_17 => ?_) (fun c_17 => ?_)
  · have hf := it_f c_17 hf
    refine lv_iinc (v := x3 + 1) (lv' := [(3, .int (x3 + 1)), (5, .int x5), (2, .int x2), (1, .int x1), (0, .ref h0)]) hx hb d_Mo_nameRows_200 hl (k := 1) rfl rfl (by decide) rfl (fun ls hl => ?_)
    refine lv_goto (tgt := 91) hx hb d_Mo_nameRows_203 (by decide) ?_
    exact hK91 hf hP hD hS (lv_sub hl [0, 2, 3, 4] rfl)
  · have hf := it_t c_17 hf
    refine lv_aload_n hx hb d_Mo_nameRows_185 rfl (lv_at hl 4 rfl) ?_
    refine lv_bipush (v := 10) hx hb d_Mo_nameRows_186 (by decide) ?_
    refine lv_iload_n hx hb d_Mo_nameRows_188 rfl (lv_at hl 2 rfl) ?_
    refine lv_bipush (v := 6) hx hb d_Mo_nameRows_189 (by decide) ?_
    refine lv_iload_n hx hb d_Mo_nameRows_191 rfl (lv_at hl 1 rfl) ?_
    refine lv_imul hx hb d_Mo_nameRows_192 ?_
    refine lv_iadd hx hb d_Mo_nameRows_193 ?_
    refine lv_iconst (v := 5) hx hb d_Mo_nameRows_194 (by decide) ?_
    refine lv_iadd hx hb d_Mo_nameRows_195 ?_
    obtain ⟨⟨z_22, i_18, j_19, a_20, b_21⟩, hc, hf⟩ := ob hf
    have hFc := mo_free hD hS hA
    refine cl_M (v := (some (.int z_22))) (st1 := [.int z_22]) (va_runV (As := [.int 10, .int ((x2 + (6 * x3)) + 5)]) (rest := []) ⟨hx, hb, hml, hown, hts⟩ (c_Mo_faulty l dC dI h0 r cA H.size nf 10 ((x2 + (6 * x3)) + 5) si sj sa sb hc) (cwV 2 hts (gdV m_7_133 m_7_135 msel_60 m_1_10 m_7_136) rfl rfl rfl (by decide +kernel) ⟨Nat.le_trans (Nat.le_of_ble_eq_true rfl) hRf, Nat.le_trans (Nat.le_of_ble_eq_true rfl) hRl⟩) ((MU.pre hP hK hD (hST.mu hS hFc)).vir (va_recv hK hP (ci := 10) (q0 := 0) rfl rfl)) rfl rfl hl.1 rfl (lv_room (Nat.le_of_ble_eq_true rfl)) d_Mo_nameRows_196 ⟨Nat.zero_le _, Nat.zero_le _⟩) rfl hS (fun q _ h => hFc q h) hFc (fun t H1 locs ht hvm hB hz1 hk1 hS => ?_)
    obtain ⟨hP, hD⟩ := mo_back ht hD hB
    generalize H1 = H at hP hS ⊢
    obtain ⟨c_23, hf⟩ := it_g hf
    cases rs hf
    exact hE _ _ _ _ d_Mo_nameRows_199 (nb_of c_23) hP hD hS
set_option maxHeartbeats 400000 in
set_option maxRecDepth 100000 in
theorem k_Mo_nameRows_132 (C0 : Cx p s m meth c args R b_Mo_nameRows "ZoneFilesModel" 7 (some .boolean) 2 44) (hST : ST A s s.heap) (hA : ∀ q, s.heap.size ≤ q → A q) (hK : va_K (dC, dI) classes (moT cA) s) (hE : ∀ (pc : Nat) (ls : Array Slot) (H : Heap) (locs : List Loc), decode b_Mo_nameRows pc = .ok (.ireturn, 1) → narrow .boolean (.int r0) = .int r0 → va_P (dC, dI) classes (moW h0 r cA vi vj va vb) H → va_D A (moW h0 r cA vi vj va vb) → va_S A s.heap H locs → W p l e R s m args below meth c H locs 0 0 Q (F0 m pc ls [.int r0])) {K91 : Int32 → Int32 → Int32 → (Nat → Int32) → (Nat → Int64) → (Nat → Nat → Int32) → (Nat → Nat → Int64) → Option (Int32 × (Nat → Int32) × (Nat → Int64) × (Nat → Nat → Int32) × (Nat → Nat → Int64))} (hK91 : ∀ {x3 : Int32} {x2 : Int32} {x1 : Int32} {si : Nat → Int32} {sj : Nat → Int64} {sa : Nat → Nat → Int32} {sb : Nat → Nat → Int64}, K91 x3 x2 x1 si sj sa sb = some (r0, vi, vj, va, vb) → ∀ {H : Heap} {locs : List Loc} {ls : Array Slot}, va_P (dC, dI) classes (moW h0 r cA si sj sa sb) H → va_D A (moW h0 r cA si sj sa sb) → va_S A s.heap H locs → lv_has ls 7 [(3, .int x3), (2, .int x2), (1, .int x1), (0, .ref h0)] → W p l e R s m args below meth c H locs 0 0 Q (F0 m 91 ls [])) : ∀ (n : Nat) {x6 : Int32} {x5 : Int32} {x4 : Int32} {x3 : Int32} {x2 : Int32} {x1 : Int32} {si : Nat → Int32} {sj : Nat → Int64} {sa : Nat → Nat → Int32} {sb : Nat → Nat → Int64}, f_Mo_nameRows_132 nf K91 n x6 x5 x4 x3 x2 x1 si sj sa sb = some (r0, vi, vj, va, vb) → ∀ {H : Heap} {locs : List Loc} {ls : Array Slot}, va_P (dC, dI) classes (moW h0 r cA si sj sa sb) H → va_D A (moW h0 r cA si sj sa sb) → va_S A s.heap H locs → lv_has ls 7 [(6, .int x6), (5, .int x5), (4, .int x4), (3, .int x3), (2, .int x2), (1, .int x1), (0, .ref h0)] → W p l e R s m args below meth c H locs 0 0 Q (F0 m 132 ls []) := by
  obtain ⟨hx, hb, hr, hml, hown, hts, hlocks, hRf, hRl⟩ := id C0
  intro n
  induction n with
  | zero =>
    intro x6 x5 x4 x3 x2 x1 si sj sa sb hf
    exact absurd hf (by simp [f_Mo_nameRows_132])
  | succ n ih =>
    intro x6 x5 x4 x3 x2 x1 si sj sa sb hf H locs ls hP hD hS hl
    unfold f_Mo_nameRows_132 at hf
    refine lv_iload hx hb d_Mo_nameRows_132 (lv_at hl 0 rfl) ?_
    refine lv_iload hx hb d_Mo_nameRows_134 (lv_at hl 2 rfl) ?_
    refine lv_icmp_ge (tgt := 180) hx hb d_Mo_nameRows_136 (by decide) (fun c_16 => ?_) (fun c_16 => ?_)
    · have hf := it_t c_16 hf
      exact k_Mo_nameRows_180 C0 hST hA hK hE hK91 hf hP hD hS (lv_sub hl [1, 3, 4, 5, 6] rfl)
    · have hf := it_f c_16 hf
      refine lv_iload hx hb d_Mo_nameRows_139 (lv_at hl 1 rfl) ?_
      refine lv_if_eq (tgt := 180) hx hb d_Mo_nameRows_141 (by decide) (fun c_24 => ?_) (fun c_24 => ?_)
      · have hf := it_t c_24 hf
        exact k_Mo_nameRows_180 C0 hST hA hK hE hK91 hf hP hD hS (lv_sub hl [1, 3, 4, 5, 6] rfl)
      · have hf := it_f c_24 hf
        refine lv_aload_n hx hb d_Mo_nameRows_144 rfl (lv_at hl 6 rfl) ?_
        refine mg_17 hx hb hts hown hK hP d_Mo_nameRows_145 ?_
        refine lv_sipush (v := 200) hx hb d_Mo_nameRows_148 (by decide) ?_
        refine lv_iload_n hx hb d_Mo_nameRows_151 rfl (lv_at hl 5 rfl) ?_
        refine lv_imul hx hb d_Mo_nameRows_152 ?_
        refine lv_aload_n hx hb d_Mo_nameRows_153 rfl (lv_at hl 6 rfl) ?_
        refine mg_16 hx hb hts hown hK hP d_Mo_nameRows_154 ?_
        refine lv_bipush (v := 40) hx hb d_Mo_nameRows_157 (by decide) ?_
        refine lv_iload_n hx hb d_Mo_nameRows_159 rfl (lv_at hl 5 rfl) ?_
        refine lv_imul hx hb d_Mo_nameRows_160 ?_
        refine lv_iload_n hx hb d_Mo_nameRows_161 rfl (lv_at hl 3 rfl) ?_
        refine lv_iadd hx hb d_Mo_nameRows_162 ?_
        obtain ⟨c_25, hf⟩ := it_n hf
        refine ma_16 (v := sa 16 ((40 * x1) + x3).toNatClampNeg) hx hb hK hP c_25 rfl d_Mo_nameRows_163 ?_
        refine lv_iadd hx hb d_Mo_nameRows_164 ?_
        refine lv_iload hx hb d_Mo_nameRows_165 (lv_at hl 0 rfl) ?_
        refine lv_iadd hx hb d_Mo_nameRows_167 ?_
        obtain ⟨c_26, hf⟩ := it_n hf
        refine ma_17 (v := sa 17 (((200 * x1) + (sa 16 ((40 * x1) + x3).toNatClampNeg)) + x6).toNatClampNeg) hx hb hK hP c_26 rfl d_Mo_nameRows_168 ?_
        obtain ⟨r_27, hc, hf⟩ := ob hf
        refine cl_S (v := (some (.int r_27))) (st1 := [.int r_27]) (va_runS (As := [.int (sa 17 (((200 * x1) + (sa 16 ((40 * x1) + x3).toNatClampNeg)) + x6).toNatClampNeg)]) (rest := []) ⟨hx, hb, hml, hown, hts⟩ (c_Mo_isNamed l dC dI nf (sa 17 (((200 * x1) + (sa 16 ((40 * x1) + x3).toNatClampNeg)) + x6).toNatClampNeg) hc) (va_cwS 1 hts (gdS m_6_87 m_6_88 m_1_10 m_6_89) rfl rfl rfl (by decide +kernel) ⟨Nat.le_trans (Nat.le_of_ble_eq_true rfl) hRf, Nat.le_trans (Nat.le_of_ble_eq_true rfl) hRl⟩) (RO.pre0 hK (hST.ro hS)).sta rfl rfl hl.1 rfl (lv_room (Nat.le_of_ble_eq_true rfl)) d_Mo_nameRows_169 ⟨Nat.zero_le _, Nat.zero_le _⟩) rfl ?_
        refine lv_istore (lv' := [(5, .int r_27), (6, .int x6), (4, .int x4), (3, .int x3), (2, .int x2), (1, .int x1), (0, .ref h0)]) hx hb d_Mo_nameRows_172 hl (by decide) rfl (fun ls hl => ?_)
        refine lv_iinc (v := x6 + 1) (lv' := [(6, .int (x6 + 1)), (5, .int r_27), (4, .int x4), (3, .int x3), (2, .int x2), (1, .int x1), (0, .ref h0)]) hx hb d_Mo_nameRows_174 hl (k := 1) rfl rfl (by decide) rfl (fun ls hl => ?_)
        refine lv_goto (tgt := 132) hx hb d_Mo_nameRows_177 (by decide) ?_
        exact ih hf hP hD hS (lv_sub hl [0, 1, 2, 3, 4, 5, 6] rfl)
set_option maxHeartbeats 400000 in
set_option maxRecDepth 100000 in
theorem k_Mo_nameRows_127 (C0 : Cx p s m meth c args R b_Mo_nameRows "ZoneFilesModel" 7 (some .boolean) 2 44) (hST : ST A s s.heap) (hA : ∀ q, s.heap.size ≤ q → A q) (hK : va_K (dC, dI) classes (moT cA) s) (hE : ∀ (pc : Nat) (ls : Array Slot) (H : Heap) (locs : List Loc), decode b_Mo_nameRows pc = .ok (.ireturn, 1) → narrow .boolean (.int r0) = .int r0 → va_P (dC, dI) classes (moW h0 r cA vi vj va vb) H → va_D A (moW h0 r cA vi vj va vb) → va_S A s.heap H locs → W p l e R s m args below meth c H locs 0 0 Q (F0 m pc ls [.int r0])) {K91 : Int32 → Int32 → Int32 → (Nat → Int32) → (Nat → Int64) → (Nat → Nat → Int32) → (Nat → Nat → Int64) → Option (Int32 × (Nat → Int32) × (Nat → Int64) × (Nat → Nat → Int32) × (Nat → Nat → Int64))} (hK91 : ∀ {x3 : Int32} {x2 : Int32} {x1 : Int32} {si : Nat → Int32} {sj : Nat → Int64} {sa : Nat → Nat → Int32} {sb : Nat → Nat → Int64}, K91 x3 x2 x1 si sj sa sb = some (r0, vi, vj, va, vb) → ∀ {H : Heap} {locs : List Loc} {ls : Array Slot}, va_P (dC, dI) classes (moW h0 r cA si sj sa sb) H → va_D A (moW h0 r cA si sj sa sb) → va_S A s.heap H locs → lv_has ls 7 [(3, .int x3), (2, .int x2), (1, .int x1), (0, .ref h0)] → W p l e R s m args below meth c H locs 0 0 Q (F0 m 91 ls [])) {x4 : Int32} {x3 : Int32} {x2 : Int32} {x1 : Int32} {s0 : Int32} {si : Nat → Int32} {sj : Nat → Int64} {sa : Nat → Nat → Int32} {sb : Nat → Nat → Int64} (hf : f_Mo_nameRows_127 nf K91 x4 x3 x2 x1 s0 si sj sa sb = some (r0, vi, vj, va, vb)) {H : Heap} {locs : List Loc} {ls : Array Slot} (hP : va_P (dC, dI) classes (moW h0 r cA si sj sa sb) H) (hD : va_D A (moW h0 r cA si sj sa sb)) (hS : va_S A s.heap H locs) (hl : lv_has ls 7 [(4, .int x4), (3, .int x3), (2, .int x2), (1, .int x1), (0, .ref h0)]) : W p l e R s m args below meth c H locs 0 0 Q (F0 m 127 ls [.int s0]) := by
  obtain ⟨hx, hb, hr, hml, hown, hts, hlocks, hRf, hRl⟩ := id C0
  unfold f_Mo_nameRows_127 at hf
  refine lv_istore (lv' := [(5, .int s0), (4, .int x4), (3, .int x3), (2, .int x2), (1, .int x1), (0, .ref h0)]) hx hb d_Mo_nameRows_127 hl (by decide) rfl (fun ls hl => ?_)
  refine lv_iconst (v := 0) hx hb d_Mo_nameRows_129 (by decide) ?_
  refine lv_istore (lv' := [(6, .int 0), (5, .int s0), (4, .int x4), (3, .int x3), (2, .int x2), (1, .int x1), (0, .ref h0)]) hx hb d_Mo_nameRows_130 hl (by decide) rfl (fun ls hl => ?_)
  exact k_Mo_nameRows_132 C0 hST hA hK hE hK91 nf hf hP hD hS (lv_sub hl [0, 1, 2, 3, 4, 5, 6] rfl)
set_option maxHeartbeats 400000 in
set_option maxRecDepth 100000 in
theorem k_Mo_nameRows_126 (C0 : Cx p s m meth c args R b_Mo_nameRows "ZoneFilesModel" 7 (some .boolean) 2 44) (hST : ST A s s.heap) (hA : ∀ q, s.heap.size ≤ q → A q) (hK : va_K (dC, dI) classes (moT cA) s) (hE : ∀ (pc : Nat) (ls : Array Slot) (H : Heap) (locs : List Loc), decode b_Mo_nameRows pc = .ok (.ireturn, 1) → narrow .boolean (.int r0) = .int r0 → va_P (dC, dI) classes (moW h0 r cA vi vj va vb) H → va_D A (moW h0 r cA vi vj va vb) → va_S A s.heap H locs → W p l e R s m args below meth c H locs 0 0 Q (F0 m pc ls [.int r0])) {K91 : Int32 → Int32 → Int32 → (Nat → Int32) → (Nat → Int64) → (Nat → Nat → Int32) → (Nat → Nat → Int64) → Option (Int32 × (Nat → Int32) × (Nat → Int64) × (Nat → Nat → Int32) × (Nat → Nat → Int64))} (hK91 : ∀ {x3 : Int32} {x2 : Int32} {x1 : Int32} {si : Nat → Int32} {sj : Nat → Int64} {sa : Nat → Nat → Int32} {sb : Nat → Nat → Int64}, K91 x3 x2 x1 si sj sa sb = some (r0, vi, vj, va, vb) → ∀ {H : Heap} {locs : List Loc} {ls : Array Slot}, va_P (dC, dI) classes (moW h0 r cA si sj sa sb) H → va_D A (moW h0 r cA si sj sa sb) → va_S A s.heap H locs → lv_has ls 7 [(3, .int x3), (2, .int x2), (1, .int x1), (0, .ref h0)] → W p l e R s m args below meth c H locs 0 0 Q (F0 m 91 ls [])) {x4 : Int32} {x3 : Int32} {x2 : Int32} {x1 : Int32} {si : Nat → Int32} {sj : Nat → Int64} {sa : Nat → Nat → Int32} {sb : Nat → Nat → Int64} (hf : f_Mo_nameRows_126 nf K91 x4 x3 x2 x1 si sj sa sb = some (r0, vi, vj, va, vb)) {H : Heap} {locs : List Loc} {ls : Array Slot} (hP : va_P (dC, dI) classes (moW h0 r cA si sj sa sb) H) (hD : va_D A (moW h0 r cA si sj sa sb)) (hS : va_S A s.heap H locs) (hl : lv_has ls 7 [(4, .int x4), (3, .int x3), (2, .int x2), (1, .int x1), (0, .ref h0)]) : W p l e R s m args below meth c H locs 0 0 Q (F0 m 126 ls []) := by
  obtain ⟨hx, hb, hr, hml, hown, hts, hlocks, hRf, hRl⟩ := id C0
  unfold f_Mo_nameRows_126 at hf
  refine lv_iconst (v := 0) hx hb d_Mo_nameRows_126 (by decide) ?_
  exact k_Mo_nameRows_127 C0 hST hA hK hE hK91 hf hP hD hS (lv_sub hl [0, 1, 2, 3, 4] rfl)
set_option maxHeartbeats 400000 in
set_option maxRecDepth 100000 in
theorem k_Mo_nameRows_91 (C0 : Cx p s m meth c args R b_Mo_nameRows "ZoneFilesModel" 7 (some .boolean) 2 44) (hST : ST A s s.heap) (hA : ∀ q, s.heap.size ≤ q → A q) (hK : va_K (dC, dI) classes (moT cA) s) (hE : ∀ (pc : Nat) (ls : Array Slot) (H : Heap) (locs : List Loc), decode b_Mo_nameRows pc = .ok (.ireturn, 1) → narrow .boolean (.int r0) = .int r0 → va_P (dC, dI) classes (moW h0 r cA vi vj va vb) H → va_D A (moW h0 r cA vi vj va vb) → va_S A s.heap H locs → W p l e R s m args below meth c H locs 0 0 Q (F0 m pc ls [.int r0])) : ∀ (n : Nat) {x3 : Int32} {x2 : Int32} {x1 : Int32} {si : Nat → Int32} {sj : Nat → Int64} {sa : Nat → Nat → Int32} {sb : Nat → Nat → Int64}, f_Mo_nameRows_91 nf n x3 x2 x1 si sj sa sb = some (r0, vi, vj, va, vb) → ∀ {H : Heap} {locs : List Loc} {ls : Array Slot}, va_P (dC, dI) classes (moW h0 r cA si sj sa sb) H → va_D A (moW h0 r cA si sj sa sb) → va_S A s.heap H locs → lv_has ls 7 [(3, .int x3), (2, .int x2), (1, .int x1), (0, .ref h0)] → W p l e R s m args below meth c H locs 0 0 Q (F0 m 91 ls []) := by
  obtain ⟨hx, hb, hr, hml, hown, hts, hlocks, hRf, hRl⟩ := id C0
  intro n
  induction n with
  | zero =>
    intro x3 x2 x1 si sj sa sb hf
    exact absurd hf (by simp [f_Mo_nameRows_91])
  | succ n ih =>
    intro x3 x2 x1 si sj sa sb hf H locs ls hP hD hS hl
    unfold f_Mo_nameRows_91 at hf
    refine lv_iload_n hx hb d_Mo_nameRows_91 rfl (lv_at hl 0 rfl) ?_
    refine lv_aload_n hx hb d_Mo_nameRows_92 rfl (lv_at hl 3 rfl) ?_
    refine mg_6 hx hb hts hown hK hP d_Mo_nameRows_93 ?_
    refine lv_iload_n hx hb d_Mo_nameRows_96 rfl (lv_at hl 2 rfl) ?_
    obtain ⟨c_12, hf⟩ := it_n hf
    refine ma_6 (v := sa 6 x1.toNatClampNeg) hx hb hK hP c_12 rfl d_Mo_nameRows_97 ?_
    refine lv_icmp_ge (tgt := 206) hx hb d_Mo_nameRows_98 (by decide) (fun c_13 => ?_) (fun c_13 => ?_)
    · have hf := it_t c_13 hf
      refine lv_iconst (v := 1) hx hb d_Mo_nameRows_206 (by decide) ?_
      cases rs hf
      exact hE _ _ _ _ d_Mo_nameRows_207 rfl hP hD hS
    · have hf := it_f c_13 hf
      refine lv_aload_n hx hb d_Mo_nameRows_101 rfl (lv_at hl 3 rfl) ?_
      refine lv_iload_n hx hb d_Mo_nameRows_102 rfl (lv_at hl 2 rfl) ?_
      refine lv_iload_n hx hb d_Mo_nameRows_103 rfl (lv_at hl 0 rfl) ?_
      obtain ⟨r_14, hc, hf⟩ := ob hf
      refine cl_S (v := (some (.int r_14))) (st1 := [.int r_14]) (va_runV (As := [.int x1, .int x3]) (rest := []) ⟨hx, hb, hml, hown, hts⟩ (c_Mo_nameSize l dC dI h0 r cA nf x1 x3 si sj sa sb hc) (cwV 2 hts (gdV m_7_175 m_7_177 msel_68 m_1_10 m_7_178) rfl rfl rfl (by decide +kernel) ⟨Nat.le_trans (Nat.le_of_ble_eq_true rfl) hRf, Nat.le_trans (Nat.le_of_ble_eq_true rfl) hRl⟩) ((RO.pre hP hK (hST.ro hS)).vir (va_recv hK hP (ci := 10) (q0 := 0) rfl rfl)) rfl rfl hl.1 rfl (lv_room (Nat.le_of_ble_eq_true rfl)) d_Mo_nameRows_104 ⟨Nat.zero_le _, Nat.zero_le _⟩) rfl ?_
      refine lv_istore (lv' := [(4, .int r_14), (3, .int x3), (2, .int x2), (1, .int x1), (0, .ref h0)]) hx hb d_Mo_nameRows_107 hl (by decide) rfl (fun ls hl => ?_)
      refine lv_iload hx hb d_Mo_nameRows_109 (lv_at hl 0 rfl) ?_
      refine lv_iconst (v := 3) hx hb d_Mo_nameRows_111 (by decide) ?_
      refine lv_icmp_lt (tgt := 126) hx hb d_Mo_nameRows_112 (by decide) (fun c_15 => ?_) (fun c_15 => ?_)
      · have hf := it_t c_15 hf
        exact k_Mo_nameRows_126 C0 hST hA hK hE (fun hf => ih hf) hf hP hD hS (lv_sub hl [0, 1, 2, 3, 4] rfl)
      · have hf := it_f c_15 hf
        refine lv_iload hx hb d_Mo_nameRows_115 (lv_at hl 0 rfl) ?_
        refine lv_bipush (v := 10) hx hb d_Mo_nameRows_117 (by decide) ?_
        refine lv_icmp_gt (tgt := 126) hx hb d_Mo_nameRows_119 (by decide) (fun c_28 => ?_) (fun c_28 => ?_)
        · have hf := it_t c_28 hf
          exact k_Mo_nameRows_126 C0 hST hA hK hE (fun hf => ih hf) hf hP hD hS (lv_sub hl [0, 1, 2, 3, 4] rfl)
        · have hf := it_f c_28 hf
          refine lv_iconst (v := 1) hx hb d_Mo_nameRows_122 (by decide) ?_
          refine lv_goto (tgt := 127) hx hb d_Mo_nameRows_123 (by decide) ?_
          exact k_Mo_nameRows_127 C0 hST hA hK hE (fun hf => ih hf) hf hP hD hS (lv_sub hl [0, 1, 2, 3, 4] rfl)
set_option maxHeartbeats 400000 in
set_option maxRecDepth 100000 in
theorem k_Mo_nameRows_35 (C0 : Cx p s m meth c args R b_Mo_nameRows "ZoneFilesModel" 7 (some .boolean) 2 44) (hST : ST A s s.heap) (hA : ∀ q, s.heap.size ≤ q → A q) (hK : va_K (dC, dI) classes (moT cA) s) (hE : ∀ (pc : Nat) (ls : Array Slot) (H : Heap) (locs : List Loc), decode b_Mo_nameRows pc = .ok (.ireturn, 1) → narrow .boolean (.int r0) = .int r0 → va_P (dC, dI) classes (moW h0 r cA vi vj va vb) H → va_D A (moW h0 r cA vi vj va vb) → va_S A s.heap H locs → W p l e R s m args below meth c H locs 0 0 Q (F0 m pc ls [.int r0])) : ∀ (n : Nat) {x3 : Int32} {x2 : Int32} {x1 : Int32} {si : Nat → Int32} {sj : Nat → Int64} {sa : Nat → Nat → Int32} {sb : Nat → Nat → Int64}, f_Mo_nameRows_35 nf n x3 x2 x1 si sj sa sb = some (r0, vi, vj, va, vb) → ∀ {H : Heap} {locs : List Loc} {ls : Array Slot}, va_P (dC, dI) classes (moW h0 r cA si sj sa sb) H → va_D A (moW h0 r cA si sj sa sb) → va_S A s.heap H locs → lv_has ls 7 [(3, .int x3), (2, .int x2), (1, .int x1), (0, .ref h0)] → W p l e R s m args below meth c H locs 0 0 Q (F0 m 35 ls []) := by
  obtain ⟨hx, hb, hr, hml, hown, hts, hlocks, hRf, hRl⟩ := id C0
  intro n
  induction n with
  | zero =>
    intro x3 x2 x1 si sj sa sb hf
    exact absurd hf (by simp [f_Mo_nameRows_35])
  | succ n ih =>
    intro x3 x2 x1 si sj sa sb hf H locs ls hP hD hS hl
    unfold f_Mo_nameRows_35 at hf
    refine lv_iload_n hx hb d_Mo_nameRows_35 rfl (lv_at hl 0 rfl) ?_
    refine lv_aload_n hx hb d_Mo_nameRows_36 rfl (lv_at hl 3 rfl) ?_
    refine mg_7 hx hb hts hown hK hP d_Mo_nameRows_37 ?_
    refine lv_iload_n hx hb d_Mo_nameRows_40 rfl (lv_at hl 2 rfl) ?_
    obtain ⟨c_9, hf⟩ := it_n hf
    refine ma_7 (v := sa 7 x1.toNatClampNeg) hx hb hK hP c_9 rfl d_Mo_nameRows_41 ?_
    refine lv_icmp_ge (tgt := 74) hx hb d_Mo_nameRows_42 (by decide) (fun c_10 => ?_) (fun c_10 => ?_)
    · have hf := it_t c_10 hf
      refine lv_aload_n hx hb d_Mo_nameRows_74 rfl (lv_at hl 3 rfl) ?_
      refine lv_dup hx hb d_Mo_nameRows_75 rfl ?_
      refine mg_32 (v := si 32) hx hb hts hown hK hP rfl d_Mo_nameRows_76 ?_
      refine lv_aload_n hx hb d_Mo_nameRows_79 rfl (lv_at hl 3 rfl) ?_
      refine mg_7 hx hb hts hown hK hP d_Mo_nameRows_80 ?_
      refine lv_iload_n hx hb d_Mo_nameRows_83 rfl (lv_at hl 2 rfl) ?_
      obtain ⟨c_11, hf⟩ := it_n hf
      refine ma_7 (v := sa 7 x1.toNatClampNeg) hx hb hK hP c_11 rfl d_Mo_nameRows_84 ?_
      refine lv_iadd hx hb d_Mo_nameRows_85 ?_
      refine mp_32 hx hb hts hown hK hP hD hS d_Mo_nameRows_86 (fun H locs hP hD hS => ?_)
      refine lv_iconst (v := 0) hx hb d_Mo_nameRows_89 (by decide) ?_
      refine lv_istore_n (lv' := [(3, .int 0), (2, .int x2), (1, .int x1), (0, .ref h0)]) hx hb d_Mo_nameRows_90 rfl hl (by decide) rfl (fun ls hl => ?_)
      exact k_Mo_nameRows_91 C0 hST hA hK hE nf hf hP hD hS (lv_sub hl [0, 1, 2, 3] rfl)
    · have hf := it_f c_10 hf
      refine lv_aload_n hx hb d_Mo_nameRows_45 rfl (lv_at hl 3 rfl) ?_
      refine mg_17 hx hb hts hown hK hP d_Mo_nameRows_46 ?_
      refine lv_sipush (v := 200) hx hb d_Mo_nameRows_49 (by decide) ?_
      refine lv_iload_n hx hb d_Mo_nameRows_52 rfl (lv_at hl 2 rfl) ?_
      refine lv_imul hx hb d_Mo_nameRows_53 ?_
      refine lv_iload_n hx hb d_Mo_nameRows_54 rfl (lv_at hl 0 rfl) ?_
      refine lv_iadd hx hb d_Mo_nameRows_55 ?_
      refine lv_aload_n hx hb d_Mo_nameRows_56 rfl (lv_at hl 3 rfl) ?_
      refine mg_0 hx hb hts hown hK hP d_Mo_nameRows_57 ?_
      refine lv_aload_n hx hb d_Mo_nameRows_60 rfl (lv_at hl 3 rfl) ?_
      refine mg_32 (v := si 32) hx hb hts hown hK hP rfl d_Mo_nameRows_61 ?_
      refine lv_iload_n hx hb d_Mo_nameRows_64 rfl (lv_at hl 0 rfl) ?_
      refine lv_iadd hx hb d_Mo_nameRows_65 ?_
      obtain ⟨c_29, hf⟩ := it_n hf
      refine ma_0 (v := sa 0 ((si 32) + x3).toNatClampNeg) hx hb hK hP c_29 rfl d_Mo_nameRows_66 ?_
      obtain ⟨c_30, hf⟩ := it_n hf
      refine mz_17 hx hb hK hP hD hS c_30 d_Mo_nameRows_67 (fun H locs hP hD hS => ?_)
      refine lv_iinc (v := x3 + 1) (lv' := [(3, .int (x3 + 1)), (2, .int x2), (1, .int x1), (0, .ref h0)]) hx hb d_Mo_nameRows_68 hl (k := 0) rfl rfl (by decide) rfl (fun ls hl => ?_)
      refine lv_goto (tgt := 35) hx hb d_Mo_nameRows_71 (by decide) ?_
      exact ih hf hP hD hS (lv_sub hl [0, 1, 2, 3] rfl)
set_option maxHeartbeats 400000 in
set_option maxRecDepth 100000 in
theorem k_Mo_nameRows_0 (C0 : Cx p s m meth c args R b_Mo_nameRows "ZoneFilesModel" 7 (some .boolean) 2 44) (hST : ST A s s.heap) (hA : ∀ q, s.heap.size ≤ q → A q) (hK : va_K (dC, dI) classes (moT cA) s) (hE : ∀ (pc : Nat) (ls : Array Slot) (H : Heap) (locs : List Loc), decode b_Mo_nameRows pc = .ok (.ireturn, 1) → narrow .boolean (.int r0) = .int r0 → va_P (dC, dI) classes (moW h0 r cA vi vj va vb) H → va_D A (moW h0 r cA vi vj va vb) → va_S A s.heap H locs → W p l e R s m args below meth c H locs 0 0 Q (F0 m pc ls [.int r0])) {si : Nat → Int32} {sj : Nat → Int64} {sa : Nat → Nat → Int32} {sb : Nat → Nat → Int64} (hf : f_Mo_nameRows_0 nf si sj sa sb = some (r0, vi, vj, va, vb)) {H : Heap} {locs : List Loc} {ls : Array Slot} (hP : va_P (dC, dI) classes (moW h0 r cA si sj sa sb) H) (hD : va_D A (moW h0 r cA si sj sa sb)) (hS : va_S A s.heap H locs) (hl : lv_has ls 7 [(0, .ref h0)]) : W p l e R s m args below meth c H locs 0 0 Q (F0 m 0 ls []) := by
  obtain ⟨hx, hb, hr, hml, hown, hts, hlocks, hRf, hRl⟩ := id C0
  unfold f_Mo_nameRows_0 at hf
  refine lv_iconst (v := 4) hx hb d_Mo_nameRows_0 (by decide) ?_
  refine lv_istore_n (lv' := [(1, .int 4), (0, .ref h0)]) hx hb d_Mo_nameRows_1 rfl hl (by decide) rfl (fun ls hl => ?_)
  refine lv_aload_n hx hb d_Mo_nameRows_2 rfl (lv_at hl 1 rfl) ?_
  refine mg_32 (v := si 32) hx hb hts hown hK hP rfl d_Mo_nameRows_3 ?_
  refine lv_bipush (v := 6) hx hb d_Mo_nameRows_6 (by decide) ?_
  refine lv_aload_n hx hb d_Mo_nameRows_8 rfl (lv_at hl 1 rfl) ?_
  refine mg_6 hx hb hts hown hK hP d_Mo_nameRows_9 ?_
  refine lv_iload_n hx hb d_Mo_nameRows_12 rfl (lv_at hl 0 rfl) ?_
  obtain ⟨c_1, hf⟩ := it_n hf
  refine ma_6 (v := sa 6 (4 : Int32).toNatClampNeg) hx hb hK hP c_1 rfl d_Mo_nameRows_13 ?_
  refine lv_imul hx hb d_Mo_nameRows_14 ?_
  refine lv_isub hx hb d_Mo_nameRows_15 ?_
  refine lv_istore_n (lv' := [(2, .int ((si 32) - (6 * (sa 6 (4 : Int32).toNatClampNeg)))), (1, .int 4), (0, .ref h0)]) hx hb d_Mo_nameRows_16 rfl hl (by decide) rfl (fun ls hl => ?_)
  refine lv_aload_n hx hb d_Mo_nameRows_17 rfl (lv_at hl 2 rfl) ?_
  refine lv_aload_n hx hb d_Mo_nameRows_18 rfl (lv_at hl 2 rfl) ?_
  refine mg_7 hx hb hts hown hK hP d_Mo_nameRows_19 ?_
  refine lv_iload_n hx hb d_Mo_nameRows_22 rfl (lv_at hl 1 rfl) ?_
  obtain ⟨c_2, hf⟩ := it_n hf
  refine ma_7 (v := sa 7 (4 : Int32).toNatClampNeg) hx hb hK hP c_2 rfl d_Mo_nameRows_23 ?_
  refine lv_i2l hx hb d_Mo_nameRows_24 rfl ?_
  obtain ⟨⟨z_7, i_3, j_4, a_5, b_6⟩, hc, hf⟩ := ob hf
  have hFc := mo_free hD hS hA
  refine cl_M (v := (some (.int z_7))) (st1 := [.int z_7]) (va_runV (As := [.long ((sa 7 (4 : Int32).toNatClampNeg).toInt64)]) (rest := []) ⟨hx, hb, hml, hown, hts⟩ (c_Mo_needs l dC dI h0 r cA H.size nf ((sa 7 (4 : Int32).toNatClampNeg).toInt64) si sj sa sb hc) (cwV 1 hts (gdV m_7_151 m_7_153 msel_64 m_1_10 m_7_154) rfl rfl rfl (by decide +kernel) ⟨Nat.le_trans (Nat.le_of_ble_eq_true rfl) hRf, Nat.le_trans (Nat.le_of_ble_eq_true rfl) hRl⟩) ((MU.pre hP hK hD (hST.mu hS hFc)).vir (va_recv hK hP (ci := 10) (q0 := 0) rfl rfl)) rfl rfl hl.1 rfl (lv_room (Nat.le_of_ble_eq_true rfl)) d_Mo_nameRows_25 ⟨Nat.zero_le _, Nat.zero_le _⟩) rfl hS (fun q _ h => hFc q h) hFc (fun t H1 locs ht hvm hB hz1 hk1 hS => ?_)
  obtain ⟨hP, hD⟩ := mo_back ht hD hB
  generalize H1 = H at hP hS ⊢
  refine lv_if_ne (tgt := 33) hx hb d_Mo_nameRows_28 (by decide) (fun c_8 => ?_) (fun c_8 => ?_)
  · have hf := it_f c_8 hf
    refine lv_iconst (v := 0) hx hb d_Mo_nameRows_33 (by decide) ?_
    refine lv_istore_n (lv' := [(3, .int 0), (2, .int ((si 32) - (6 * (sa 6 (4 : Int32).toNatClampNeg)))), (1, .int 4), (0, .ref h0)]) hx hb d_Mo_nameRows_34 rfl hl (by decide) rfl (fun ls hl => ?_)
    exact k_Mo_nameRows_35 C0 hST hA hK hE nf hf hP hD hS (lv_sub hl [0, 1, 2, 3] rfl)
  · have hf := it_t c_8 hf
    refine lv_iconst (v := 0) hx hb d_Mo_nameRows_31 (by decide) ?_
    cases rs hf
    exact hE _ _ _ _ d_Mo_nameRows_32 rfl hP hD hS
end
set_option maxHeartbeats 400000 in
set_option maxRecDepth 100000 in
theorem c_Mo_nameRows (l : Launch) (dC : Nat → ClassId) (dI : Nat → Nat → Nat) (h0 : Nat) (r : Nat → Nat) (cA : Nat → ClassId) (sz : Nat) (nf : Nat) (si : Nat → Int32) (sj : Nat → Int64) (sa : Nat → Nat → Int32) (sb : Nat → Nat → Int64) {r0 : Int32} {vi : Nat → Int32} {vj : Nat → Int64} {va : Nat → Nat → Int32} {vb : Nat → Nat → Int64} (hf : f_Mo_nameRows nf si sj sa sb = some (r0, vi, vj, va, vb)) : Met l y_Mo_nameRows (wd y_Mo_nameRows b_Mo_nameRows 7 (some .boolean)) ({ frames := 2, cells := 0, slots := 0, locals := 44 }) (MU dC dI (moW h0 r cA si sj sa sb) (moT cA) sz [.ref h0]) (MV (some (.int r0)) (fun t => va_P (dC, dI) classes (moW h0 r cA vi vj va vb) t.heap) (va_A (moW h0 r cA si sj sa sb) sz)) 0 0 (va_A (moW h0 r cA si sj sa sb) sz) :=
  met_M (plainFor_of_name (by decide)) (Nat.le_of_ble_eq_true rfl) (fun p e R s m args below meth c ls hRc hRs hsz hin C0 hST hK hP hD hl => by
    obtain ⟨hx, hb, hr, hml, hown, hts, hlocks, hRf, hRl⟩ := id C0
    subst hsz
    have hA : ∀ q : Nat, s.heap.size ≤ q → va_A (moW h0 r cA si sj sa sb) s.heap.size q := fun q h => Or.inr h
    have hS : va_S (va_A (moW h0 r cA si sj sa sb) s.heap.size) s.heap s.heap [] := va_S.rf
    unfold f_Mo_nameRows at hf
    exact k_Mo_nameRows_0 C0 hST hA hK (fun pc ls H locs hd hn hP hD hS => W.zret hx hb hr hn (fun t ht hW => ⟨⟨rfl, mo_end ht hP⟩, hS.F ht⟩) hS.2.2 hd) hf hP hD hS (lv_sub hl [0] rfl))
-- ZoneFilesModel.isInstant(J)Z
def f_Mo_isInstant_21 (nf : Nat) (s0 : Int32) : Option (Int32) :=
  if s0 = 0 ∨ s0 = 1 then some s0 else none
def f_Mo_isInstant_20 (nf : Nat) : Option (Int32) :=
  f_Mo_isInstant_21 nf 0
def f_Mo_isInstant_0 (nf : Nat) (x0 : Int64) : Option (Int32) :=
  if x0 ≤ (-1152921504606846976 : Int64) then
  f_Mo_isInstant_20 nf
  else
  if (1152921504606846976 : Int64) ≤ x0 then
    f_Mo_isInstant_20 nf
    else
    f_Mo_isInstant_21 nf 1
def f_Mo_isInstant (nf : Nat) (p0 : Int64) : Option (Int32) :=
  f_Mo_isInstant_0 nf p0
section
variable {p : Program} {l : Launch} {e : Env} {R : Room} {s : State} {m : MethodId} {args : Array Value} {below : List Frame} {meth : Method} {c : Code} {Q : State → Prop} {dC : Nat → ClassId} {dI : Nat → Nat → Nat} {nf : Nat}
variable {r0 : Int32}
set_option maxHeartbeats 400000 in
set_option maxRecDepth 100000 in
theorem k_Mo_isInstant_21 (C0 : Cx p s m meth c args R b_Mo_isInstant "ZoneFilesModel" 2 (some .boolean) 0 0) (hST : ST (fun _ => False) s s.heap) (hK : va_K (dC, dI) classes [] s) (hE : ∀ (pc : Nat) (ls : Array Slot), decode b_Mo_isInstant pc = .ok (.ireturn, 1) → narrow .boolean (.int r0) = .int r0 → W p l e R s m args below meth c s.heap [] 0 0 Q (F0 m pc ls [.int r0])) {s0 : Int32} (hf : f_Mo_isInstant_21 nf s0 = some r0) {ls : Array Slot} (hl : lv_has ls 2 []) : W p l e R s m args below meth c s.heap [] 0 0 Q (F0 m 21 ls [.int s0]) := by
  obtain ⟨hx, hb, hr, hml, hown, hts, hlocks, hRf, hRl⟩ := id C0
  obtain ⟨tms, hZms, hTms, tmg, hZmg, hTmg, hNW⟩ := id hST
  unfold f_Mo_isInstant_21 at hf
  obtain ⟨c_2, hf⟩ := it_g hf
  have e := rs hf
  subst e
  exact hE _ _ d_Mo_isInstant_21 (nb_of c_2)
set_option maxHeartbeats 400000 in
set_option maxRecDepth 100000 in
theorem k_Mo_isInstant_20 (C0 : Cx p s m meth c args R b_Mo_isInstant "ZoneFilesModel" 2 (some .boolean) 0 0) (hST : ST (fun _ => False) s s.heap) (hK : va_K (dC, dI) classes [] s) (hE : ∀ (pc : Nat) (ls : Array Slot), decode b_Mo_isInstant pc = .ok (.ireturn, 1) → narrow .boolean (.int r0) = .int r0 → W p l e R s m args below meth c s.heap [] 0 0 Q (F0 m pc ls [.int r0])) (hf : f_Mo_isInstant_20 nf = some r0) {ls : Array Slot} (hl : lv_has ls 2 []) : W p l e R s m args below meth c s.heap [] 0 0 Q (F0 m 20 ls []) := by
  obtain ⟨hx, hb, hr, hml, hown, hts, hlocks, hRf, hRl⟩ := id C0
  obtain ⟨tms, hZms, hTms, tmg, hZmg, hTmg, hNW⟩ := id hST
  unfold f_Mo_isInstant_20 at hf
  refine lv_iconst (v := 0) hx hb d_Mo_isInstant_20 (by decide) ?_
  exact k_Mo_isInstant_21 C0 hST hK hE hf (lv_sub hl [] rfl)
set_option maxHeartbeats 400000 in
set_option maxRecDepth 100000 in
theorem k_Mo_isInstant_0 (C0 : Cx p s m meth c args R b_Mo_isInstant "ZoneFilesModel" 2 (some .boolean) 0 0) (hST : ST (fun _ => False) s s.heap) (hK : va_K (dC, dI) classes [] s) (hE : ∀ (pc : Nat) (ls : Array Slot), decode b_Mo_isInstant pc = .ok (.ireturn, 1) → narrow .boolean (.int r0) = .int r0 → W p l e R s m args below meth c s.heap [] 0 0 Q (F0 m pc ls [.int r0])) {x0 : Int64} (hf : f_Mo_isInstant_0 nf x0 = some r0) {ls : Array Slot} (hl : lv_has ls 2 [(0, .long x0)]) : W p l e R s m args below meth c s.heap [] 0 0 Q (F0 m 0 ls []) := by
  obtain ⟨hx, hb, hr, hml, hown, hts, hlocks, hRf, hRl⟩ := id C0
  obtain ⟨tms, hZms, hTms, tmg, hZmg, hTmg, hNW⟩ := id hST
  unfold f_Mo_isInstant_0 at hf
  refine lv_lload_n hx hb d_Mo_isInstant_0 rfl (lv_at hl 0 rfl) ?_
  refine lv_ldc2 (v := (-1152921504606846976)) hx hb hown (hts (.constantLong "ZoneFilesModel" 331 (-1152921504606846976)) m_7_162) d_Mo_isInstant_1 ?_
  refine lc_le (tgt := 20) hx hb d_Mo_isInstant_4 d_Mo_isInstant_5 (by decide) (fun c_1 => ?_) (fun c_1 => ?_)
  · have hf := it_t c_1 hf
    exact k_Mo_isInstant_20 C0 hST hK hE hf (lv_sub hl [] rfl)
  · have hf := it_f c_1 hf
    refine lv_lload_n hx hb d_Mo_isInstant_8 rfl (lv_at hl 0 rfl) ?_
    refine lv_ldc2 (v := 1152921504606846976) hx hb hown (hts (.constantLong "ZoneFilesModel" 333 1152921504606846976) m_7_163) d_Mo_isInstant_9 ?_
    refine lc_ge (tgt := 20) hx hb d_Mo_isInstant_12 d_Mo_isInstant_13 (by decide) (fun c_3 => ?_) (fun c_3 => ?_)
    · have hf := it_t c_3 hf
      exact k_Mo_isInstant_20 C0 hST hK hE hf (lv_sub hl [] rfl)
    · have hf := it_f c_3 hf
      refine lv_iconst (v := 1) hx hb d_Mo_isInstant_16 (by decide) ?_
      refine lv_goto (tgt := 21) hx hb d_Mo_isInstant_17 (by decide) ?_
      exact k_Mo_isInstant_21 C0 hST hK hE hf (lv_sub hl [] rfl)
end
set_option maxHeartbeats 400000 in
set_option maxRecDepth 100000 in
theorem c_Mo_isInstant (l : Launch) (dC : Nat → ClassId) (dI : Nat → Nat → Nat) (nf : Nat) (p0 : Int64) {r0 : Int32} (hf : f_Mo_isInstant nf p0 = some r0) : Met l y_Mo_isInstant (wd y_Mo_isInstant b_Mo_isInstant 2 (some .boolean)) ({ frames := 0, cells := 0, slots := 0, locals := 0 }) (RO dC dI [] [] [.long p0]) (SV (some (.int r0))) 0 0 (fun _ => False) :=
  met_S (plainFor_of_name (by decide)) (Nat.le_of_ble_eq_true rfl) (fun p e R s m args below meth c ls C0 hST hK hP hl => by
    obtain ⟨hx, hb, hr, hml, hown, hts, hlocks, hRf, hRl⟩ := id C0
    unfold f_Mo_isInstant at hf
    exact k_Mo_isInstant_0 C0 hST hK (fun pc ls hd hn => W.zret hx hb hr hn (fun t ht hW => ⟨rfl, ht⟩) (fun q h => by cases h) hd) hf (lv_sub hl [0] rfl))
