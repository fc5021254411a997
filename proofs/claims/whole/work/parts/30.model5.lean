theorem m_8_62 : Cond.methodLink "ZoneFilesModel" 433 ⟨"ZoneFilesModel", "tryOffset", "(IJJ)V"⟩ ∈ T0 := tb_8 62 rfl rfl
theorem m_8_64 : Cond.instanceMethod ⟨"ZoneFilesModel", "tryOffset", "(IJJ)V"⟩ ∈ T0 := tb_8 64 rfl rfl
theorem m_8_65 : Cond.code ⟨"ZoneFilesModel", "tryOffset", "(IJJ)V"⟩ prog_14_method_58_code 10 none ∈ T0 := tb_8 65 rfl rfl
theorem m_8_74 : Cond.methodLink "ZoneFilesModel" 441 ⟨"ZoneFilesModel", "isStep", "(IJ)Z"⟩ ∈ T0 := tb_8 74 rfl rfl
theorem m_8_76 : Cond.instanceMethod ⟨"ZoneFilesModel", "isStep", "(IJ)Z"⟩ ∈ T0 := tb_8 76 rfl rfl
theorem m_8_77 : Cond.code ⟨"ZoneFilesModel", "isStep", "(IJ)Z"⟩ prog_14_method_61_code 4 (some .boolean) ∈ T0 := tb_8 77 rfl rfl
theorem m_8_78 : Cond.methodLink "ZoneFilesModel" 444 ⟨"ZoneFilesModel", "eventAbove", "(IJ)J"⟩ ∈ T0 := tb_8 78 rfl rfl
theorem m_8_80 : Cond.instanceMethod ⟨"ZoneFilesModel", "eventAbove", "(IJ)J"⟩ ∈ T0 := tb_8 80 rfl rfl
theorem m_8_81 : Cond.code ⟨"ZoneFilesModel", "eventAbove", "(IJ)J"⟩ prog_14_method_62_code 13 (some .long) ∈ T0 := tb_8 81 rfl rfl
theorem m_8_82 : Cond.constantLong "ZoneFilesModel" 437 9223372036854775807 ∈ T0 := tb_8 82 rfl rfl
theorem m_8_83 : Cond.constantLong "ZoneFilesModel" 439 3 ∈ T0 := tb_8 83 rfl rfl
theorem m_8_88 : Cond.methodLink "ZoneFilesModel" 447 ⟨"ZoneFilesModel", "eventBelow", "(IJ)J"⟩ ∈ T0 := tb_8 88 rfl rfl
theorem m_8_90 : Cond.instanceMethod ⟨"ZoneFilesModel", "eventBelow", "(IJ)J"⟩ ∈ T0 := tb_8 90 rfl rfl
theorem m_8_91 : Cond.code ⟨"ZoneFilesModel", "eventBelow", "(IJ)J"⟩ prog_14_method_63_code 13 (some .long) ∈ T0 := tb_8 91 rfl rfl
theorem m_8_96 : Cond.methodLink "ZoneFilesModel" 456 ⟨"ZoneFilesModel", "addTime", "(JI)Z"⟩ ∈ T0 := tb_8 96 rfl rfl
theorem m_8_98 : Cond.instanceMethod ⟨"ZoneFilesModel", "addTime", "(JI)Z"⟩ ∈ T0 := tb_8 98 rfl rfl
theorem m_8_99 : Cond.code ⟨"ZoneFilesModel", "addTime", "(JI)Z"⟩ prog_14_method_68_code 7 (some .boolean) ∈ T0 := tb_8 99 rfl rfl
theorem m_8_100 : Cond.methodLink "ZoneFilesModel" 450 ⟨"ZoneFilesModel", "typeLike", "(I)I"⟩ ∈ T0 := tb_8 100 rfl rfl
theorem m_8_102 : Cond.instanceMethod ⟨"ZoneFilesModel", "typeLike", "(I)I"⟩ ∈ T0 := tb_8 102 rfl rfl
theorem m_8_103 : Cond.code ⟨"ZoneFilesModel", "typeLike", "(I)I"⟩ prog_14_method_66_code 6 (some .int) ∈ T0 := tb_8 103 rfl rfl
theorem m_8_104 : Cond.methodLink "ZoneFilesModel" 453 ⟨"ZoneFilesModel", "lettersLike", "(I)I"⟩ ∈ T0 := tb_8 104 rfl rfl
theorem m_8_106 : Cond.instanceMethod ⟨"ZoneFilesModel", "lettersLike", "(I)I"⟩ ∈ T0 := tb_8 106 rfl rfl
theorem m_8_107 : Cond.code ⟨"ZoneFilesModel", "lettersLike", "(I)I"⟩ prog_14_method_67_code 7 (some .int) ∈ T0 := tb_8 107 rfl rfl
theorem m_8_124 : Cond.methodLink "ZoneFilesModel" 463 ⟨"ZoneFilesModel", "putNumber", "(JI)V"⟩ ∈ T0 := tb_8 124 rfl rfl
theorem m_8_126 : Cond.instanceMethod ⟨"ZoneFilesModel", "putNumber", "(JI)V"⟩ ∈ T0 := tb_8 126 rfl rfl
theorem m_8_127 : Cond.code ⟨"ZoneFilesModel", "putNumber", "(JI)V"⟩ prog_14_method_70_code 5 none ∈ T0 := tb_8 127 rfl rfl
theorem msel_85 : Cond.selects "ZoneFilesModel" ⟨"ZoneFilesModel", "tryOffset", "(IJJ)V"⟩ ⟨"ZoneFilesModel", "tryOffset", "(IJJ)V"⟩ ∈ T0 := ps_6 (q := (⟨"ZoneFilesModel", "tryOffset", "(IJJ)V"⟩, 72)) 5 rfl
theorem msel_86 : Cond.selects "ZoneFilesModel" ⟨"ZoneFilesModel", "isStep", "(IJ)Z"⟩ ⟨"ZoneFilesModel", "isStep", "(IJ)Z"⟩ ∈ T0 := ps_6 (q := (⟨"ZoneFilesModel", "isStep", "(IJ)Z"⟩, 72)) 6 rfl
theorem msel_87 : Cond.selects "ZoneFilesModel" ⟨"ZoneFilesModel", "eventAbove", "(IJ)J"⟩ ⟨"ZoneFilesModel", "eventAbove", "(IJ)J"⟩ ∈ T0 := ps_6 (q := (⟨"ZoneFilesModel", "eventAbove", "(IJ)J"⟩, 72)) 7 rfl
theorem msel_88 : Cond.selects "ZoneFilesModel" ⟨"ZoneFilesModel", "eventBelow", "(IJ)J"⟩ ⟨"ZoneFilesModel", "eventBelow", "(IJ)J"⟩ ∈ T0 := ps_6 (q := (⟨"ZoneFilesModel", "eventBelow", "(IJ)J"⟩, 72)) 8 rfl
theorem msel_89 : Cond.selects "ZoneFilesModel" ⟨"ZoneFilesModel", "addTime", "(JI)Z"⟩ ⟨"ZoneFilesModel", "addTime", "(JI)Z"⟩ ∈ T0 := ps_6 (q := (⟨"ZoneFilesModel", "addTime", "(JI)Z"⟩, 72)) 9 rfl
theorem msel_90 : Cond.selects "ZoneFilesModel" ⟨"ZoneFilesModel", "typeLike", "(I)I"⟩ ⟨"ZoneFilesModel", "typeLike", "(I)I"⟩ ∈ T0 := ps_6 (q := (⟨"ZoneFilesModel", "typeLike", "(I)I"⟩, 72)) 10 rfl
theorem msel_91 : Cond.selects "ZoneFilesModel" ⟨"ZoneFilesModel", "lettersLike", "(I)I"⟩ ⟨"ZoneFilesModel", "lettersLike", "(I)I"⟩ ∈ T0 := ps_6 (q := (⟨"ZoneFilesModel", "lettersLike", "(I)I"⟩, 72)) 11 rfl
theorem msel_95 : Cond.selects "ZoneFilesModel" ⟨"ZoneFilesModel", "putNumber", "(JI)V"⟩ ⟨"ZoneFilesModel", "putNumber", "(JI)V"⟩ ∈ T0 := ps_6 (q := (⟨"ZoneFilesModel", "putNumber", "(JI)V"⟩, 72)) 15 rfl
abbrev b_Mo_tryOffset : ByteArray := prog_14_method_58_code
def y_Mo_tryOffset : MethodName := ⟨"ZoneFilesModel", "tryOffset", "(IJJ)V"⟩
theorem d_Mo_tryOffset_0 : decode b_Mo_tryOffset 0 = .ok (.lload_n 2, 1) := by decide +kernel
theorem d_Mo_tryOffset_1 : decode b_Mo_tryOffset 1 = .ok (.lload 4, 2) := by decide +kernel
theorem d_Mo_tryOffset_3 : decode b_Mo_tryOffset 3 = .ok (.lsub, 1) := by decide +kernel
theorem d_Mo_tryOffset_4 : decode b_Mo_tryOffset 4 = .ok (.lstore 6, 2) := by decide +kernel
theorem d_Mo_tryOffset_6 : decode b_Mo_tryOffset 6 = .ok (.iconst 0, 1) := by decide +kernel
theorem d_Mo_tryOffset_7 : decode b_Mo_tryOffset 7 = .ok (.istore 8, 2) := by decide +kernel
theorem d_Mo_tryOffset_9 : decode b_Mo_tryOffset 9 = .ok (.iconst 0, 1) := by decide +kernel
theorem d_Mo_tryOffset_10 : decode b_Mo_tryOffset 10 = .ok (.istore 9, 2) := by decide +kernel
theorem d_Mo_tryOffset_12 : decode b_Mo_tryOffset 12 = .ok (.iload 9, 2) := by decide +kernel
theorem d_Mo_tryOffset_14 : decode b_Mo_tryOffset 14 = .ok (.aload_n 0, 1) := by decide +kernel
theorem d_Mo_tryOffset_15 : decode b_Mo_tryOffset 15 = .ok (.getfield 430, 3) := by decide +kernel
theorem d_Mo_tryOffset_18 : decode b_Mo_tryOffset 18 = .ok (.if_icmp .ge 32, 3) := by decide +kernel
theorem d_Mo_tryOffset_21 : decode b_Mo_tryOffset 21 = .ok (.iload 8, 2) := by decide +kernel
theorem d_Mo_tryOffset_23 : decode b_Mo_tryOffset 23 = .ok (.aload_n 0, 1) := by decide +kernel
theorem d_Mo_tryOffset_24 : decode b_Mo_tryOffset 24 = .ok (.getfield 111, 3) := by decide +kernel
theorem d_Mo_tryOffset_27 : decode b_Mo_tryOffset 27 = .ok (.iload 9, 2) := by decide +kernel
theorem d_Mo_tryOffset_29 : decode b_Mo_tryOffset 29 = .ok (.laload, 1) := by decide +kernel
theorem d_Mo_tryOffset_30 : decode b_Mo_tryOffset 30 = .ok (.lload 6, 2) := by decide +kernel
theorem d_Mo_tryOffset_32 : decode b_Mo_tryOffset 32 = .ok (.lcmp, 1) := by decide +kernel
theorem d_Mo_tryOffset_33 : decode b_Mo_tryOffset 33 = .ok (.ifCond .ne 7, 3) := by decide +kernel
theorem d_Mo_tryOffset_36 : decode b_Mo_tryOffset 36 = .ok (.iconst 1, 1) := by decide +kernel
theorem d_Mo_tryOffset_37 : decode b_Mo_tryOffset 37 = .ok (.goto 4, 3) := by decide +kernel
theorem d_Mo_tryOffset_40 : decode b_Mo_tryOffset 40 = .ok (.iconst 0, 1) := by decide +kernel
theorem d_Mo_tryOffset_41 : decode b_Mo_tryOffset 41 = .ok (.ior, 1) := by decide +kernel
theorem d_Mo_tryOffset_42 : decode b_Mo_tryOffset 42 = .ok (.istore 8, 2) := by decide +kernel
theorem d_Mo_tryOffset_44 : decode b_Mo_tryOffset 44 = .ok (.iinc 9 1, 3) := by decide +kernel
theorem d_Mo_tryOffset_47 : decode b_Mo_tryOffset 47 = .ok (.goto (-35), 3) := by decide +kernel
theorem d_Mo_tryOffset_50 : decode b_Mo_tryOffset 50 = .ok (.iload 8, 2) := by decide +kernel
theorem d_Mo_tryOffset_52 : decode b_Mo_tryOffset 52 = .ok (.ifCond .ne 11, 3) := by decide +kernel
theorem d_Mo_tryOffset_55 : decode b_Mo_tryOffset 55 = .ok (.lload 6, 2) := by decide +kernel
theorem d_Mo_tryOffset_57 : decode b_Mo_tryOffset 57 = .ok (.invokestatic 251, 3) := by decide +kernel
theorem d_Mo_tryOffset_60 : decode b_Mo_tryOffset 60 = .ok (.ifCond .ne 4, 3) := by decide +kernel
theorem d_Mo_tryOffset_63 : decode b_Mo_tryOffset 63 = .ok (.return_, 1) := by decide +kernel
theorem d_Mo_tryOffset_64 : decode b_Mo_tryOffset 64 = .ok (.aload_n 0, 1) := by decide +kernel
theorem d_Mo_tryOffset_65 : decode b_Mo_tryOffset 65 = .ok (.iload_n 1, 1) := by decide +kernel
theorem d_Mo_tryOffset_66 : decode b_Mo_tryOffset 66 = .ok (.lload 6, 2) := by decide +kernel
theorem d_Mo_tryOffset_68 : decode b_Mo_tryOffset 68 = .ok (.invokevirtual 426, 3) := by decide +kernel
theorem d_Mo_tryOffset_71 : decode b_Mo_tryOffset 71 = .ok (.aload_n 0, 1) := by decide +kernel
theorem d_Mo_tryOffset_72 : decode b_Mo_tryOffset 72 = .ok (.getfield 376, 3) := by decide +kernel
theorem d_Mo_tryOffset_75 : decode b_Mo_tryOffset 75 = .ok (.iconst 2, 1) := by decide +kernel
theorem d_Mo_tryOffset_76 : decode b_Mo_tryOffset 76 = .ok (.if_icmp .eq 14, 3) := by decide +kernel
theorem d_Mo_tryOffset_79 : decode b_Mo_tryOffset 79 = .ok (.aload_n 0, 1) := by decide +kernel
theorem d_Mo_tryOffset_80 : decode b_Mo_tryOffset 80 = .ok (.getfield 379, 3) := by decide +kernel
theorem d_Mo_tryOffset_83 : decode b_Mo_tryOffset 83 = .ok (.i2l, 1) := by decide +kernel
theorem d_Mo_tryOffset_84 : decode b_Mo_tryOffset 84 = .ok (.lload 4, 2) := by decide +kernel
theorem d_Mo_tryOffset_86 : decode b_Mo_tryOffset 86 = .ok (.lcmp, 1) := by decide +kernel
theorem d_Mo_tryOffset_87 : decode b_Mo_tryOffset 87 = .ok (.ifCond .eq 4, 3) := by decide +kernel
theorem d_Mo_tryOffset_90 : decode b_Mo_tryOffset 90 = .ok (.return_, 1) := by decide +kernel
theorem d_Mo_tryOffset_91 : decode b_Mo_tryOffset 91 = .ok (.aload_n 0, 1) := by decide +kernel
theorem d_Mo_tryOffset_92 : decode b_Mo_tryOffset 92 = .ok (.getfield 430, 3) := by decide +kernel
theorem d_Mo_tryOffset_95 : decode b_Mo_tryOffset 95 = .ok (.istore 9, 2) := by decide +kernel
theorem d_Mo_tryOffset_97 : decode b_Mo_tryOffset 97 = .ok (.iload 9, 2) := by decide +kernel
theorem d_Mo_tryOffset_99 : decode b_Mo_tryOffset 99 = .ok (.ifCond .le 40, 3) := by decide +kernel
theorem d_Mo_tryOffset_102 : decode b_Mo_tryOffset 102 = .ok (.aload_n 0, 1) := by decide +kernel
theorem d_Mo_tryOffset_103 : decode b_Mo_tryOffset 103 = .ok (.getfield 111, 3) := by decide +kernel
theorem d_Mo_tryOffset_106 : decode b_Mo_tryOffset 106 = .ok (.iload 9, 2) := by decide +kernel
theorem d_Mo_tryOffset_108 : decode b_Mo_tryOffset 108 = .ok (.iconst 1, 1) := by decide +kernel
theorem d_Mo_tryOffset_109 : decode b_Mo_tryOffset 109 = .ok (.isub, 1) := by decide +kernel
theorem d_Mo_tryOffset_110 : decode b_Mo_tryOffset 110 = .ok (.laload, 1) := by decide +kernel
theorem d_Mo_tryOffset_111 : decode b_Mo_tryOffset 111 = .ok (.lload 6, 2) := by decide +kernel
theorem d_Mo_tryOffset_113 : decode b_Mo_tryOffset 113 = .ok (.lcmp, 1) := by decide +kernel
theorem d_Mo_tryOffset_114 : decode b_Mo_tryOffset 114 = .ok (.ifCond .le 25, 3) := by decide +kernel
theorem d_Mo_tryOffset_117 : decode b_Mo_tryOffset 117 = .ok (.aload_n 0, 1) := by decide +kernel
theorem d_Mo_tryOffset_118 : decode b_Mo_tryOffset 118 = .ok (.getfield 111, 3) := by decide +kernel
theorem d_Mo_tryOffset_121 : decode b_Mo_tryOffset 121 = .ok (.iload 9, 2) := by decide +kernel
theorem d_Mo_tryOffset_123 : decode b_Mo_tryOffset 123 = .ok (.aload_n 0, 1) := by decide +kernel
theorem d_Mo_tryOffset_124 : decode b_Mo_tryOffset 124 = .ok (.getfield 111, 3) := by decide +kernel
theorem d_Mo_tryOffset_127 : decode b_Mo_tryOffset 127 = .ok (.iload 9, 2) := by decide +kernel
theorem d_Mo_tryOffset_129 : decode b_Mo_tryOffset 129 = .ok (.iconst 1, 1) := by decide +kernel
theorem d_Mo_tryOffset_130 : decode b_Mo_tryOffset 130 = .ok (.isub, 1) := by decide +kernel
theorem d_Mo_tryOffset_131 : decode b_Mo_tryOffset 131 = .ok (.laload, 1) := by decide +kernel
theorem d_Mo_tryOffset_132 : decode b_Mo_tryOffset 132 = .ok (.lastore, 1) := by decide +kernel
theorem d_Mo_tryOffset_133 : decode b_Mo_tryOffset 133 = .ok (.iinc 9 (-1), 3) := by decide +kernel
theorem d_Mo_tryOffset_136 : decode b_Mo_tryOffset 136 = .ok (.goto (-39), 3) := by decide +kernel
theorem d_Mo_tryOffset_139 : decode b_Mo_tryOffset 139 = .ok (.aload_n 0, 1) := by decide +kernel
theorem d_Mo_tryOffset_140 : decode b_Mo_tryOffset 140 = .ok (.getfield 111, 3) := by decide +kernel
theorem d_Mo_tryOffset_143 : decode b_Mo_tryOffset 143 = .ok (.iload 9, 2) := by decide +kernel
theorem d_Mo_tryOffset_145 : decode b_Mo_tryOffset 145 = .ok (.lload 6, 2) := by decide +kernel
theorem d_Mo_tryOffset_147 : decode b_Mo_tryOffset 147 = .ok (.lastore, 1) := by decide +kernel
theorem d_Mo_tryOffset_148 : decode b_Mo_tryOffset 148 = .ok (.aload_n 0, 1) := by decide +kernel
theorem d_Mo_tryOffset_149 : decode b_Mo_tryOffset 149 = .ok (.dup, 1) := by decide +kernel
theorem d_Mo_tryOffset_150 : decode b_Mo_tryOffset 150 = .ok (.getfield 430, 3) := by decide +kernel
theorem d_Mo_tryOffset_153 : decode b_Mo_tryOffset 153 = .ok (.iconst 1, 1) := by decide +kernel
theorem d_Mo_tryOffset_154 : decode b_Mo_tryOffset 154 = .ok (.iadd, 1) := by decide +kernel
theorem d_Mo_tryOffset_155 : decode b_Mo_tryOffset 155 = .ok (.putfield 430, 3) := by decide +kernel
theorem d_Mo_tryOffset_158 : decode b_Mo_tryOffset 158 = .ok (.return_, 1) := by decide +kernel
abbrev b_Mo_find : ByteArray := prog_14_method_59_code
def y_Mo_find : MethodName := ⟨"ZoneFilesModel", "find", "(IJ)I"⟩
theorem d_Mo_find_0 : decode b_Mo_find 0 = .ok (.aload_n 0, 1) := by decide +kernel
theorem d_Mo_find_1 : decode b_Mo_find 1 = .ok (.aload_n 0, 1) := by decide +kernel
theorem d_Mo_find_2 : decode b_Mo_find 2 = .ok (.iload_n 1, 1) := by decide +kernel
theorem d_Mo_find_3 : decode b_Mo_find 3 = .ok (.invokevirtual 423, 3) := by decide +kernel
theorem d_Mo_find_6 : decode b_Mo_find 6 = .ok (.ifCond .eq 7, 3) := by decide +kernel
theorem d_Mo_find_9 : decode b_Mo_find 9 = .ok (.iconst 1, 1) := by decide +kernel
theorem d_Mo_find_10 : decode b_Mo_find 10 = .ok (.goto 15, 3) := by decide +kernel
theorem d_Mo_find_13 : decode b_Mo_find 13 = .ok (.lload_n 2, 1) := by decide +kernel
theorem d_Mo_find_14 : decode b_Mo_find 14 = .ok (.invokestatic 251, 3) := by decide +kernel
theorem d_Mo_find_17 : decode b_Mo_find 17 = .ok (.ifCond .ne 7, 3) := by decide +kernel
theorem d_Mo_find_20 : decode b_Mo_find 20 = .ok (.iconst 2, 1) := by decide +kernel
theorem d_Mo_find_21 : decode b_Mo_find 21 = .ok (.goto 4, 3) := by decide +kernel
theorem d_Mo_find_24 : decode b_Mo_find 24 = .ok (.iconst 0, 1) := by decide +kernel
theorem d_Mo_find_25 : decode b_Mo_find 25 = .ok (.putfield 150, 3) := by decide +kernel
theorem d_Mo_find_28 : decode b_Mo_find 28 = .ok (.aload_n 0, 1) := by decide +kernel
theorem d_Mo_find_29 : decode b_Mo_find 29 = .ok (.getfield 150, 3) := by decide +kernel
theorem d_Mo_find_32 : decode b_Mo_find 32 = .ok (.ifCond .le 5, 3) := by decide +kernel
theorem d_Mo_find_35 : decode b_Mo_find 35 = .ok (.iconst 0, 1) := by decide +kernel
theorem d_Mo_find_36 : decode b_Mo_find 36 = .ok (.ireturn, 1) := by decide +kernel
theorem d_Mo_find_37 : decode b_Mo_find 37 = .ok (.aload_n 0, 1) := by decide +kernel
theorem d_Mo_find_38 : decode b_Mo_find 38 = .ok (.iconst 0, 1) := by decide +kernel
theorem d_Mo_find_39 : decode b_Mo_find 39 = .ok (.putfield 430, 3) := by decide +kernel
theorem d_Mo_find_42 : decode b_Mo_find 42 = .ok (.iconst 0, 1) := by decide +kernel
theorem d_Mo_find_43 : decode b_Mo_find 43 = .ok (.istore 4, 2) := by decide +kernel
theorem d_Mo_find_45 : decode b_Mo_find 45 = .ok (.iload 4, 2) := by decide +kernel
theorem d_Mo_find_47 : decode b_Mo_find 47 = .ok (.aload_n 0, 1) := by decide +kernel
theorem d_Mo_find_48 : decode b_Mo_find 48 = .ok (.getfield 23, 3) := by decide +kernel
theorem d_Mo_find_51 : decode b_Mo_find 51 = .ok (.iload_n 1, 1) := by decide +kernel
theorem d_Mo_find_52 : decode b_Mo_find 52 = .ok (.iaload, 1) := by decide +kernel
theorem d_Mo_find_53 : decode b_Mo_find 53 = .ok (.if_icmp .ge 28, 3) := by decide +kernel
theorem d_Mo_find_56 : decode b_Mo_find 56 = .ok (.aload_n 0, 1) := by decide +kernel
theorem d_Mo_find_57 : decode b_Mo_find 57 = .ok (.iload_n 1, 1) := by decide +kernel
theorem d_Mo_find_58 : decode b_Mo_find 58 = .ok (.lload_n 2, 1) := by decide +kernel
theorem d_Mo_find_59 : decode b_Mo_find 59 = .ok (.aload_n 0, 1) := by decide +kernel
theorem d_Mo_find_60 : decode b_Mo_find 60 = .ok (.getfield 48, 3) := by decide +kernel
theorem d_Mo_find_63 : decode b_Mo_find 63 = .ok (.bipush 40, 2) := by decide +kernel
theorem d_Mo_find_65 : decode b_Mo_find 65 = .ok (.iload_n 1, 1) := by decide +kernel
theorem d_Mo_find_66 : decode b_Mo_find 66 = .ok (.imul, 1) := by decide +kernel
theorem d_Mo_find_67 : decode b_Mo_find 67 = .ok (.iload 4, 2) := by decide +kernel
theorem d_Mo_find_69 : decode b_Mo_find 69 = .ok (.iadd, 1) := by decide +kernel
theorem d_Mo_find_70 : decode b_Mo_find 70 = .ok (.iaload, 1) := by decide +kernel
theorem d_Mo_find_71 : decode b_Mo_find 71 = .ok (.i2l, 1) := by decide +kernel
theorem d_Mo_find_72 : decode b_Mo_find 72 = .ok (.invokevirtual 433, 3) := by decide +kernel
theorem d_Mo_find_75 : decode b_Mo_find 75 = .ok (.iinc 4 1, 3) := by decide +kernel
theorem d_Mo_find_78 : decode b_Mo_find 78 = .ok (.goto (-33), 3) := by decide +kernel
theorem d_Mo_find_81 : decode b_Mo_find 81 = .ok (.iconst 0, 1) := by decide +kernel
theorem d_Mo_find_82 : decode b_Mo_find 82 = .ok (.istore 4, 2) := by decide +kernel
theorem d_Mo_find_84 : decode b_Mo_find 84 = .ok (.iload 4, 2) := by decide +kernel
theorem d_Mo_find_86 : decode b_Mo_find 86 = .ok (.aload_n 0, 1) := by decide +kernel
theorem d_Mo_find_87 : decode b_Mo_find 87 = .ok (.getfield 75, 3) := by decide +kernel
theorem d_Mo_find_90 : decode b_Mo_find 90 = .ok (.iload_n 1, 1) := by decide +kernel
theorem d_Mo_find_91 : decode b_Mo_find 91 = .ok (.iaload, 1) := by decide +kernel
theorem d_Mo_find_92 : decode b_Mo_find 92 = .ok (.if_icmp .ge 27, 3) := by decide +kernel
theorem d_Mo_find_95 : decode b_Mo_find 95 = .ok (.aload_n 0, 1) := by decide +kernel
theorem d_Mo_find_96 : decode b_Mo_find 96 = .ok (.iload_n 1, 1) := by decide +kernel
theorem d_Mo_find_97 : decode b_Mo_find 97 = .ok (.lload_n 2, 1) := by decide +kernel
theorem d_Mo_find_98 : decode b_Mo_find 98 = .ok (.aload_n 0, 1) := by decide +kernel
theorem d_Mo_find_99 : decode b_Mo_find 99 = .ok (.getfield 78, 3) := by decide +kernel
theorem d_Mo_find_102 : decode b_Mo_find 102 = .ok (.iconst 2, 1) := by decide +kernel
theorem d_Mo_find_103 : decode b_Mo_find 103 = .ok (.iload_n 1, 1) := by decide +kernel
theorem d_Mo_find_104 : decode b_Mo_find 104 = .ok (.imul, 1) := by decide +kernel
theorem d_Mo_find_105 : decode b_Mo_find 105 = .ok (.iload 4, 2) := by decide +kernel
theorem d_Mo_find_107 : decode b_Mo_find 107 = .ok (.iadd, 1) := by decide +kernel
theorem d_Mo_find_108 : decode b_Mo_find 108 = .ok (.iaload, 1) := by decide +kernel
theorem d_Mo_find_109 : decode b_Mo_find 109 = .ok (.i2l, 1) := by decide +kernel
theorem d_Mo_find_110 : decode b_Mo_find 110 = .ok (.invokevirtual 433, 3) := by decide +kernel
theorem d_Mo_find_113 : decode b_Mo_find 113 = .ok (.iinc 4 1, 3) := by decide +kernel
theorem d_Mo_find_116 : decode b_Mo_find 116 = .ok (.goto (-32), 3) := by decide +kernel
theorem d_Mo_find_119 : decode b_Mo_find 119 = .ok (.aload_n 0, 1) := by decide +kernel
theorem d_Mo_find_120 : decode b_Mo_find 120 = .ok (.getfield 430, 3) := by decide +kernel
theorem d_Mo_find_123 : decode b_Mo_find 123 = .ok (.ireturn, 1) := by decide +kernel
abbrev b_Mo_found : ByteArray := prog_14_method_60_code
def y_Mo_found : MethodName := ⟨"ZoneFilesModel", "found", "(I)J"⟩
theorem d_Mo_found_0 : decode b_Mo_found 0 = .ok (.aload_n 0, 1) := by decide +kernel
theorem d_Mo_found_1 : decode b_Mo_found 1 = .ok (.iload_n 1, 1) := by decide +kernel
theorem d_Mo_found_2 : decode b_Mo_found 2 = .ok (.ifCond .lt 11, 3) := by decide +kernel
theorem d_Mo_found_5 : decode b_Mo_found 5 = .ok (.iload_n 1, 1) := by decide +kernel
theorem d_Mo_found_6 : decode b_Mo_found 6 = .ok (.aload_n 0, 1) := by decide +kernel
theorem d_Mo_found_7 : decode b_Mo_found 7 = .ok (.getfield 430, 3) := by decide +kernel
theorem d_Mo_found_10 : decode b_Mo_found 10 = .ok (.if_icmp .lt 7, 3) := by decide +kernel
theorem d_Mo_found_13 : decode b_Mo_found 13 = .ok (.iconst 1, 1) := by decide +kernel
theorem d_Mo_found_14 : decode b_Mo_found 14 = .ok (.goto 4, 3) := by decide +kernel
theorem d_Mo_found_17 : decode b_Mo_found 17 = .ok (.iconst 0, 1) := by decide +kernel
theorem d_Mo_found_18 : decode b_Mo_found 18 = .ok (.putfield 150, 3) := by decide +kernel
theorem d_Mo_found_21 : decode b_Mo_found 21 = .ok (.aload_n 0, 1) := by decide +kernel
theorem d_Mo_found_22 : decode b_Mo_found 22 = .ok (.getfield 150, 3) := by decide +kernel
theorem d_Mo_found_25 : decode b_Mo_found 25 = .ok (.ifCond .le 7, 3) := by decide +kernel
theorem d_Mo_found_28 : decode b_Mo_found 28 = .ok (.lconst 0, 1) := by decide +kernel
theorem d_Mo_found_29 : decode b_Mo_found 29 = .ok (.goto 9, 3) := by decide +kernel
theorem d_Mo_found_32 : decode b_Mo_found 32 = .ok (.aload_n 0, 1) := by decide +kernel
theorem d_Mo_found_33 : decode b_Mo_found 33 = .ok (.getfield 111, 3) := by decide +kernel
theorem d_Mo_found_36 : decode b_Mo_found 36 = .ok (.iload_n 1, 1) := by decide +kernel
theorem d_Mo_found_37 : decode b_Mo_found 37 = .ok (.laload, 1) := by decide +kernel
theorem d_Mo_found_38 : decode b_Mo_found 38 = .ok (.lreturn, 1) := by decide +kernel
abbrev b_Mo_isStep : ByteArray := prog_14_method_61_code
def y_Mo_isStep : MethodName := ⟨"ZoneFilesModel", "isStep", "(IJ)Z"⟩
theorem d_Mo_isStep_0 : decode b_Mo_isStep 0 = .ok (.lload_n 2, 1) := by decide +kernel
theorem d_Mo_isStep_1 : decode b_Mo_isStep 1 = .ok (.invokestatic 251, 3) := by decide +kernel
theorem d_Mo_isStep_4 : decode b_Mo_isStep 4 = .ok (.ifCond .eq 12, 3) := by decide +kernel
theorem d_Mo_isStep_7 : decode b_Mo_isStep 7 = .ok (.lload_n 2, 1) := by decide +kernel
theorem d_Mo_isStep_8 : decode b_Mo_isStep 8 = .ok (.lconst 1, 1) := by decide +kernel
theorem d_Mo_isStep_9 : decode b_Mo_isStep 9 = .ok (.lsub, 1) := by decide +kernel
theorem d_Mo_isStep_10 : decode b_Mo_isStep 10 = .ok (.invokestatic 251, 3) := by decide +kernel
theorem d_Mo_isStep_13 : decode b_Mo_isStep 13 = .ok (.ifCond .ne 5, 3) := by decide +kernel
theorem d_Mo_isStep_16 : decode b_Mo_isStep 16 = .ok (.iconst 0, 1) := by decide +kernel
theorem d_Mo_isStep_17 : decode b_Mo_isStep 17 = .ok (.ireturn, 1) := by decide +kernel
theorem d_Mo_isStep_18 : decode b_Mo_isStep 18 = .ok (.aload_n 0, 1) := by decide +kernel
theorem d_Mo_isStep_19 : decode b_Mo_isStep 19 = .ok (.iload_n 1, 1) := by decide +kernel
theorem d_Mo_isStep_20 : decode b_Mo_isStep 20 = .ok (.lload_n 2, 1) := by decide +kernel
theorem d_Mo_isStep_21 : decode b_Mo_isStep 21 = .ok (.lconst 1, 1) := by decide +kernel
theorem d_Mo_isStep_22 : decode b_Mo_isStep 22 = .ok (.lsub, 1) := by decide +kernel
theorem d_Mo_isStep_23 : decode b_Mo_isStep 23 = .ok (.invokevirtual 426, 3) := by decide +kernel
theorem d_Mo_isStep_26 : decode b_Mo_isStep 26 = .ok (.aload_n 0, 1) := by decide +kernel
theorem d_Mo_isStep_27 : decode b_Mo_isStep 27 = .ok (.invokevirtual 417, 3) := by decide +kernel
theorem d_Mo_isStep_30 : decode b_Mo_isStep 30 = .ok (.aload_n 0, 1) := by decide +kernel
theorem d_Mo_isStep_31 : decode b_Mo_isStep 31 = .ok (.iload_n 1, 1) := by decide +kernel
theorem d_Mo_isStep_32 : decode b_Mo_isStep 32 = .ok (.lload_n 2, 1) := by decide +kernel
theorem d_Mo_isStep_33 : decode b_Mo_isStep 33 = .ok (.invokevirtual 426, 3) := by decide +kernel
theorem d_Mo_isStep_36 : decode b_Mo_isStep 36 = .ok (.aload_n 0, 1) := by decide +kernel
theorem d_Mo_isStep_37 : decode b_Mo_isStep 37 = .ok (.invokevirtual 420, 3) := by decide +kernel
theorem d_Mo_isStep_40 : decode b_Mo_isStep 40 = .ok (.ifCond .ne 7, 3) := by decide +kernel
theorem d_Mo_isStep_43 : decode b_Mo_isStep 43 = .ok (.iconst 1, 1) := by decide +kernel
theorem d_Mo_isStep_44 : decode b_Mo_isStep 44 = .ok (.goto 4, 3) := by decide +kernel
theorem d_Mo_isStep_47 : decode b_Mo_isStep 47 = .ok (.iconst 0, 1) := by decide +kernel
theorem d_Mo_isStep_48 : decode b_Mo_isStep 48 = .ok (.ireturn, 1) := by decide +kernel
abbrev b_Mo_eventAbove : ByteArray := prog_14_method_62_code
def y_Mo_eventAbove : MethodName := ⟨"ZoneFilesModel", "eventAbove", "(IJ)J"⟩
theorem d_Mo_eventAbove_0 : decode b_Mo_eventAbove 0 = .ok (.aload_n 0, 1) := by decide +kernel
theorem d_Mo_eventAbove_1 : decode b_Mo_eventAbove 1 = .ok (.lload_n 2, 1) := by decide +kernel
theorem d_Mo_eventAbove_2 : decode b_Mo_eventAbove 2 = .ok (.invokevirtual 366, 3) := by decide +kernel
theorem d_Mo_eventAbove_5 : decode b_Mo_eventAbove 5 = .ok (.lstore 4, 2) := by decide +kernel
theorem d_Mo_eventAbove_7 : decode b_Mo_eventAbove 7 = .ok (.ldc2_w 437, 3) := by decide +kernel
theorem d_Mo_eventAbove_10 : decode b_Mo_eventAbove 10 = .ok (.lstore 6, 2) := by decide +kernel
theorem d_Mo_eventAbove_12 : decode b_Mo_eventAbove 12 = .ok (.lload 4, 2) := by decide +kernel
theorem d_Mo_eventAbove_14 : decode b_Mo_eventAbove 14 = .ok (.ldc2_w 305, 3) := by decide +kernel
theorem d_Mo_eventAbove_17 : decode b_Mo_eventAbove 17 = .ok (.lsub, 1) := by decide +kernel
theorem d_Mo_eventAbove_18 : decode b_Mo_eventAbove 18 = .ok (.lstore 8, 2) := by decide +kernel
theorem d_Mo_eventAbove_20 : decode b_Mo_eventAbove 20 = .ok (.lload 8, 2) := by decide +kernel
theorem d_Mo_eventAbove_22 : decode b_Mo_eventAbove 22 = .ok (.lload 4, 2) := by decide +kernel
theorem d_Mo_eventAbove_24 : decode b_Mo_eventAbove 24 = .ok (.ldc2_w 439, 3) := by decide +kernel
theorem d_Mo_eventAbove_27 : decode b_Mo_eventAbove 27 = .ok (.ladd, 1) := by decide +kernel
theorem d_Mo_eventAbove_28 : decode b_Mo_eventAbove 28 = .ok (.lcmp, 1) := by decide +kernel
theorem d_Mo_eventAbove_29 : decode b_Mo_eventAbove 29 = .ok (.ifCond .gt 62, 3) := by decide +kernel
theorem d_Mo_eventAbove_32 : decode b_Mo_eventAbove 32 = .ok (.iconst 0, 1) := by decide +kernel
theorem d_Mo_eventAbove_33 : decode b_Mo_eventAbove 33 = .ok (.istore 10, 2) := by decide +kernel
theorem d_Mo_eventAbove_35 : decode b_Mo_eventAbove 35 = .ok (.iload 10, 2) := by decide +kernel
theorem d_Mo_eventAbove_37 : decode b_Mo_eventAbove 37 = .ok (.iconst 2, 1) := by decide +kernel
theorem d_Mo_eventAbove_38 : decode b_Mo_eventAbove 38 = .ok (.if_icmp .ge 44, 3) := by decide +kernel
theorem d_Mo_eventAbove_41 : decode b_Mo_eventAbove 41 = .ok (.aload_n 0, 1) := by decide +kernel
theorem d_Mo_eventAbove_42 : decode b_Mo_eventAbove 42 = .ok (.iload_n 1, 1) := by decide +kernel
theorem d_Mo_eventAbove_43 : decode b_Mo_eventAbove 43 = .ok (.lload 8, 2) := by decide +kernel
theorem d_Mo_eventAbove_45 : decode b_Mo_eventAbove 45 = .ok (.iload 10, 2) := by decide +kernel
theorem d_Mo_eventAbove_47 : decode b_Mo_eventAbove 47 = .ok (.invokevirtual 372, 3) := by decide +kernel
theorem d_Mo_eventAbove_50 : decode b_Mo_eventAbove 50 = .ok (.lstore 11, 2) := by decide +kernel
theorem d_Mo_eventAbove_52 : decode b_Mo_eventAbove 52 = .ok (.lload 11, 2) := by decide +kernel
theorem d_Mo_eventAbove_54 : decode b_Mo_eventAbove 54 = .ok (.lload_n 2, 1) := by decide +kernel
theorem d_Mo_eventAbove_55 : decode b_Mo_eventAbove 55 = .ok (.lcmp, 1) := by decide +kernel
theorem d_Mo_eventAbove_56 : decode b_Mo_eventAbove 56 = .ok (.ifCond .le 16, 3) := by decide +kernel
theorem d_Mo_eventAbove_59 : decode b_Mo_eventAbove 59 = .ok (.lload 11, 2) := by decide +kernel
theorem d_Mo_eventAbove_61 : decode b_Mo_eventAbove 61 = .ok (.lload 6, 2) := by decide +kernel
theorem d_Mo_eventAbove_63 : decode b_Mo_eventAbove 63 = .ok (.lcmp, 1) := by decide +kernel
theorem d_Mo_eventAbove_64 : decode b_Mo_eventAbove 64 = .ok (.ifCond .ge 8, 3) := by decide +kernel
theorem d_Mo_eventAbove_67 : decode b_Mo_eventAbove 67 = .ok (.lload 11, 2) := by decide +kernel
theorem d_Mo_eventAbove_69 : decode b_Mo_eventAbove 69 = .ok (.goto 5, 3) := by decide +kernel
theorem d_Mo_eventAbove_72 : decode b_Mo_eventAbove 72 = .ok (.lload 6, 2) := by decide +kernel
theorem d_Mo_eventAbove_74 : decode b_Mo_eventAbove 74 = .ok (.lstore 6, 2) := by decide +kernel
theorem d_Mo_eventAbove_76 : decode b_Mo_eventAbove 76 = .ok (.iinc 10 1, 3) := by decide +kernel
theorem d_Mo_eventAbove_79 : decode b_Mo_eventAbove 79 = .ok (.goto (-44), 3) := by decide +kernel
theorem d_Mo_eventAbove_82 : decode b_Mo_eventAbove 82 = .ok (.lload 8, 2) := by decide +kernel
theorem d_Mo_eventAbove_84 : decode b_Mo_eventAbove 84 = .ok (.lconst 1, 1) := by decide +kernel
theorem d_Mo_eventAbove_85 : decode b_Mo_eventAbove 85 = .ok (.ladd, 1) := by decide +kernel
theorem d_Mo_eventAbove_86 : decode b_Mo_eventAbove 86 = .ok (.lstore 8, 2) := by decide +kernel
theorem d_Mo_eventAbove_88 : decode b_Mo_eventAbove 88 = .ok (.goto (-68), 3) := by decide +kernel
theorem d_Mo_eventAbove_91 : decode b_Mo_eventAbove 91 = .ok (.lload 6, 2) := by decide +kernel
theorem d_Mo_eventAbove_93 : decode b_Mo_eventAbove 93 = .ok (.lreturn, 1) := by decide +kernel
abbrev b_Mo_eventBelow : ByteArray := prog_14_method_63_code
def y_Mo_eventBelow : MethodName := ⟨"ZoneFilesModel", "eventBelow", "(IJ)J"⟩
theorem d_Mo_eventBelow_0 : decode b_Mo_eventBelow 0 = .ok (.aload_n 0, 1) := by decide +kernel
theorem d_Mo_eventBelow_1 : decode b_Mo_eventBelow 1 = .ok (.lload_n 2, 1) := by decide +kernel
theorem d_Mo_eventBelow_2 : decode b_Mo_eventBelow 2 = .ok (.invokevirtual 366, 3) := by decide +kernel
theorem d_Mo_eventBelow_5 : decode b_Mo_eventBelow 5 = .ok (.lstore 4, 2) := by decide +kernel
theorem d_Mo_eventBelow_7 : decode b_Mo_eventBelow 7 = .ok (.ldc2_w 370, 3) := by decide +kernel
theorem d_Mo_eventBelow_10 : decode b_Mo_eventBelow 10 = .ok (.lstore 6, 2) := by decide +kernel
theorem d_Mo_eventBelow_12 : decode b_Mo_eventBelow 12 = .ok (.lload 4, 2) := by decide +kernel
theorem d_Mo_eventBelow_14 : decode b_Mo_eventBelow 14 = .ok (.ldc2_w 439, 3) := by decide +kernel
theorem d_Mo_eventBelow_17 : decode b_Mo_eventBelow 17 = .ok (.lsub, 1) := by decide +kernel
theorem d_Mo_eventBelow_18 : decode b_Mo_eventBelow 18 = .ok (.lstore 8, 2) := by decide +kernel
theorem d_Mo_eventBelow_20 : decode b_Mo_eventBelow 20 = .ok (.lload 8, 2) := by decide +kernel
theorem d_Mo_eventBelow_22 : decode b_Mo_eventBelow 22 = .ok (.lload 4, 2) := by decide +kernel
theorem d_Mo_eventBelow_24 : decode b_Mo_eventBelow 24 = .ok (.ldc2_w 305, 3) := by decide +kernel
theorem d_Mo_eventBelow_27 : decode b_Mo_eventBelow 27 = .ok (.ladd, 1) := by decide +kernel
theorem d_Mo_eventBelow_28 : decode b_Mo_eventBelow 28 = .ok (.lcmp, 1) := by decide +kernel
theorem d_Mo_eventBelow_29 : decode b_Mo_eventBelow 29 = .ok (.ifCond .gt 62, 3) := by decide +kernel
theorem d_Mo_eventBelow_32 : decode b_Mo_eventBelow 32 = .ok (.iconst 0, 1) := by decide +kernel
theorem d_Mo_eventBelow_33 : decode b_Mo_eventBelow 33 = .ok (.istore 10, 2) := by decide +kernel
theorem d_Mo_eventBelow_35 : decode b_Mo_eventBelow 35 = .ok (.iload 10, 2) := by decide +kernel
theorem d_Mo_eventBelow_37 : decode b_Mo_eventBelow 37 = .ok (.iconst 2, 1) := by decide +kernel
theorem d_Mo_eventBelow_38 : decode b_Mo_eventBelow 38 = .ok (.if_icmp .ge 44, 3) := by decide +kernel
theorem d_Mo_eventBelow_41 : decode b_Mo_eventBelow 41 = .ok (.aload_n 0, 1) := by decide +kernel
theorem d_Mo_eventBelow_42 : decode b_Mo_eventBelow 42 = .ok (.iload_n 1, 1) := by decide +kernel
theorem d_Mo_eventBelow_43 : decode b_Mo_eventBelow 43 = .ok (.lload 8, 2) := by decide +kernel
theorem d_Mo_eventBelow_45 : decode b_Mo_eventBelow 45 = .ok (.iload 10, 2) := by decide +kernel
theorem d_Mo_eventBelow_47 : decode b_Mo_eventBelow 47 = .ok (.invokevirtual 372, 3) := by decide +kernel
theorem d_Mo_eventBelow_50 : decode b_Mo_eventBelow 50 = .ok (.lstore 11, 2) := by decide +kernel
theorem d_Mo_eventBelow_52 : decode b_Mo_eventBelow 52 = .ok (.lload 11, 2) := by decide +kernel
theorem d_Mo_eventBelow_54 : decode b_Mo_eventBelow 54 = .ok (.lload_n 2, 1) := by decide +kernel
theorem d_Mo_eventBelow_55 : decode b_Mo_eventBelow 55 = .ok (.lcmp, 1) := by decide +kernel
theorem d_Mo_eventBelow_56 : decode b_Mo_eventBelow 56 = .ok (.ifCond .ge 16, 3) := by decide +kernel
theorem d_Mo_eventBelow_59 : decode b_Mo_eventBelow 59 = .ok (.lload 11, 2) := by decide +kernel
theorem d_Mo_eventBelow_61 : decode b_Mo_eventBelow 61 = .ok (.lload 6, 2) := by decide +kernel
theorem d_Mo_eventBelow_63 : decode b_Mo_eventBelow 63 = .ok (.lcmp, 1) := by decide +kernel
theorem d_Mo_eventBelow_64 : decode b_Mo_eventBelow 64 = .ok (.ifCond .le 8, 3) := by decide +kernel
theorem d_Mo_eventBelow_67 : decode b_Mo_eventBelow 67 = .ok (.lload 11, 2) := by decide +kernel
theorem d_Mo_eventBelow_69 : decode b_Mo_eventBelow 69 = .ok (.goto 5, 3) := by decide +kernel
theorem d_Mo_eventBelow_72 : decode b_Mo_eventBelow 72 = .ok (.lload 6, 2) := by decide +kernel
theorem d_Mo_eventBelow_74 : decode b_Mo_eventBelow 74 = .ok (.lstore 6, 2) := by decide +kernel
theorem d_Mo_eventBelow_76 : decode b_Mo_eventBelow 76 = .ok (.iinc 10 1, 3) := by decide +kernel
theorem d_Mo_eventBelow_79 : decode b_Mo_eventBelow 79 = .ok (.goto (-44), 3) := by decide +kernel
theorem d_Mo_eventBelow_82 : decode b_Mo_eventBelow 82 = .ok (.lload 8, 2) := by decide +kernel
theorem d_Mo_eventBelow_84 : decode b_Mo_eventBelow 84 = .ok (.lconst 1, 1) := by decide +kernel
theorem d_Mo_eventBelow_85 : decode b_Mo_eventBelow 85 = .ok (.ladd, 1) := by decide +kernel
theorem d_Mo_eventBelow_86 : decode b_Mo_eventBelow 86 = .ok (.lstore 8, 2) := by decide +kernel
theorem d_Mo_eventBelow_88 : decode b_Mo_eventBelow 88 = .ok (.goto (-68), 3) := by decide +kernel
theorem d_Mo_eventBelow_91 : decode b_Mo_eventBelow 91 = .ok (.lload 6, 2) := by decide +kernel
theorem d_Mo_eventBelow_93 : decode b_Mo_eventBelow 93 = .ok (.lreturn, 1) := by decide +kernel
abbrev b_Mo_next : ByteArray := prog_14_method_64_code
def y_Mo_next : MethodName := ⟨"ZoneFilesModel", "next", "(IJ)J"⟩
theorem d_Mo_next_0 : decode b_Mo_next 0 = .ok (.aload_n 0, 1) := by decide +kernel
theorem d_Mo_next_1 : decode b_Mo_next 1 = .ok (.aload_n 0, 1) := by decide +kernel
theorem d_Mo_next_2 : decode b_Mo_next 2 = .ok (.iload_n 1, 1) := by decide +kernel
theorem d_Mo_next_3 : decode b_Mo_next 3 = .ok (.invokevirtual 423, 3) := by decide +kernel
theorem d_Mo_next_6 : decode b_Mo_next 6 = .ok (.ifCond .eq 7, 3) := by decide +kernel
theorem d_Mo_next_9 : decode b_Mo_next 9 = .ok (.iconst 1, 1) := by decide +kernel
theorem d_Mo_next_10 : decode b_Mo_next 10 = .ok (.goto 15, 3) := by decide +kernel
theorem d_Mo_next_13 : decode b_Mo_next 13 = .ok (.lload_n 2, 1) := by decide +kernel
theorem d_Mo_next_14 : decode b_Mo_next 14 = .ok (.invokestatic 251, 3) := by decide +kernel
theorem d_Mo_next_17 : decode b_Mo_next 17 = .ok (.ifCond .ne 7, 3) := by decide +kernel
theorem d_Mo_next_20 : decode b_Mo_next 20 = .ok (.iconst 2, 1) := by decide +kernel
theorem d_Mo_next_21 : decode b_Mo_next 21 = .ok (.goto 4, 3) := by decide +kernel
theorem d_Mo_next_24 : decode b_Mo_next 24 = .ok (.iconst 0, 1) := by decide +kernel
theorem d_Mo_next_25 : decode b_Mo_next 25 = .ok (.putfield 150, 3) := by decide +kernel
theorem d_Mo_next_28 : decode b_Mo_next 28 = .ok (.aload_n 0, 1) := by decide +kernel
theorem d_Mo_next_29 : decode b_Mo_next 29 = .ok (.getfield 150, 3) := by decide +kernel
theorem d_Mo_next_32 : decode b_Mo_next 32 = .ok (.ifCond .le 5, 3) := by decide +kernel
theorem d_Mo_next_35 : decode b_Mo_next 35 = .ok (.lconst 0, 1) := by decide +kernel
theorem d_Mo_next_36 : decode b_Mo_next 36 = .ok (.lreturn, 1) := by decide +kernel
theorem d_Mo_next_37 : decode b_Mo_next 37 = .ok (.lload_n 2, 1) := by decide +kernel
theorem d_Mo_next_38 : decode b_Mo_next 38 = .ok (.lstore 4, 2) := by decide +kernel
theorem d_Mo_next_40 : decode b_Mo_next 40 = .ok (.iconst 0, 1) := by decide +kernel
theorem d_Mo_next_41 : decode b_Mo_next 41 = .ok (.istore 6, 2) := by decide +kernel
theorem d_Mo_next_43 : decode b_Mo_next 43 = .ok (.iload 6, 2) := by decide +kernel
theorem d_Mo_next_45 : decode b_Mo_next 45 = .ok (.aload_n 0, 1) := by decide +kernel
theorem d_Mo_next_46 : decode b_Mo_next 46 = .ok (.getfield 20, 3) := by decide +kernel
theorem d_Mo_next_49 : decode b_Mo_next 49 = .ok (.iload_n 1, 1) := by decide +kernel
theorem d_Mo_next_50 : decode b_Mo_next 50 = .ok (.iaload, 1) := by decide +kernel
theorem d_Mo_next_51 : decode b_Mo_next 51 = .ok (.if_icmp .ge 61, 3) := by decide +kernel
theorem d_Mo_next_54 : decode b_Mo_next 54 = .ok (.aload_n 0, 1) := by decide +kernel
theorem d_Mo_next_55 : decode b_Mo_next 55 = .ok (.getfield 41, 3) := by decide +kernel
theorem d_Mo_next_58 : decode b_Mo_next 58 = .ok (.sipush 200, 3) := by decide +kernel
theorem d_Mo_next_61 : decode b_Mo_next 61 = .ok (.iload_n 1, 1) := by decide +kernel
theorem d_Mo_next_62 : decode b_Mo_next 62 = .ok (.imul, 1) := by decide +kernel
theorem d_Mo_next_63 : decode b_Mo_next 63 = .ok (.iload 6, 2) := by decide +kernel
theorem d_Mo_next_65 : decode b_Mo_next 65 = .ok (.iadd, 1) := by decide +kernel
theorem d_Mo_next_66 : decode b_Mo_next 66 = .ok (.laload, 1) := by decide +kernel
theorem d_Mo_next_67 : decode b_Mo_next 67 = .ok (.lstore 7, 2) := by decide +kernel
theorem d_Mo_next_69 : decode b_Mo_next 69 = .ok (.lload 7, 2) := by decide +kernel
theorem d_Mo_next_71 : decode b_Mo_next 71 = .ok (.lload_n 2, 1) := by decide +kernel
theorem d_Mo_next_72 : decode b_Mo_next 72 = .ok (.lcmp, 1) := by decide +kernel
theorem d_Mo_next_73 : decode b_Mo_next 73 = .ok (.ifCond .le 16, 3) := by decide +kernel
theorem d_Mo_next_76 : decode b_Mo_next 76 = .ok (.aload_n 0, 1) := by decide +kernel
theorem d_Mo_next_77 : decode b_Mo_next 77 = .ok (.iload_n 1, 1) := by decide +kernel
theorem d_Mo_next_78 : decode b_Mo_next 78 = .ok (.lload 7, 2) := by decide +kernel
theorem d_Mo_next_80 : decode b_Mo_next 80 = .ok (.invokevirtual 441, 3) := by decide +kernel
theorem d_Mo_next_83 : decode b_Mo_next 83 = .ok (.ifCond .eq 6, 3) := by decide +kernel
theorem d_Mo_next_86 : decode b_Mo_next 86 = .ok (.lload 7, 2) := by decide +kernel
theorem d_Mo_next_88 : decode b_Mo_next 88 = .ok (.lreturn, 1) := by decide +kernel
theorem d_Mo_next_89 : decode b_Mo_next 89 = .ok (.lload 7, 2) := by decide +kernel
theorem d_Mo_next_91 : decode b_Mo_next 91 = .ok (.lload 4, 2) := by decide +kernel
theorem d_Mo_next_93 : decode b_Mo_next 93 = .ok (.lcmp, 1) := by decide +kernel
theorem d_Mo_next_94 : decode b_Mo_next 94 = .ok (.ifCond .le 8, 3) := by decide +kernel
theorem d_Mo_next_97 : decode b_Mo_next 97 = .ok (.lload 7, 2) := by decide +kernel
theorem d_Mo_next_99 : decode b_Mo_next 99 = .ok (.goto 5, 3) := by decide +kernel
theorem d_Mo_next_102 : decode b_Mo_next 102 = .ok (.lload 4, 2) := by decide +kernel
theorem d_Mo_next_104 : decode b_Mo_next 104 = .ok (.lstore 4, 2) := by decide +kernel
theorem d_Mo_next_106 : decode b_Mo_next 106 = .ok (.iinc 6 1, 3) := by decide +kernel
theorem d_Mo_next_109 : decode b_Mo_next 109 = .ok (.goto (-66), 3) := by decide +kernel
theorem d_Mo_next_112 : decode b_Mo_next 112 = .ok (.iconst 0, 1) := by decide +kernel
theorem d_Mo_next_113 : decode b_Mo_next 113 = .ok (.istore 6, 2) := by decide +kernel
theorem d_Mo_next_115 : decode b_Mo_next 115 = .ok (.iload 6, 2) := by decide +kernel
theorem d_Mo_next_117 : decode b_Mo_next 117 = .ok (.sipush 820, 3) := by decide +kernel
theorem d_Mo_next_120 : decode b_Mo_next 120 = .ok (.if_icmp .ge 49, 3) := by decide +kernel
theorem d_Mo_next_123 : decode b_Mo_next 123 = .ok (.aload_n 0, 1) := by decide +kernel
theorem d_Mo_next_124 : decode b_Mo_next 124 = .ok (.getfield 75, 3) := by decide +kernel
theorem d_Mo_next_127 : decode b_Mo_next 127 = .ok (.iload_n 1, 1) := by decide +kernel
theorem d_Mo_next_128 : decode b_Mo_next 128 = .ok (.iaload, 1) := by decide +kernel
theorem d_Mo_next_129 : decode b_Mo_next 129 = .ok (.iconst 2, 1) := by decide +kernel
theorem d_Mo_next_130 : decode b_Mo_next 130 = .ok (.if_icmp .ne 39, 3) := by decide +kernel
theorem d_Mo_next_133 : decode b_Mo_next 133 = .ok (.lload 4, 2) := by decide +kernel
theorem d_Mo_next_135 : decode b_Mo_next 135 = .ok (.invokestatic 251, 3) := by decide +kernel
theorem d_Mo_next_138 : decode b_Mo_next 138 = .ok (.ifCond .eq 31, 3) := by decide +kernel
theorem d_Mo_next_141 : decode b_Mo_next 141 = .ok (.aload_n 0, 1) := by decide +kernel
theorem d_Mo_next_142 : decode b_Mo_next 142 = .ok (.iload_n 1, 1) := by decide +kernel
theorem d_Mo_next_143 : decode b_Mo_next 143 = .ok (.lload 4, 2) := by decide +kernel
theorem d_Mo_next_145 : decode b_Mo_next 145 = .ok (.invokevirtual 444, 3) := by decide +kernel
theorem d_Mo_next_148 : decode b_Mo_next 148 = .ok (.lstore 4, 2) := by decide +kernel
theorem d_Mo_next_150 : decode b_Mo_next 150 = .ok (.aload_n 0, 1) := by decide +kernel
theorem d_Mo_next_151 : decode b_Mo_next 151 = .ok (.iload_n 1, 1) := by decide +kernel
theorem d_Mo_next_152 : decode b_Mo_next 152 = .ok (.lload 4, 2) := by decide +kernel
theorem d_Mo_next_154 : decode b_Mo_next 154 = .ok (.invokevirtual 441, 3) := by decide +kernel
theorem d_Mo_next_157 : decode b_Mo_next 157 = .ok (.ifCond .eq 6, 3) := by decide +kernel
theorem d_Mo_next_160 : decode b_Mo_next 160 = .ok (.lload 4, 2) := by decide +kernel
theorem d_Mo_next_162 : decode b_Mo_next 162 = .ok (.lreturn, 1) := by decide +kernel
theorem d_Mo_next_163 : decode b_Mo_next 163 = .ok (.iinc 6 1, 3) := by decide +kernel
theorem d_Mo_next_166 : decode b_Mo_next 166 = .ok (.goto (-51), 3) := by decide +kernel
theorem d_Mo_next_169 : decode b_Mo_next 169 = .ok (.ldc2_w 370, 3) := by decide +kernel
theorem d_Mo_next_172 : decode b_Mo_next 172 = .ok (.lreturn, 1) := by decide +kernel
abbrev b_Mo_last : ByteArray := prog_14_method_65_code
def y_Mo_last : MethodName := ⟨"ZoneFilesModel", "last", "(IJ)J"⟩
theorem d_Mo_last_0 : decode b_Mo_last 0 = .ok (.aload_n 0, 1) := by decide +kernel
theorem d_Mo_last_1 : decode b_Mo_last 1 = .ok (.aload_n 0, 1) := by decide +kernel
theorem d_Mo_last_2 : decode b_Mo_last 2 = .ok (.iload_n 1, 1) := by decide +kernel
theorem d_Mo_last_3 : decode b_Mo_last 3 = .ok (.invokevirtual 423, 3) := by decide +kernel
theorem d_Mo_last_6 : decode b_Mo_last 6 = .ok (.ifCond .eq 7, 3) := by decide +kernel
theorem d_Mo_last_9 : decode b_Mo_last 9 = .ok (.iconst 1, 1) := by decide +kernel
theorem d_Mo_last_10 : decode b_Mo_last 10 = .ok (.goto 15, 3) := by decide +kernel
theorem d_Mo_last_13 : decode b_Mo_last 13 = .ok (.lload_n 2, 1) := by decide +kernel
theorem d_Mo_last_14 : decode b_Mo_last 14 = .ok (.invokestatic 251, 3) := by decide +kernel
theorem d_Mo_last_17 : decode b_Mo_last 17 = .ok (.ifCond .ne 7, 3) := by decide +kernel
theorem d_Mo_last_20 : decode b_Mo_last 20 = .ok (.iconst 2, 1) := by decide +kernel
theorem d_Mo_last_21 : decode b_Mo_last 21 = .ok (.goto 4, 3) := by decide +kernel
theorem d_Mo_last_24 : decode b_Mo_last 24 = .ok (.iconst 0, 1) := by decide +kernel
theorem d_Mo_last_25 : decode b_Mo_last 25 = .ok (.putfield 150, 3) := by decide +kernel
theorem d_Mo_last_28 : decode b_Mo_last 28 = .ok (.aload_n 0, 1) := by decide +kernel
theorem d_Mo_last_29 : decode b_Mo_last 29 = .ok (.getfield 150, 3) := by decide +kernel
theorem d_Mo_last_32 : decode b_Mo_last 32 = .ok (.ifCond .le 5, 3) := by decide +kernel
theorem d_Mo_last_35 : decode b_Mo_last 35 = .ok (.lconst 0, 1) := by decide +kernel
theorem d_Mo_last_36 : decode b_Mo_last 36 = .ok (.lreturn, 1) := by decide +kernel
theorem d_Mo_last_37 : decode b_Mo_last 37 = .ok (.aload_n 0, 1) := by decide +kernel
theorem d_Mo_last_38 : decode b_Mo_last 38 = .ok (.getfield 20, 3) := by decide +kernel
theorem d_Mo_last_41 : decode b_Mo_last 41 = .ok (.iload_n 1, 1) := by decide +kernel
theorem d_Mo_last_42 : decode b_Mo_last 42 = .ok (.iaload, 1) := by decide +kernel
theorem d_Mo_last_43 : decode b_Mo_last 43 = .ok (.istore 4, 2) := by decide +kernel
theorem d_Mo_last_45 : decode b_Mo_last 45 = .ok (.iload 4, 2) := by decide +kernel
theorem d_Mo_last_47 : decode b_Mo_last 47 = .ok (.ifCond .ne 9, 3) := by decide +kernel
theorem d_Mo_last_50 : decode b_Mo_last 50 = .ok (.ldc2_w 370, 3) := by decide +kernel
theorem d_Mo_last_53 : decode b_Mo_last 53 = .ok (.goto 18, 3) := by decide +kernel
theorem d_Mo_last_56 : decode b_Mo_last 56 = .ok (.aload_n 0, 1) := by decide +kernel
theorem d_Mo_last_57 : decode b_Mo_last 57 = .ok (.getfield 41, 3) := by decide +kernel
theorem d_Mo_last_60 : decode b_Mo_last 60 = .ok (.sipush 200, 3) := by decide +kernel
theorem d_Mo_last_63 : decode b_Mo_last 63 = .ok (.iload_n 1, 1) := by decide +kernel
theorem d_Mo_last_64 : decode b_Mo_last 64 = .ok (.imul, 1) := by decide +kernel
theorem d_Mo_last_65 : decode b_Mo_last 65 = .ok (.iload 4, 2) := by decide +kernel
theorem d_Mo_last_67 : decode b_Mo_last 67 = .ok (.iadd, 1) := by decide +kernel
theorem d_Mo_last_68 : decode b_Mo_last 68 = .ok (.iconst 1, 1) := by decide +kernel
theorem d_Mo_last_69 : decode b_Mo_last 69 = .ok (.isub, 1) := by decide +kernel
theorem d_Mo_last_70 : decode b_Mo_last 70 = .ok (.laload, 1) := by decide +kernel
theorem d_Mo_last_71 : decode b_Mo_last 71 = .ok (.lstore 5, 2) := by decide +kernel
theorem d_Mo_last_73 : decode b_Mo_last 73 = .ok (.lload_n 2, 1) := by decide +kernel
theorem d_Mo_last_74 : decode b_Mo_last 74 = .ok (.lstore 7, 2) := by decide +kernel
theorem d_Mo_last_76 : decode b_Mo_last 76 = .ok (.iconst 0, 1) := by decide +kernel
theorem d_Mo_last_77 : decode b_Mo_last 77 = .ok (.istore 9, 2) := by decide +kernel
theorem d_Mo_last_79 : decode b_Mo_last 79 = .ok (.iload 9, 2) := by decide +kernel
theorem d_Mo_last_81 : decode b_Mo_last 81 = .ok (.sipush 820, 3) := by decide +kernel
theorem d_Mo_last_84 : decode b_Mo_last 84 = .ok (.if_icmp .ge 65, 3) := by decide +kernel
theorem d_Mo_last_87 : decode b_Mo_last 87 = .ok (.aload_n 0, 1) := by decide +kernel
theorem d_Mo_last_88 : decode b_Mo_last 88 = .ok (.getfield 75, 3) := by decide +kernel
theorem d_Mo_last_91 : decode b_Mo_last 91 = .ok (.iload_n 1, 1) := by decide +kernel
theorem d_Mo_last_92 : decode b_Mo_last 92 = .ok (.iaload, 1) := by decide +kernel
theorem d_Mo_last_93 : decode b_Mo_last 93 = .ok (.iconst 2, 1) := by decide +kernel
theorem d_Mo_last_94 : decode b_Mo_last 94 = .ok (.if_icmp .ne 55, 3) := by decide +kernel
theorem d_Mo_last_97 : decode b_Mo_last 97 = .ok (.lload 7, 2) := by decide +kernel
theorem d_Mo_last_99 : decode b_Mo_last 99 = .ok (.invokestatic 251, 3) := by decide +kernel
theorem d_Mo_last_102 : decode b_Mo_last 102 = .ok (.ifCond .eq 47, 3) := by decide +kernel
theorem d_Mo_last_105 : decode b_Mo_last 105 = .ok (.lload 7, 2) := by decide +kernel
theorem d_Mo_last_107 : decode b_Mo_last 107 = .ok (.lload 5, 2) := by decide +kernel
theorem d_Mo_last_109 : decode b_Mo_last 109 = .ok (.lcmp, 1) := by decide +kernel
theorem d_Mo_last_110 : decode b_Mo_last 110 = .ok (.ifCond .le 39, 3) := by decide +kernel
theorem d_Mo_last_113 : decode b_Mo_last 113 = .ok (.aload_n 0, 1) := by decide +kernel
theorem d_Mo_last_114 : decode b_Mo_last 114 = .ok (.iload_n 1, 1) := by decide +kernel
theorem d_Mo_last_115 : decode b_Mo_last 115 = .ok (.lload 7, 2) := by decide +kernel
theorem d_Mo_last_117 : decode b_Mo_last 117 = .ok (.invokevirtual 447, 3) := by decide +kernel
theorem d_Mo_last_120 : decode b_Mo_last 120 = .ok (.lstore 7, 2) := by decide +kernel
theorem d_Mo_last_122 : decode b_Mo_last 122 = .ok (.lload 7, 2) := by decide +kernel
theorem d_Mo_last_124 : decode b_Mo_last 124 = .ok (.lload 5, 2) := by decide +kernel
theorem d_Mo_last_126 : decode b_Mo_last 126 = .ok (.lcmp, 1) := by decide +kernel
theorem d_Mo_last_127 : decode b_Mo_last 127 = .ok (.ifCond .le 16, 3) := by decide +kernel
theorem d_Mo_last_130 : decode b_Mo_last 130 = .ok (.aload_n 0, 1) := by decide +kernel
theorem d_Mo_last_131 : decode b_Mo_last 131 = .ok (.iload_n 1, 1) := by decide +kernel
theorem d_Mo_last_132 : decode b_Mo_last 132 = .ok (.lload 7, 2) := by decide +kernel
theorem d_Mo_last_134 : decode b_Mo_last 134 = .ok (.invokevirtual 441, 3) := by decide +kernel
theorem d_Mo_last_137 : decode b_Mo_last 137 = .ok (.ifCond .eq 6, 3) := by decide +kernel
theorem d_Mo_last_140 : decode b_Mo_last 140 = .ok (.lload 7, 2) := by decide +kernel
theorem d_Mo_last_142 : decode b_Mo_last 142 = .ok (.lreturn, 1) := by decide +kernel
theorem d_Mo_last_143 : decode b_Mo_last 143 = .ok (.iinc 9 1, 3) := by decide +kernel
theorem d_Mo_last_146 : decode b_Mo_last 146 = .ok (.goto (-67), 3) := by decide +kernel
theorem d_Mo_last_149 : decode b_Mo_last 149 = .ok (.iload 4, 2) := by decide +kernel
theorem d_Mo_last_151 : decode b_Mo_last 151 = .ok (.iconst 1, 1) := by decide +kernel
theorem d_Mo_last_152 : decode b_Mo_last 152 = .ok (.isub, 1) := by decide +kernel
theorem d_Mo_last_153 : decode b_Mo_last 153 = .ok (.istore 9, 2) := by decide +kernel
theorem d_Mo_last_155 : decode b_Mo_last 155 = .ok (.iload 9, 2) := by decide +kernel
theorem d_Mo_last_157 : decode b_Mo_last 157 = .ok (.ifCond .lt 44, 3) := by decide +kernel
theorem d_Mo_last_160 : decode b_Mo_last 160 = .ok (.aload_n 0, 1) := by decide +kernel
theorem d_Mo_last_161 : decode b_Mo_last 161 = .ok (.getfield 41, 3) := by decide +kernel
theorem d_Mo_last_164 : decode b_Mo_last 164 = .ok (.sipush 200, 3) := by decide +kernel
theorem d_Mo_last_167 : decode b_Mo_last 167 = .ok (.iload_n 1, 1) := by decide +kernel
theorem d_Mo_last_168 : decode b_Mo_last 168 = .ok (.imul, 1) := by decide +kernel
theorem d_Mo_last_169 : decode b_Mo_last 169 = .ok (.iload 9, 2) := by decide +kernel
theorem d_Mo_last_171 : decode b_Mo_last 171 = .ok (.iadd, 1) := by decide +kernel
theorem d_Mo_last_172 : decode b_Mo_last 172 = .ok (.laload, 1) := by decide +kernel
theorem d_Mo_last_173 : decode b_Mo_last 173 = .ok (.lstore 10, 2) := by decide +kernel
theorem d_Mo_last_175 : decode b_Mo_last 175 = .ok (.lload 10, 2) := by decide +kernel
theorem d_Mo_last_177 : decode b_Mo_last 177 = .ok (.lload_n 2, 1) := by decide +kernel
theorem d_Mo_last_178 : decode b_Mo_last 178 = .ok (.lcmp, 1) := by decide +kernel
theorem d_Mo_last_179 : decode b_Mo_last 179 = .ok (.ifCond .ge 16, 3) := by decide +kernel
theorem d_Mo_last_182 : decode b_Mo_last 182 = .ok (.aload_n 0, 1) := by decide +kernel
theorem d_Mo_last_183 : decode b_Mo_last 183 = .ok (.iload_n 1, 1) := by decide +kernel
theorem d_Mo_last_184 : decode b_Mo_last 184 = .ok (.lload 10, 2) := by decide +kernel
theorem d_Mo_last_186 : decode b_Mo_last 186 = .ok (.invokevirtual 441, 3) := by decide +kernel
theorem d_Mo_last_189 : decode b_Mo_last 189 = .ok (.ifCond .eq 6, 3) := by decide +kernel
theorem d_Mo_last_192 : decode b_Mo_last 192 = .ok (.lload 10, 2) := by decide +kernel
theorem d_Mo_last_194 : decode b_Mo_last 194 = .ok (.lreturn, 1) := by decide +kernel
theorem d_Mo_last_195 : decode b_Mo_last 195 = .ok (.iinc 9 (-1), 3) := by decide +kernel
theorem d_Mo_last_198 : decode b_Mo_last 198 = .ok (.goto (-43), 3) := by decide +kernel
theorem d_Mo_last_201 : decode b_Mo_last 201 = .ok (.ldc2_w 370, 3) := by decide +kernel
theorem d_Mo_last_204 : decode b_Mo_last 204 = .ok (.lreturn, 1) := by decide +kernel
abbrev b_Mo_typeLike : ByteArray := prog_14_method_66_code
def y_Mo_typeLike : MethodName := ⟨"ZoneFilesModel", "typeLike", "(I)I"⟩
theorem d_Mo_typeLike_0 : decode b_Mo_typeLike 0 = .ok (.iconst 4, 1) := by decide +kernel
theorem d_Mo_typeLike_1 : decode b_Mo_typeLike 1 = .ok (.istore_n 2, 1) := by decide +kernel
theorem d_Mo_typeLike_2 : decode b_Mo_typeLike 2 = .ok (.iconst 0, 1) := by decide +kernel
theorem d_Mo_typeLike_3 : decode b_Mo_typeLike 3 = .ok (.istore_n 3, 1) := by decide +kernel
theorem d_Mo_typeLike_4 : decode b_Mo_typeLike 4 = .ok (.iload_n 3, 1) := by decide +kernel
theorem d_Mo_typeLike_5 : decode b_Mo_typeLike 5 = .ok (.aload_n 0, 1) := by decide +kernel
theorem d_Mo_typeLike_6 : decode b_Mo_typeLike 6 = .ok (.getfield 23, 3) := by decide +kernel
theorem d_Mo_typeLike_9 : decode b_Mo_typeLike 9 = .ok (.iload_n 2, 1) := by decide +kernel
theorem d_Mo_typeLike_10 : decode b_Mo_typeLike 10 = .ok (.iaload, 1) := by decide +kernel
theorem d_Mo_typeLike_11 : decode b_Mo_typeLike 11 = .ok (.if_icmp .ge 128, 3) := by decide +kernel
theorem d_Mo_typeLike_14 : decode b_Mo_typeLike 14 = .ok (.aload_n 0, 1) := by decide +kernel
theorem d_Mo_typeLike_15 : decode b_Mo_typeLike 15 = .ok (.iload_n 2, 1) := by decide +kernel
theorem d_Mo_typeLike_16 : decode b_Mo_typeLike 16 = .ok (.iload_n 3, 1) := by decide +kernel
theorem d_Mo_typeLike_17 : decode b_Mo_typeLike 17 = .ok (.invokevirtual 402, 3) := by decide +kernel
theorem d_Mo_typeLike_20 : decode b_Mo_typeLike 20 = .ok (.aload_n 0, 1) := by decide +kernel
theorem d_Mo_typeLike_21 : decode b_Mo_typeLike 21 = .ok (.getfield 379, 3) := by decide +kernel
theorem d_Mo_typeLike_24 : decode b_Mo_typeLike 24 = .ok (.aload_n 0, 1) := by decide +kernel
theorem d_Mo_typeLike_25 : decode b_Mo_typeLike 25 = .ok (.getfield 78, 3) := by decide +kernel
theorem d_Mo_typeLike_28 : decode b_Mo_typeLike 28 = .ok (.iconst 2, 1) := by decide +kernel
theorem d_Mo_typeLike_29 : decode b_Mo_typeLike 29 = .ok (.iload_n 2, 1) := by decide +kernel
theorem d_Mo_typeLike_30 : decode b_Mo_typeLike 30 = .ok (.imul, 1) := by decide +kernel
theorem d_Mo_typeLike_31 : decode b_Mo_typeLike 31 = .ok (.iload_n 1, 1) := by decide +kernel
theorem d_Mo_typeLike_32 : decode b_Mo_typeLike 32 = .ok (.iadd, 1) := by decide +kernel
theorem d_Mo_typeLike_33 : decode b_Mo_typeLike 33 = .ok (.iaload, 1) := by decide +kernel
theorem d_Mo_typeLike_34 : decode b_Mo_typeLike 34 = .ok (.if_icmp .ne 32, 3) := by decide +kernel
theorem d_Mo_typeLike_37 : decode b_Mo_typeLike 37 = .ok (.aload_n 0, 1) := by decide +kernel
theorem d_Mo_typeLike_38 : decode b_Mo_typeLike 38 = .ok (.getfield 382, 3) := by decide +kernel
theorem d_Mo_typeLike_41 : decode b_Mo_typeLike 41 = .ok (.iload_n 1, 1) := by decide +kernel
theorem d_Mo_typeLike_42 : decode b_Mo_typeLike 42 = .ok (.if_icmp .ne 24, 3) := by decide +kernel
theorem d_Mo_typeLike_45 : decode b_Mo_typeLike 45 = .ok (.aload_n 0, 1) := by decide +kernel
theorem d_Mo_typeLike_46 : decode b_Mo_typeLike 46 = .ok (.getfield 385, 3) := by decide +kernel
theorem d_Mo_typeLike_49 : decode b_Mo_typeLike 49 = .ok (.aload_n 0, 1) := by decide +kernel
theorem d_Mo_typeLike_50 : decode b_Mo_typeLike 50 = .ok (.getfield 81, 3) := by decide +kernel
theorem d_Mo_typeLike_53 : decode b_Mo_typeLike 53 = .ok (.iconst 2, 1) := by decide +kernel
theorem d_Mo_typeLike_54 : decode b_Mo_typeLike 54 = .ok (.iload_n 2, 1) := by decide +kernel
theorem d_Mo_typeLike_55 : decode b_Mo_typeLike 55 = .ok (.imul, 1) := by decide +kernel
theorem d_Mo_typeLike_56 : decode b_Mo_typeLike 56 = .ok (.iload_n 1, 1) := by decide +kernel
theorem d_Mo_typeLike_57 : decode b_Mo_typeLike 57 = .ok (.iadd, 1) := by decide +kernel
theorem d_Mo_typeLike_58 : decode b_Mo_typeLike 58 = .ok (.iaload, 1) := by decide +kernel
theorem d_Mo_typeLike_59 : decode b_Mo_typeLike 59 = .ok (.if_icmp .ne 7, 3) := by decide +kernel
theorem d_Mo_typeLike_62 : decode b_Mo_typeLike 62 = .ok (.iconst 1, 1) := by decide +kernel
theorem d_Mo_typeLike_63 : decode b_Mo_typeLike 63 = .ok (.goto 4, 3) := by decide +kernel
theorem d_Mo_typeLike_66 : decode b_Mo_typeLike 66 = .ok (.iconst 0, 1) := by decide +kernel
theorem d_Mo_typeLike_67 : decode b_Mo_typeLike 67 = .ok (.istore 4, 2) := by decide +kernel
theorem d_Mo_typeLike_69 : decode b_Mo_typeLike 69 = .ok (.iconst 0, 1) := by decide +kernel
theorem d_Mo_typeLike_70 : decode b_Mo_typeLike 70 = .ok (.istore 5, 2) := by decide +kernel
theorem d_Mo_typeLike_72 : decode b_Mo_typeLike 72 = .ok (.iload 5, 2) := by decide +kernel
theorem d_Mo_typeLike_74 : decode b_Mo_typeLike 74 = .ok (.aload_n 0, 1) := by decide +kernel
theorem d_Mo_typeLike_75 : decode b_Mo_typeLike 75 = .ok (.getfield 385, 3) := by decide +kernel
theorem d_Mo_typeLike_78 : decode b_Mo_typeLike 78 = .ok (.if_icmp .ge 48, 3) := by decide +kernel
theorem d_Mo_typeLike_81 : decode b_Mo_typeLike 81 = .ok (.iload 4, 2) := by decide +kernel
theorem d_Mo_typeLike_83 : decode b_Mo_typeLike 83 = .ok (.ifCond .eq 43, 3) := by decide +kernel
theorem d_Mo_typeLike_86 : decode b_Mo_typeLike 86 = .ok (.aload_n 0, 1) := by decide +kernel
theorem d_Mo_typeLike_87 : decode b_Mo_typeLike 87 = .ok (.getfield 105, 3) := by decide +kernel
theorem d_Mo_typeLike_90 : decode b_Mo_typeLike 90 = .ok (.iload 5, 2) := by decide +kernel
theorem d_Mo_typeLike_92 : decode b_Mo_typeLike 92 = .ok (.iaload, 1) := by decide +kernel
theorem d_Mo_typeLike_93 : decode b_Mo_typeLike 93 = .ok (.aload_n 0, 1) := by decide +kernel
theorem d_Mo_typeLike_94 : decode b_Mo_typeLike 94 = .ok (.getfield 84, 3) := by decide +kernel
theorem d_Mo_typeLike_97 : decode b_Mo_typeLike 97 = .ok (.bipush 20, 2) := by decide +kernel
theorem d_Mo_typeLike_99 : decode b_Mo_typeLike 99 = .ok (.iload_n 2, 1) := by decide +kernel
theorem d_Mo_typeLike_100 : decode b_Mo_typeLike 100 = .ok (.imul, 1) := by decide +kernel
theorem d_Mo_typeLike_101 : decode b_Mo_typeLike 101 = .ok (.bipush 10, 2) := by decide +kernel
theorem d_Mo_typeLike_103 : decode b_Mo_typeLike 103 = .ok (.iload_n 1, 1) := by decide +kernel
theorem d_Mo_typeLike_104 : decode b_Mo_typeLike 104 = .ok (.imul, 1) := by decide +kernel
theorem d_Mo_typeLike_105 : decode b_Mo_typeLike 105 = .ok (.iadd, 1) := by decide +kernel
theorem d_Mo_typeLike_106 : decode b_Mo_typeLike 106 = .ok (.iload 5, 2) := by decide +kernel
theorem d_Mo_typeLike_108 : decode b_Mo_typeLike 108 = .ok (.iadd, 1) := by decide +kernel
theorem d_Mo_typeLike_109 : decode b_Mo_typeLike 109 = .ok (.iaload, 1) := by decide +kernel
theorem d_Mo_typeLike_110 : decode b_Mo_typeLike 110 = .ok (.if_icmp .ne 7, 3) := by decide +kernel
theorem d_Mo_typeLike_113 : decode b_Mo_typeLike 113 = .ok (.iconst 1, 1) := by decide +kernel
theorem d_Mo_typeLike_114 : decode b_Mo_typeLike 114 = .ok (.goto 4, 3) := by decide +kernel
theorem d_Mo_typeLike_117 : decode b_Mo_typeLike 117 = .ok (.iconst 0, 1) := by decide +kernel
theorem d_Mo_typeLike_118 : decode b_Mo_typeLike 118 = .ok (.istore 4, 2) := by decide +kernel
theorem d_Mo_typeLike_120 : decode b_Mo_typeLike 120 = .ok (.iinc 5 1, 3) := by decide +kernel
theorem d_Mo_typeLike_123 : decode b_Mo_typeLike 123 = .ok (.goto (-51), 3) := by decide +kernel
theorem d_Mo_typeLike_126 : decode b_Mo_typeLike 126 = .ok (.iload 4, 2) := by decide +kernel
theorem d_Mo_typeLike_128 : decode b_Mo_typeLike 128 = .ok (.ifCond .eq 5, 3) := by decide +kernel
theorem d_Mo_typeLike_131 : decode b_Mo_typeLike 131 = .ok (.iload_n 3, 1) := by decide +kernel
theorem d_Mo_typeLike_132 : decode b_Mo_typeLike 132 = .ok (.ireturn, 1) := by decide +kernel
theorem d_Mo_typeLike_133 : decode b_Mo_typeLike 133 = .ok (.iinc 3 1, 3) := by decide +kernel
theorem d_Mo_typeLike_136 : decode b_Mo_typeLike 136 = .ok (.goto (-132), 3) := by decide +kernel
theorem d_Mo_typeLike_139 : decode b_Mo_typeLike 139 = .ok (.iconst (-1), 1) := by decide +kernel
theorem d_Mo_typeLike_140 : decode b_Mo_typeLike 140 = .ok (.ireturn, 1) := by decide +kernel
abbrev b_Mo_lettersLike : ByteArray := prog_14_method_67_code
def y_Mo_lettersLike : MethodName := ⟨"ZoneFilesModel", "lettersLike", "(I)I"⟩
theorem d_Mo_lettersLike_0 : decode b_Mo_lettersLike 0 = .ok (.iconst 4, 1) := by decide +kernel
theorem d_Mo_lettersLike_1 : decode b_Mo_lettersLike 1 = .ok (.istore_n 2, 1) := by decide +kernel
theorem d_Mo_lettersLike_2 : decode b_Mo_lettersLike 2 = .ok (.aload_n 0, 1) := by decide +kernel
theorem d_Mo_lettersLike_3 : decode b_Mo_lettersLike 3 = .ok (.getfield 81, 3) := by decide +kernel
theorem d_Mo_lettersLike_6 : decode b_Mo_lettersLike 6 = .ok (.iconst 2, 1) := by decide +kernel
theorem d_Mo_lettersLike_7 : decode b_Mo_lettersLike 7 = .ok (.iload_n 2, 1) := by decide +kernel
theorem d_Mo_lettersLike_8 : decode b_Mo_lettersLike 8 = .ok (.imul, 1) := by decide +kernel
theorem d_Mo_lettersLike_9 : decode b_Mo_lettersLike 9 = .ok (.iload_n 1, 1) := by decide +kernel
theorem d_Mo_lettersLike_10 : decode b_Mo_lettersLike 10 = .ok (.iadd, 1) := by decide +kernel
theorem d_Mo_lettersLike_11 : decode b_Mo_lettersLike 11 = .ok (.iaload, 1) := by decide +kernel
theorem d_Mo_lettersLike_12 : decode b_Mo_lettersLike 12 = .ok (.istore_n 3, 1) := by decide +kernel
theorem d_Mo_lettersLike_13 : decode b_Mo_lettersLike 13 = .ok (.iconst 0, 1) := by decide +kernel
theorem d_Mo_lettersLike_14 : decode b_Mo_lettersLike 14 = .ok (.istore 4, 2) := by decide +kernel
theorem d_Mo_lettersLike_16 : decode b_Mo_lettersLike 16 = .ok (.iload 4, 2) := by decide +kernel
theorem d_Mo_lettersLike_18 : decode b_Mo_lettersLike 18 = .ok (.iload_n 3, 1) := by decide +kernel
theorem d_Mo_lettersLike_19 : decode b_Mo_lettersLike 19 = .ok (.iadd, 1) := by decide +kernel
theorem d_Mo_lettersLike_20 : decode b_Mo_lettersLike 20 = .ok (.aload_n 0, 1) := by decide +kernel
theorem d_Mo_lettersLike_21 : decode b_Mo_lettersLike 21 = .ok (.getfield 26, 3) := by decide +kernel
theorem d_Mo_lettersLike_24 : decode b_Mo_lettersLike 24 = .ok (.iload_n 2, 1) := by decide +kernel
theorem d_Mo_lettersLike_25 : decode b_Mo_lettersLike 25 = .ok (.iaload, 1) := by decide +kernel
theorem d_Mo_lettersLike_26 : decode b_Mo_lettersLike 26 = .ok (.if_icmp .ge 105, 3) := by decide +kernel
theorem d_Mo_lettersLike_29 : decode b_Mo_lettersLike 29 = .ok (.aload_n 0, 1) := by decide +kernel
theorem d_Mo_lettersLike_30 : decode b_Mo_lettersLike 30 = .ok (.getfield 57, 3) := by decide +kernel
theorem d_Mo_lettersLike_33 : decode b_Mo_lettersLike 33 = .ok (.sipush 200, 3) := by decide +kernel
theorem d_Mo_lettersLike_36 : decode b_Mo_lettersLike 36 = .ok (.iload_n 2, 1) := by decide +kernel
theorem d_Mo_lettersLike_37 : decode b_Mo_lettersLike 37 = .ok (.imul, 1) := by decide +kernel
theorem d_Mo_lettersLike_38 : decode b_Mo_lettersLike 38 = .ok (.iload 4, 2) := by decide +kernel
theorem d_Mo_lettersLike_40 : decode b_Mo_lettersLike 40 = .ok (.iadd, 1) := by decide +kernel
theorem d_Mo_lettersLike_41 : decode b_Mo_lettersLike 41 = .ok (.iload_n 3, 1) := by decide +kernel
theorem d_Mo_lettersLike_42 : decode b_Mo_lettersLike 42 = .ok (.iadd, 1) := by decide +kernel
theorem d_Mo_lettersLike_43 : decode b_Mo_lettersLike 43 = .ok (.iaload, 1) := by decide +kernel
theorem d_Mo_lettersLike_44 : decode b_Mo_lettersLike 44 = .ok (.ifCond .ne 7, 3) := by decide +kernel
theorem d_Mo_lettersLike_47 : decode b_Mo_lettersLike 47 = .ok (.iconst 1, 1) := by decide +kernel
theorem d_Mo_lettersLike_48 : decode b_Mo_lettersLike 48 = .ok (.goto 4, 3) := by decide +kernel
theorem d_Mo_lettersLike_51 : decode b_Mo_lettersLike 51 = .ok (.iconst 0, 1) := by decide +kernel
theorem d_Mo_lettersLike_52 : decode b_Mo_lettersLike 52 = .ok (.istore 5, 2) := by decide +kernel
theorem d_Mo_lettersLike_54 : decode b_Mo_lettersLike 54 = .ok (.iconst 0, 1) := by decide +kernel
theorem d_Mo_lettersLike_55 : decode b_Mo_lettersLike 55 = .ok (.istore 6, 2) := by decide +kernel
theorem d_Mo_lettersLike_57 : decode b_Mo_lettersLike 57 = .ok (.iload 6, 2) := by decide +kernel
theorem d_Mo_lettersLike_59 : decode b_Mo_lettersLike 59 = .ok (.iload_n 3, 1) := by decide +kernel
theorem d_Mo_lettersLike_60 : decode b_Mo_lettersLike 60 = .ok (.if_icmp .ge 57, 3) := by decide +kernel
theorem d_Mo_lettersLike_63 : decode b_Mo_lettersLike 63 = .ok (.iload 5, 2) := by decide +kernel
theorem d_Mo_lettersLike_65 : decode b_Mo_lettersLike 65 = .ok (.ifCond .eq 52, 3) := by decide +kernel
theorem d_Mo_lettersLike_68 : decode b_Mo_lettersLike 68 = .ok (.aload_n 0, 1) := by decide +kernel
theorem d_Mo_lettersLike_69 : decode b_Mo_lettersLike 69 = .ok (.getfield 57, 3) := by decide +kernel
theorem d_Mo_lettersLike_72 : decode b_Mo_lettersLike 72 = .ok (.sipush 200, 3) := by decide +kernel
theorem d_Mo_lettersLike_75 : decode b_Mo_lettersLike 75 = .ok (.iload_n 2, 1) := by decide +kernel
theorem d_Mo_lettersLike_76 : decode b_Mo_lettersLike 76 = .ok (.imul, 1) := by decide +kernel
theorem d_Mo_lettersLike_77 : decode b_Mo_lettersLike 77 = .ok (.iload 4, 2) := by decide +kernel
theorem d_Mo_lettersLike_79 : decode b_Mo_lettersLike 79 = .ok (.iadd, 1) := by decide +kernel
theorem d_Mo_lettersLike_80 : decode b_Mo_lettersLike 80 = .ok (.iload 6, 2) := by decide +kernel
theorem d_Mo_lettersLike_82 : decode b_Mo_lettersLike 82 = .ok (.iadd, 1) := by decide +kernel
theorem d_Mo_lettersLike_83 : decode b_Mo_lettersLike 83 = .ok (.iaload, 1) := by decide +kernel
theorem d_Mo_lettersLike_84 : decode b_Mo_lettersLike 84 = .ok (.aload_n 0, 1) := by decide +kernel
theorem d_Mo_lettersLike_85 : decode b_Mo_lettersLike 85 = .ok (.getfield 84, 3) := by decide +kernel
theorem d_Mo_lettersLike_88 : decode b_Mo_lettersLike 88 = .ok (.bipush 20, 2) := by decide +kernel
theorem d_Mo_lettersLike_90 : decode b_Mo_lettersLike 90 = .ok (.iload_n 2, 1) := by decide +kernel
theorem d_Mo_lettersLike_91 : decode b_Mo_lettersLike 91 = .ok (.imul, 1) := by decide +kernel
theorem d_Mo_lettersLike_92 : decode b_Mo_lettersLike 92 = .ok (.bipush 10, 2) := by decide +kernel
theorem d_Mo_lettersLike_94 : decode b_Mo_lettersLike 94 = .ok (.iload_n 1, 1) := by decide +kernel
theorem d_Mo_lettersLike_95 : decode b_Mo_lettersLike 95 = .ok (.imul, 1) := by decide +kernel
theorem d_Mo_lettersLike_96 : decode b_Mo_lettersLike 96 = .ok (.iadd, 1) := by decide +kernel
theorem d_Mo_lettersLike_97 : decode b_Mo_lettersLike 97 = .ok (.iload 6, 2) := by decide +kernel
theorem d_Mo_lettersLike_99 : decode b_Mo_lettersLike 99 = .ok (.iadd, 1) := by decide +kernel
theorem d_Mo_lettersLike_100 : decode b_Mo_lettersLike 100 = .ok (.iaload, 1) := by decide +kernel
theorem d_Mo_lettersLike_101 : decode b_Mo_lettersLike 101 = .ok (.if_icmp .ne 7, 3) := by decide +kernel
theorem d_Mo_lettersLike_104 : decode b_Mo_lettersLike 104 = .ok (.iconst 1, 1) := by decide +kernel
theorem d_Mo_lettersLike_105 : decode b_Mo_lettersLike 105 = .ok (.goto 4, 3) := by decide +kernel
theorem d_Mo_lettersLike_108 : decode b_Mo_lettersLike 108 = .ok (.iconst 0, 1) := by decide +kernel
theorem d_Mo_lettersLike_109 : decode b_Mo_lettersLike 109 = .ok (.istore 5, 2) := by decide +kernel
theorem d_Mo_lettersLike_111 : decode b_Mo_lettersLike 111 = .ok (.iinc 6 1, 3) := by decide +kernel
theorem d_Mo_lettersLike_114 : decode b_Mo_lettersLike 114 = .ok (.goto (-57), 3) := by decide +kernel
theorem d_Mo_lettersLike_117 : decode b_Mo_lettersLike 117 = .ok (.iload 5, 2) := by decide +kernel
theorem d_Mo_lettersLike_119 : decode b_Mo_lettersLike 119 = .ok (.ifCond .eq 6, 3) := by decide +kernel
theorem d_Mo_lettersLike_122 : decode b_Mo_lettersLike 122 = .ok (.iload 4, 2) := by decide +kernel
theorem d_Mo_lettersLike_124 : decode b_Mo_lettersLike 124 = .ok (.ireturn, 1) := by decide +kernel
theorem d_Mo_lettersLike_125 : decode b_Mo_lettersLike 125 = .ok (.iinc 4 1, 3) := by decide +kernel
theorem d_Mo_lettersLike_128 : decode b_Mo_lettersLike 128 = .ok (.goto (-112), 3) := by decide +kernel
theorem d_Mo_lettersLike_131 : decode b_Mo_lettersLike 131 = .ok (.iconst (-1), 1) := by decide +kernel
theorem d_Mo_lettersLike_132 : decode b_Mo_lettersLike 132 = .ok (.ireturn, 1) := by decide +kernel
abbrev b_Mo_addTime : ByteArray := prog_14_method_68_code
def y_Mo_addTime : MethodName := ⟨"ZoneFilesModel", "addTime", "(JI)Z"⟩
theorem d_Mo_addTime_0 : decode b_Mo_addTime 0 = .ok (.iconst 4, 1) := by decide +kernel
theorem d_Mo_addTime_1 : decode b_Mo_addTime 1 = .ok (.istore 4, 2) := by decide +kernel
theorem d_Mo_addTime_3 : decode b_Mo_addTime 3 = .ok (.aload_n 0, 1) := by decide +kernel
theorem d_Mo_addTime_4 : decode b_Mo_addTime 4 = .ok (.getfield 20, 3) := by decide +kernel
theorem d_Mo_addTime_7 : decode b_Mo_addTime 7 = .ok (.iload 4, 2) := by decide +kernel
theorem d_Mo_addTime_9 : decode b_Mo_addTime 9 = .ok (.iaload, 1) := by decide +kernel
theorem d_Mo_addTime_10 : decode b_Mo_addTime 10 = .ok (.sipush 200, 3) := by decide +kernel
theorem d_Mo_addTime_13 : decode b_Mo_addTime 13 = .ok (.if_icmp .ne 5, 3) := by decide +kernel
theorem d_Mo_addTime_16 : decode b_Mo_addTime 16 = .ok (.iconst 0, 1) := by decide +kernel
theorem d_Mo_addTime_17 : decode b_Mo_addTime 17 = .ok (.ireturn, 1) := by decide +kernel
theorem d_Mo_addTime_18 : decode b_Mo_addTime 18 = .ok (.aload_n 0, 1) := by decide +kernel
theorem d_Mo_addTime_19 : decode b_Mo_addTime 19 = .ok (.iload_n 3, 1) := by decide +kernel
theorem d_Mo_addTime_20 : decode b_Mo_addTime 20 = .ok (.invokevirtual 450, 3) := by decide +kernel
theorem d_Mo_addTime_23 : decode b_Mo_addTime 23 = .ok (.istore 5, 2) := by decide +kernel
theorem d_Mo_addTime_25 : decode b_Mo_addTime 25 = .ok (.iload 5, 2) := by decide +kernel
theorem d_Mo_addTime_27 : decode b_Mo_addTime 27 = .ok (.ifCond .ge 228, 3) := by decide +kernel
theorem d_Mo_addTime_30 : decode b_Mo_addTime 30 = .ok (.aload_n 0, 1) := by decide +kernel
theorem d_Mo_addTime_31 : decode b_Mo_addTime 31 = .ok (.iload_n 3, 1) := by decide +kernel
theorem d_Mo_addTime_32 : decode b_Mo_addTime 32 = .ok (.invokevirtual 453, 3) := by decide +kernel
theorem d_Mo_addTime_35 : decode b_Mo_addTime 35 = .ok (.istore 6, 2) := by decide +kernel
theorem d_Mo_addTime_37 : decode b_Mo_addTime 37 = .ok (.aload_n 0, 1) := by decide +kernel
theorem d_Mo_addTime_38 : decode b_Mo_addTime 38 = .ok (.getfield 23, 3) := by decide +kernel
theorem d_Mo_addTime_41 : decode b_Mo_addTime 41 = .ok (.iload 4, 2) := by decide +kernel
theorem d_Mo_addTime_43 : decode b_Mo_addTime 43 = .ok (.iaload, 1) := by decide +kernel
theorem d_Mo_addTime_44 : decode b_Mo_addTime 44 = .ok (.bipush 40, 2) := by decide +kernel
theorem d_Mo_addTime_46 : decode b_Mo_addTime 46 = .ok (.if_icmp .eq 35, 3) := by decide +kernel
theorem d_Mo_addTime_49 : decode b_Mo_addTime 49 = .ok (.iload 6, 2) := by decide +kernel
theorem d_Mo_addTime_51 : decode b_Mo_addTime 51 = .ok (.ifCond .ge 32, 3) := by decide +kernel
theorem d_Mo_addTime_54 : decode b_Mo_addTime 54 = .ok (.aload_n 0, 1) := by decide +kernel
theorem d_Mo_addTime_55 : decode b_Mo_addTime 55 = .ok (.getfield 26, 3) := by decide +kernel
theorem d_Mo_addTime_58 : decode b_Mo_addTime 58 = .ok (.iload 4, 2) := by decide +kernel
theorem d_Mo_addTime_60 : decode b_Mo_addTime 60 = .ok (.iaload, 1) := by decide +kernel
theorem d_Mo_addTime_61 : decode b_Mo_addTime 61 = .ok (.aload_n 0, 1) := by decide +kernel
theorem d_Mo_addTime_62 : decode b_Mo_addTime 62 = .ok (.getfield 81, 3) := by decide +kernel
theorem d_Mo_addTime_65 : decode b_Mo_addTime 65 = .ok (.iconst 2, 1) := by decide +kernel
theorem d_Mo_addTime_66 : decode b_Mo_addTime 66 = .ok (.iload 4, 2) := by decide +kernel
theorem d_Mo_addTime_68 : decode b_Mo_addTime 68 = .ok (.imul, 1) := by decide +kernel
theorem d_Mo_addTime_69 : decode b_Mo_addTime 69 = .ok (.iload_n 3, 1) := by decide +kernel
theorem d_Mo_addTime_70 : decode b_Mo_addTime 70 = .ok (.iadd, 1) := by decide +kernel
theorem d_Mo_addTime_71 : decode b_Mo_addTime 71 = .ok (.iaload, 1) := by decide +kernel
theorem d_Mo_addTime_72 : decode b_Mo_addTime 72 = .ok (.iadd, 1) := by decide +kernel
theorem d_Mo_addTime_73 : decode b_Mo_addTime 73 = .ok (.iconst 1, 1) := by decide +kernel
theorem d_Mo_addTime_74 : decode b_Mo_addTime 74 = .ok (.iadd, 1) := by decide +kernel
theorem d_Mo_addTime_75 : decode b_Mo_addTime 75 = .ok (.sipush 200, 3) := by decide +kernel
theorem d_Mo_addTime_78 : decode b_Mo_addTime 78 = .ok (.if_icmp .le 5, 3) := by decide +kernel
theorem d_Mo_addTime_81 : decode b_Mo_addTime 81 = .ok (.iconst 0, 1) := by decide +kernel
theorem d_Mo_addTime_82 : decode b_Mo_addTime 82 = .ok (.ireturn, 1) := by decide +kernel
theorem d_Mo_addTime_83 : decode b_Mo_addTime 83 = .ok (.aload_n 0, 1) := by decide +kernel
theorem d_Mo_addTime_84 : decode b_Mo_addTime 84 = .ok (.getfield 23, 3) := by decide +kernel
theorem d_Mo_addTime_87 : decode b_Mo_addTime 87 = .ok (.iload 4, 2) := by decide +kernel
theorem d_Mo_addTime_89 : decode b_Mo_addTime 89 = .ok (.iaload, 1) := by decide +kernel
theorem d_Mo_addTime_90 : decode b_Mo_addTime 90 = .ok (.istore 5, 2) := by decide +kernel
theorem d_Mo_addTime_92 : decode b_Mo_addTime 92 = .ok (.aload_n 0, 1) := by decide +kernel
theorem d_Mo_addTime_93 : decode b_Mo_addTime 93 = .ok (.getfield 23, 3) := by decide +kernel
theorem d_Mo_addTime_96 : decode b_Mo_addTime 96 = .ok (.iload 4, 2) := by decide +kernel
theorem d_Mo_addTime_98 : decode b_Mo_addTime 98 = .ok (.dup2, 1) := by decide +kernel
theorem d_Mo_addTime_99 : decode b_Mo_addTime 99 = .ok (.iaload, 1) := by decide +kernel
theorem d_Mo_addTime_100 : decode b_Mo_addTime 100 = .ok (.iconst 1, 1) := by decide +kernel
theorem d_Mo_addTime_101 : decode b_Mo_addTime 101 = .ok (.iadd, 1) := by decide +kernel
theorem d_Mo_addTime_102 : decode b_Mo_addTime 102 = .ok (.iastore, 1) := by decide +kernel
theorem d_Mo_addTime_103 : decode b_Mo_addTime 103 = .ok (.iload 6, 2) := by decide +kernel
theorem d_Mo_addTime_105 : decode b_Mo_addTime 105 = .ok (.ifCond .ge 19, 3) := by decide +kernel
theorem d_Mo_addTime_108 : decode b_Mo_addTime 108 = .ok (.aload_n 0, 1) := by decide +kernel
theorem d_Mo_addTime_109 : decode b_Mo_addTime 109 = .ok (.getfield 26, 3) := by decide +kernel
theorem d_Mo_addTime_112 : decode b_Mo_addTime 112 = .ok (.iload 4, 2) := by decide +kernel
theorem d_Mo_addTime_114 : decode b_Mo_addTime 114 = .ok (.iaload, 1) := by decide +kernel
theorem d_Mo_addTime_115 : decode b_Mo_addTime 115 = .ok (.istore 6, 2) := by decide +kernel
theorem d_Mo_addTime_117 : decode b_Mo_addTime 117 = .ok (.aload_n 0, 1) := by decide +kernel
theorem d_Mo_addTime_118 : decode b_Mo_addTime 118 = .ok (.iload 4, 2) := by decide +kernel
theorem d_Mo_addTime_120 : decode b_Mo_addTime 120 = .ok (.iload_n 3, 1) := by decide +kernel
theorem d_Mo_addTime_121 : decode b_Mo_addTime 121 = .ok (.invokevirtual 203, 3) := by decide +kernel
theorem d_Mo_addTime_124 : decode b_Mo_addTime 124 = .ok (.aload_n 0, 1) := by decide +kernel
theorem d_Mo_addTime_125 : decode b_Mo_addTime 125 = .ok (.getfield 48, 3) := by decide +kernel
theorem d_Mo_addTime_128 : decode b_Mo_addTime 128 = .ok (.bipush 40, 2) := by decide +kernel
theorem d_Mo_addTime_130 : decode b_Mo_addTime 130 = .ok (.iload 4, 2) := by decide +kernel
theorem d_Mo_addTime_132 : decode b_Mo_addTime 132 = .ok (.imul, 1) := by decide +kernel
theorem d_Mo_addTime_133 : decode b_Mo_addTime 133 = .ok (.iload 5, 2) := by decide +kernel
theorem d_Mo_addTime_135 : decode b_Mo_addTime 135 = .ok (.iadd, 1) := by decide +kernel
theorem d_Mo_addTime_136 : decode b_Mo_addTime 136 = .ok (.aload_n 0, 1) := by decide +kernel
theorem d_Mo_addTime_137 : decode b_Mo_addTime 137 = .ok (.getfield 78, 3) := by decide +kernel
theorem d_Mo_addTime_140 : decode b_Mo_addTime 140 = .ok (.iconst 2, 1) := by decide +kernel
theorem d_Mo_addTime_141 : decode b_Mo_addTime 141 = .ok (.iload 4, 2) := by decide +kernel
theorem d_Mo_addTime_143 : decode b_Mo_addTime 143 = .ok (.imul, 1) := by decide +kernel
theorem d_Mo_addTime_144 : decode b_Mo_addTime 144 = .ok (.iload_n 3, 1) := by decide +kernel
theorem d_Mo_addTime_145 : decode b_Mo_addTime 145 = .ok (.iadd, 1) := by decide +kernel
theorem d_Mo_addTime_146 : decode b_Mo_addTime 146 = .ok (.iaload, 1) := by decide +kernel
theorem d_Mo_addTime_147 : decode b_Mo_addTime 147 = .ok (.iastore, 1) := by decide +kernel
theorem d_Mo_addTime_148 : decode b_Mo_addTime 148 = .ok (.aload_n 0, 1) := by decide +kernel
theorem d_Mo_addTime_149 : decode b_Mo_addTime 149 = .ok (.getfield 51, 3) := by decide +kernel
theorem d_Mo_addTime_152 : decode b_Mo_addTime 152 = .ok (.bipush 40, 2) := by decide +kernel
theorem d_Mo_addTime_154 : decode b_Mo_addTime 154 = .ok (.iload 4, 2) := by decide +kernel
theorem d_Mo_addTime_156 : decode b_Mo_addTime 156 = .ok (.imul, 1) := by decide +kernel
theorem d_Mo_addTime_157 : decode b_Mo_addTime 157 = .ok (.iload 5, 2) := by decide +kernel
theorem d_Mo_addTime_159 : decode b_Mo_addTime 159 = .ok (.iadd, 1) := by decide +kernel
theorem d_Mo_addTime_160 : decode b_Mo_addTime 160 = .ok (.iload_n 3, 1) := by decide +kernel
theorem d_Mo_addTime_161 : decode b_Mo_addTime 161 = .ok (.iastore, 1) := by decide +kernel
theorem d_Mo_addTime_162 : decode b_Mo_addTime 162 = .ok (.aload_n 0, 1) := by decide +kernel
theorem d_Mo_addTime_163 : decode b_Mo_addTime 163 = .ok (.getfield 54, 3) := by decide +kernel
theorem d_Mo_addTime_166 : decode b_Mo_addTime 166 = .ok (.bipush 40, 2) := by decide +kernel
theorem d_Mo_addTime_168 : decode b_Mo_addTime 168 = .ok (.iload 4, 2) := by decide +kernel
theorem d_Mo_addTime_170 : decode b_Mo_addTime 170 = .ok (.imul, 1) := by decide +kernel
theorem d_Mo_addTime_171 : decode b_Mo_addTime 171 = .ok (.iload 5, 2) := by decide +kernel
theorem d_Mo_addTime_173 : decode b_Mo_addTime 173 = .ok (.iadd, 1) := by decide +kernel
theorem d_Mo_addTime_174 : decode b_Mo_addTime 174 = .ok (.iload 6, 2) := by decide +kernel
theorem d_Mo_addTime_176 : decode b_Mo_addTime 176 = .ok (.iastore, 1) := by decide +kernel
theorem d_Mo_addTime_177 : decode b_Mo_addTime 177 = .ok (.aload_n 0, 1) := by decide +kernel
theorem d_Mo_addTime_178 : decode b_Mo_addTime 178 = .ok (.getfield 66, 3) := by decide +kernel
theorem d_Mo_addTime_181 : decode b_Mo_addTime 181 = .ok (.bipush 40, 2) := by decide +kernel
theorem d_Mo_addTime_183 : decode b_Mo_addTime 183 = .ok (.iload 4, 2) := by decide +kernel
theorem d_Mo_addTime_185 : decode b_Mo_addTime 185 = .ok (.imul, 1) := by decide +kernel
theorem d_Mo_addTime_186 : decode b_Mo_addTime 186 = .ok (.iload 5, 2) := by decide +kernel
theorem d_Mo_addTime_188 : decode b_Mo_addTime 188 = .ok (.iadd, 1) := by decide +kernel
theorem d_Mo_addTime_189 : decode b_Mo_addTime 189 = .ok (.iconst 0, 1) := by decide +kernel
theorem d_Mo_addTime_190 : decode b_Mo_addTime 190 = .ok (.iastore, 1) := by decide +kernel
theorem d_Mo_addTime_191 : decode b_Mo_addTime 191 = .ok (.aload_n 0, 1) := by decide +kernel
theorem d_Mo_addTime_192 : decode b_Mo_addTime 192 = .ok (.getfield 69, 3) := by decide +kernel
theorem d_Mo_addTime_195 : decode b_Mo_addTime 195 = .ok (.bipush 40, 2) := by decide +kernel
theorem d_Mo_addTime_197 : decode b_Mo_addTime 197 = .ok (.iload 4, 2) := by decide +kernel
theorem d_Mo_addTime_199 : decode b_Mo_addTime 199 = .ok (.imul, 1) := by decide +kernel
theorem d_Mo_addTime_200 : decode b_Mo_addTime 200 = .ok (.iload 5, 2) := by decide +kernel
theorem d_Mo_addTime_202 : decode b_Mo_addTime 202 = .ok (.iadd, 1) := by decide +kernel
theorem d_Mo_addTime_203 : decode b_Mo_addTime 203 = .ok (.iconst 0, 1) := by decide +kernel
theorem d_Mo_addTime_204 : decode b_Mo_addTime 204 = .ok (.iastore, 1) := by decide +kernel
theorem d_Mo_addTime_205 : decode b_Mo_addTime 205 = .ok (.aload_n 0, 1) := by decide +kernel
theorem d_Mo_addTime_206 : decode b_Mo_addTime 206 = .ok (.getfield 32, 3) := by decide +kernel
theorem d_Mo_addTime_209 : decode b_Mo_addTime 209 = .ok (.iload 4, 2) := by decide +kernel
theorem d_Mo_addTime_211 : decode b_Mo_addTime 211 = .ok (.dup2, 1) := by decide +kernel
theorem d_Mo_addTime_212 : decode b_Mo_addTime 212 = .ok (.iaload, 1) := by decide +kernel
theorem d_Mo_addTime_213 : decode b_Mo_addTime 213 = .ok (.aload_n 0, 1) := by decide +kernel
theorem d_Mo_addTime_214 : decode b_Mo_addTime 214 = .ok (.getfield 32, 3) := by decide +kernel
theorem d_Mo_addTime_217 : decode b_Mo_addTime 217 = .ok (.iload 4, 2) := by decide +kernel
theorem d_Mo_addTime_219 : decode b_Mo_addTime 219 = .ok (.iaload, 1) := by decide +kernel
theorem d_Mo_addTime_220 : decode b_Mo_addTime 220 = .ok (.ifCond .le 7, 3) := by decide +kernel
theorem d_Mo_addTime_223 : decode b_Mo_addTime 223 = .ok (.iconst 1, 1) := by decide +kernel
theorem d_Mo_addTime_224 : decode b_Mo_addTime 224 = .ok (.goto 4, 3) := by decide +kernel
theorem d_Mo_addTime_227 : decode b_Mo_addTime 227 = .ok (.iconst 0, 1) := by decide +kernel
theorem d_Mo_addTime_228 : decode b_Mo_addTime 228 = .ok (.iadd, 1) := by decide +kernel
theorem d_Mo_addTime_229 : decode b_Mo_addTime 229 = .ok (.iastore, 1) := by decide +kernel
theorem d_Mo_addTime_230 : decode b_Mo_addTime 230 = .ok (.aload_n 0, 1) := by decide +kernel
theorem d_Mo_addTime_231 : decode b_Mo_addTime 231 = .ok (.getfield 35, 3) := by decide +kernel
theorem d_Mo_addTime_234 : decode b_Mo_addTime 234 = .ok (.iload 4, 2) := by decide +kernel
theorem d_Mo_addTime_236 : decode b_Mo_addTime 236 = .ok (.dup2, 1) := by decide +kernel
theorem d_Mo_addTime_237 : decode b_Mo_addTime 237 = .ok (.iaload, 1) := by decide +kernel
theorem d_Mo_addTime_238 : decode b_Mo_addTime 238 = .ok (.aload_n 0, 1) := by decide +kernel
theorem d_Mo_addTime_239 : decode b_Mo_addTime 239 = .ok (.getfield 35, 3) := by decide +kernel
theorem d_Mo_addTime_242 : decode b_Mo_addTime 242 = .ok (.iload 4, 2) := by decide +kernel
theorem d_Mo_addTime_244 : decode b_Mo_addTime 244 = .ok (.iaload, 1) := by decide +kernel
theorem d_Mo_addTime_245 : decode b_Mo_addTime 245 = .ok (.ifCond .le 7, 3) := by decide +kernel
theorem d_Mo_addTime_248 : decode b_Mo_addTime 248 = .ok (.iconst 1, 1) := by decide +kernel
theorem d_Mo_addTime_249 : decode b_Mo_addTime 249 = .ok (.goto 4, 3) := by decide +kernel
theorem d_Mo_addTime_252 : decode b_Mo_addTime 252 = .ok (.iconst 0, 1) := by decide +kernel
theorem d_Mo_addTime_253 : decode b_Mo_addTime 253 = .ok (.iadd, 1) := by decide +kernel
theorem d_Mo_addTime_254 : decode b_Mo_addTime 254 = .ok (.iastore, 1) := by decide +kernel
theorem d_Mo_addTime_255 : decode b_Mo_addTime 255 = .ok (.aload_n 0, 1) := by decide +kernel
theorem d_Mo_addTime_256 : decode b_Mo_addTime 256 = .ok (.getfield 41, 3) := by decide +kernel
theorem d_Mo_addTime_259 : decode b_Mo_addTime 259 = .ok (.sipush 200, 3) := by decide +kernel
theorem d_Mo_addTime_262 : decode b_Mo_addTime 262 = .ok (.iload 4, 2) := by decide +kernel
theorem d_Mo_addTime_264 : decode b_Mo_addTime 264 = .ok (.imul, 1) := by decide +kernel
theorem d_Mo_addTime_265 : decode b_Mo_addTime 265 = .ok (.aload_n 0, 1) := by decide +kernel
theorem d_Mo_addTime_266 : decode b_Mo_addTime 266 = .ok (.getfield 20, 3) := by decide +kernel
theorem d_Mo_addTime_269 : decode b_Mo_addTime 269 = .ok (.iload 4, 2) := by decide +kernel
theorem d_Mo_addTime_271 : decode b_Mo_addTime 271 = .ok (.iaload, 1) := by decide +kernel
theorem d_Mo_addTime_272 : decode b_Mo_addTime 272 = .ok (.iadd, 1) := by decide +kernel
theorem d_Mo_addTime_273 : decode b_Mo_addTime 273 = .ok (.lload_n 1, 1) := by decide +kernel
theorem d_Mo_addTime_274 : decode b_Mo_addTime 274 = .ok (.lastore, 1) := by decide +kernel
theorem d_Mo_addTime_275 : decode b_Mo_addTime 275 = .ok (.aload_n 0, 1) := by decide +kernel
theorem d_Mo_addTime_276 : decode b_Mo_addTime 276 = .ok (.getfield 45, 3) := by decide +kernel
theorem d_Mo_addTime_279 : decode b_Mo_addTime 279 = .ok (.sipush 200, 3) := by decide +kernel
theorem d_Mo_addTime_282 : decode b_Mo_addTime 282 = .ok (.iload 4, 2) := by decide +kernel
theorem d_Mo_addTime_284 : decode b_Mo_addTime 284 = .ok (.imul, 1) := by decide +kernel
theorem d_Mo_addTime_285 : decode b_Mo_addTime 285 = .ok (.aload_n 0, 1) := by decide +kernel
theorem d_Mo_addTime_286 : decode b_Mo_addTime 286 = .ok (.getfield 20, 3) := by decide +kernel
theorem d_Mo_addTime_289 : decode b_Mo_addTime 289 = .ok (.iload 4, 2) := by decide +kernel
theorem d_Mo_addTime_291 : decode b_Mo_addTime 291 = .ok (.iaload, 1) := by decide +kernel
theorem d_Mo_addTime_292 : decode b_Mo_addTime 292 = .ok (.iadd, 1) := by decide +kernel
theorem d_Mo_addTime_293 : decode b_Mo_addTime 293 = .ok (.iload 5, 2) := by decide +kernel
theorem d_Mo_addTime_295 : decode b_Mo_addTime 295 = .ok (.iastore, 1) := by decide +kernel
theorem d_Mo_addTime_296 : decode b_Mo_addTime 296 = .ok (.aload_n 0, 1) := by decide +kernel
theorem d_Mo_addTime_297 : decode b_Mo_addTime 297 = .ok (.getfield 20, 3) := by decide +kernel
theorem d_Mo_addTime_300 : decode b_Mo_addTime 300 = .ok (.iload 4, 2) := by decide +kernel
theorem d_Mo_addTime_302 : decode b_Mo_addTime 302 = .ok (.dup2, 1) := by decide +kernel
theorem d_Mo_addTime_303 : decode b_Mo_addTime 303 = .ok (.iaload, 1) := by decide +kernel
theorem d_Mo_addTime_304 : decode b_Mo_addTime 304 = .ok (.iconst 1, 1) := by decide +kernel
theorem d_Mo_addTime_305 : decode b_Mo_addTime 305 = .ok (.iadd, 1) := by decide +kernel
theorem d_Mo_addTime_306 : decode b_Mo_addTime 306 = .ok (.iastore, 1) := by decide +kernel
theorem d_Mo_addTime_307 : decode b_Mo_addTime 307 = .ok (.iconst 1, 1) := by decide +kernel
theorem d_Mo_addTime_308 : decode b_Mo_addTime 308 = .ok (.ireturn, 1) := by decide +kernel
abbrev b_Mo_stretch : ByteArray := prog_14_method_69_code
def y_Mo_stretch : MethodName := ⟨"ZoneFilesModel", "stretch", "(II)I"⟩
theorem d_Mo_stretch_0 : decode b_Mo_stretch 0 = .ok (.aload_n 0, 1) := by decide +kernel
theorem d_Mo_stretch_1 : decode b_Mo_stretch 1 = .ok (.aload_n 0, 1) := by decide +kernel
theorem d_Mo_stretch_2 : decode b_Mo_stretch 2 = .ok (.iload_n 1, 1) := by decide +kernel
theorem d_Mo_stretch_3 : decode b_Mo_stretch 3 = .ok (.invokevirtual 423, 3) := by decide +kernel
theorem d_Mo_stretch_6 : decode b_Mo_stretch 6 = .ok (.ifCond .eq 7, 3) := by decide +kernel
theorem d_Mo_stretch_9 : decode b_Mo_stretch 9 = .ok (.iconst 1, 1) := by decide +kernel
theorem d_Mo_stretch_10 : decode b_Mo_stretch 10 = .ok (.goto 36, 3) := by decide +kernel
theorem d_Mo_stretch_13 : decode b_Mo_stretch 13 = .ok (.iload_n 2, 1) := by decide +kernel
theorem d_Mo_stretch_14 : decode b_Mo_stretch 14 = .ok (.sipush 1970, 3) := by decide +kernel
theorem d_Mo_stretch_17 : decode b_Mo_stretch 17 = .ok (.if_icmp .lt 10, 3) := by decide +kernel
theorem d_Mo_stretch_20 : decode b_Mo_stretch 20 = .ok (.iload_n 2, 1) := by decide +kernel
theorem d_Mo_stretch_21 : decode b_Mo_stretch 21 = .ok (.sipush 2400, 3) := by decide +kernel
theorem d_Mo_stretch_24 : decode b_Mo_stretch 24 = .ok (.if_icmp .le 7, 3) := by decide +kernel
theorem d_Mo_stretch_27 : decode b_Mo_stretch 27 = .ok (.iconst 2, 1) := by decide +kernel
theorem d_Mo_stretch_28 : decode b_Mo_stretch 28 = .ok (.goto 18, 3) := by decide +kernel
theorem d_Mo_stretch_31 : decode b_Mo_stretch 31 = .ok (.aload_n 0, 1) := by decide +kernel
theorem d_Mo_stretch_32 : decode b_Mo_stretch 32 = .ok (.getfield 75, 3) := by decide +kernel
theorem d_Mo_stretch_35 : decode b_Mo_stretch 35 = .ok (.iload_n 1, 1) := by decide +kernel
theorem d_Mo_stretch_36 : decode b_Mo_stretch 36 = .ok (.iaload, 1) := by decide +kernel
theorem d_Mo_stretch_37 : decode b_Mo_stretch 37 = .ok (.iconst 2, 1) := by decide +kernel
theorem d_Mo_stretch_38 : decode b_Mo_stretch 38 = .ok (.if_icmp .ge 7, 3) := by decide +kernel
theorem d_Mo_stretch_41 : decode b_Mo_stretch 41 = .ok (.iconst 3, 1) := by decide +kernel
theorem d_Mo_stretch_42 : decode b_Mo_stretch 42 = .ok (.goto 4, 3) := by decide +kernel
theorem d_Mo_stretch_45 : decode b_Mo_stretch 45 = .ok (.iconst 0, 1) := by decide +kernel
theorem d_Mo_stretch_46 : decode b_Mo_stretch 46 = .ok (.putfield 150, 3) := by decide +kernel
theorem d_Mo_stretch_49 : decode b_Mo_stretch 49 = .ok (.aload_n 0, 1) := by decide +kernel
theorem d_Mo_stretch_50 : decode b_Mo_stretch 50 = .ok (.getfield 150, 3) := by decide +kernel
theorem d_Mo_stretch_53 : decode b_Mo_stretch 53 = .ok (.ifCond .le 5, 3) := by decide +kernel
theorem d_Mo_stretch_56 : decode b_Mo_stretch 56 = .ok (.iconst 0, 1) := by decide +kernel
theorem d_Mo_stretch_57 : decode b_Mo_stretch 57 = .ok (.ireturn, 1) := by decide +kernel
theorem d_Mo_stretch_58 : decode b_Mo_stretch 58 = .ok (.aload_n 0, 1) := by decide +kernel
theorem d_Mo_stretch_59 : decode b_Mo_stretch 59 = .ok (.iconst 4, 1) := by decide +kernel
theorem d_Mo_stretch_60 : decode b_Mo_stretch 60 = .ok (.iload_n 1, 1) := by decide +kernel
theorem d_Mo_stretch_61 : decode b_Mo_stretch 61 = .ok (.invokevirtual 146, 3) := by decide +kernel
theorem d_Mo_stretch_64 : decode b_Mo_stretch 64 = .ok (.iconst 4, 1) := by decide +kernel
theorem d_Mo_stretch_65 : decode b_Mo_stretch 65 = .ok (.istore_n 3, 1) := by decide +kernel
theorem d_Mo_stretch_66 : decode b_Mo_stretch 66 = .ok (.iload_n 2, 1) := by decide +kernel
theorem d_Mo_stretch_67 : decode b_Mo_stretch 67 = .ok (.i2l, 1) := by decide +kernel
theorem d_Mo_stretch_68 : decode b_Mo_stretch 68 = .ok (.lconst 1, 1) := by decide +kernel
theorem d_Mo_stretch_69 : decode b_Mo_stretch 69 = .ok (.ladd, 1) := by decide +kernel
theorem d_Mo_stretch_70 : decode b_Mo_stretch 70 = .ok (.iconst 1, 1) := by decide +kernel
theorem d_Mo_stretch_71 : decode b_Mo_stretch 71 = .ok (.iconst 1, 1) := by decide +kernel
theorem d_Mo_stretch_72 : decode b_Mo_stretch 72 = .ok (.invokestatic 349, 3) := by decide +kernel
theorem d_Mo_stretch_75 : decode b_Mo_stretch 75 = .ok (.ldc2_w 335, 3) := by decide +kernel
theorem d_Mo_stretch_78 : decode b_Mo_stretch 78 = .ok (.lmul, 1) := by decide +kernel
theorem d_Mo_stretch_79 : decode b_Mo_stretch 79 = .ok (.lstore 4, 2) := by decide +kernel
theorem d_Mo_stretch_81 : decode b_Mo_stretch 81 = .ok (.aload_n 0, 1) := by decide +kernel
theorem d_Mo_stretch_82 : decode b_Mo_stretch 82 = .ok (.getfield 20, 3) := by decide +kernel
theorem d_Mo_stretch_85 : decode b_Mo_stretch 85 = .ok (.iload_n 3, 1) := by decide +kernel
theorem d_Mo_stretch_86 : decode b_Mo_stretch 86 = .ok (.iaload, 1) := by decide +kernel
theorem d_Mo_stretch_87 : decode b_Mo_stretch 87 = .ok (.ifCond .ne 9, 3) := by decide +kernel
theorem d_Mo_stretch_90 : decode b_Mo_stretch 90 = .ok (.ldc2_w 267, 3) := by decide +kernel
theorem d_Mo_stretch_93 : decode b_Mo_stretch 93 = .ok (.goto 22, 3) := by decide +kernel
theorem d_Mo_stretch_96 : decode b_Mo_stretch 96 = .ok (.aload_n 0, 1) := by decide +kernel
theorem d_Mo_stretch_97 : decode b_Mo_stretch 97 = .ok (.getfield 41, 3) := by decide +kernel
theorem d_Mo_stretch_100 : decode b_Mo_stretch 100 = .ok (.sipush 200, 3) := by decide +kernel
theorem d_Mo_stretch_103 : decode b_Mo_stretch 103 = .ok (.iload_n 3, 1) := by decide +kernel
theorem d_Mo_stretch_104 : decode b_Mo_stretch 104 = .ok (.imul, 1) := by decide +kernel
theorem d_Mo_stretch_105 : decode b_Mo_stretch 105 = .ok (.aload_n 0, 1) := by decide +kernel
theorem d_Mo_stretch_106 : decode b_Mo_stretch 106 = .ok (.getfield 20, 3) := by decide +kernel
theorem d_Mo_stretch_109 : decode b_Mo_stretch 109 = .ok (.iload_n 3, 1) := by decide +kernel
theorem d_Mo_stretch_110 : decode b_Mo_stretch 110 = .ok (.iaload, 1) := by decide +kernel
theorem d_Mo_stretch_111 : decode b_Mo_stretch 111 = .ok (.iadd, 1) := by decide +kernel
theorem d_Mo_stretch_112 : decode b_Mo_stretch 112 = .ok (.iconst 1, 1) := by decide +kernel
theorem d_Mo_stretch_113 : decode b_Mo_stretch 113 = .ok (.isub, 1) := by decide +kernel
theorem d_Mo_stretch_114 : decode b_Mo_stretch 114 = .ok (.laload, 1) := by decide +kernel
theorem d_Mo_stretch_115 : decode b_Mo_stretch 115 = .ok (.lstore 6, 2) := by decide +kernel
theorem d_Mo_stretch_117 : decode b_Mo_stretch 117 = .ok (.lload 6, 2) := by decide +kernel
theorem d_Mo_stretch_119 : decode b_Mo_stretch 119 = .ok (.ldc2_w 331, 3) := by decide +kernel
theorem d_Mo_stretch_122 : decode b_Mo_stretch 122 = .ok (.lcmp, 1) := by decide +kernel
theorem d_Mo_stretch_123 : decode b_Mo_stretch 123 = .ok (.ifCond .gt 7, 3) := by decide +kernel
theorem d_Mo_stretch_126 : decode b_Mo_stretch 126 = .ok (.ldc_w 429, 3) := by decide +kernel
theorem d_Mo_stretch_129 : decode b_Mo_stretch 129 = .ok (.ireturn, 1) := by decide +kernel
theorem d_Mo_stretch_130 : decode b_Mo_stretch 130 = .ok (.lload 6, 2) := by decide +kernel
theorem d_Mo_stretch_132 : decode b_Mo_stretch 132 = .ok (.ldc2_w 333, 3) := by decide +kernel
theorem d_Mo_stretch_135 : decode b_Mo_stretch 135 = .ok (.lcmp, 1) := by decide +kernel
theorem d_Mo_stretch_136 : decode b_Mo_stretch 136 = .ok (.ifCond .ge 7, 3) := by decide +kernel
theorem d_Mo_stretch_139 : decode b_Mo_stretch 139 = .ok (.iconst 1, 1) := by decide +kernel
theorem d_Mo_stretch_140 : decode b_Mo_stretch 140 = .ok (.goto 4, 3) := by decide +kernel
theorem d_Mo_stretch_143 : decode b_Mo_stretch 143 = .ok (.iconst 0, 1) := by decide +kernel
theorem d_Mo_stretch_144 : decode b_Mo_stretch 144 = .ok (.istore 8, 2) := by decide +kernel
theorem d_Mo_stretch_146 : decode b_Mo_stretch 146 = .ok (.iload 8, 2) := by decide +kernel
theorem d_Mo_stretch_148 : decode b_Mo_stretch 148 = .ok (.ifCond .eq 122, 3) := by decide +kernel
theorem d_Mo_stretch_151 : decode b_Mo_stretch 151 = .ok (.aload_n 0, 1) := by decide +kernel
theorem d_Mo_stretch_152 : decode b_Mo_stretch 152 = .ok (.iload_n 3, 1) := by decide +kernel
theorem d_Mo_stretch_153 : decode b_Mo_stretch 153 = .ok (.lload 6, 2) := by decide +kernel
theorem d_Mo_stretch_155 : decode b_Mo_stretch 155 = .ok (.invokevirtual 444, 3) := by decide +kernel
theorem d_Mo_stretch_158 : decode b_Mo_stretch 158 = .ok (.lstore 6, 2) := by decide +kernel
theorem d_Mo_stretch_160 : decode b_Mo_stretch 160 = .ok (.lload 6, 2) := by decide +kernel
theorem d_Mo_stretch_162 : decode b_Mo_stretch 162 = .ok (.lload 4, 2) := by decide +kernel
theorem d_Mo_stretch_164 : decode b_Mo_stretch 164 = .ok (.lcmp, 1) := by decide +kernel
theorem d_Mo_stretch_165 : decode b_Mo_stretch 165 = .ok (.ifCond .ge 7, 3) := by decide +kernel
theorem d_Mo_stretch_168 : decode b_Mo_stretch 168 = .ok (.iconst 1, 1) := by decide +kernel
theorem d_Mo_stretch_169 : decode b_Mo_stretch 169 = .ok (.goto 4, 3) := by decide +kernel
theorem d_Mo_stretch_172 : decode b_Mo_stretch 172 = .ok (.iconst 0, 1) := by decide +kernel
theorem d_Mo_stretch_173 : decode b_Mo_stretch 173 = .ok (.istore 8, 2) := by decide +kernel
theorem d_Mo_stretch_175 : decode b_Mo_stretch 175 = .ok (.iload 8, 2) := by decide +kernel
theorem d_Mo_stretch_177 : decode b_Mo_stretch 177 = .ok (.ifCond .eq (-31), 3) := by decide +kernel
theorem d_Mo_stretch_180 : decode b_Mo_stretch 180 = .ok (.aload_n 0, 1) := by decide +kernel
theorem d_Mo_stretch_181 : decode b_Mo_stretch 181 = .ok (.lload 6, 2) := by decide +kernel
theorem d_Mo_stretch_183 : decode b_Mo_stretch 183 = .ok (.invokevirtual 366, 3) := by decide +kernel
theorem d_Mo_stretch_186 : decode b_Mo_stretch 186 = .ok (.lstore 9, 2) := by decide +kernel
theorem d_Mo_stretch_188 : decode b_Mo_stretch 188 = .ok (.iconst 0, 1) := by decide +kernel
theorem d_Mo_stretch_189 : decode b_Mo_stretch 189 = .ok (.istore 11, 2) := by decide +kernel
theorem d_Mo_stretch_191 : decode b_Mo_stretch 191 = .ok (.lload 9, 2) := by decide +kernel
theorem d_Mo_stretch_193 : decode b_Mo_stretch 193 = .ok (.ldc2_w 305, 3) := by decide +kernel
theorem d_Mo_stretch_196 : decode b_Mo_stretch 196 = .ok (.lsub, 1) := by decide +kernel
theorem d_Mo_stretch_197 : decode b_Mo_stretch 197 = .ok (.lstore 12, 2) := by decide +kernel
theorem d_Mo_stretch_199 : decode b_Mo_stretch 199 = .ok (.lload 12, 2) := by decide +kernel
theorem d_Mo_stretch_201 : decode b_Mo_stretch 201 = .ok (.lload 9, 2) := by decide +kernel
theorem d_Mo_stretch_203 : decode b_Mo_stretch 203 = .ok (.ldc2_w 305, 3) := by decide +kernel
theorem d_Mo_stretch_206 : decode b_Mo_stretch 206 = .ok (.ladd, 1) := by decide +kernel
theorem d_Mo_stretch_207 : decode b_Mo_stretch 207 = .ok (.lcmp, 1) := by decide +kernel
theorem d_Mo_stretch_208 : decode b_Mo_stretch 208 = .ok (.ifCond .gt 36, 3) := by decide +kernel
theorem d_Mo_stretch_211 : decode b_Mo_stretch 211 = .ok (.iload 11, 2) := by decide +kernel
theorem d_Mo_stretch_213 : decode b_Mo_stretch 213 = .ok (.aload_n 0, 1) := by decide +kernel
theorem d_Mo_stretch_214 : decode b_Mo_stretch 214 = .ok (.iload_n 3, 1) := by decide +kernel
theorem d_Mo_stretch_215 : decode b_Mo_stretch 215 = .ok (.lload 12, 2) := by decide +kernel
theorem d_Mo_stretch_217 : decode b_Mo_stretch 217 = .ok (.iconst 0, 1) := by decide +kernel
theorem d_Mo_stretch_218 : decode b_Mo_stretch 218 = .ok (.invokevirtual 372, 3) := by decide +kernel
theorem d_Mo_stretch_221 : decode b_Mo_stretch 221 = .ok (.lload 6, 2) := by decide +kernel
theorem d_Mo_stretch_223 : decode b_Mo_stretch 223 = .ok (.lcmp, 1) := by decide +kernel
theorem d_Mo_stretch_224 : decode b_Mo_stretch 224 = .ok (.ifCond .ne 7, 3) := by decide +kernel
theorem d_Mo_stretch_227 : decode b_Mo_stretch 227 = .ok (.iconst 1, 1) := by decide +kernel
theorem d_Mo_stretch_228 : decode b_Mo_stretch 228 = .ok (.goto 4, 3) := by decide +kernel
theorem d_Mo_stretch_231 : decode b_Mo_stretch 231 = .ok (.iconst 0, 1) := by decide +kernel
theorem d_Mo_stretch_232 : decode b_Mo_stretch 232 = .ok (.ior, 1) := by decide +kernel
theorem d_Mo_stretch_233 : decode b_Mo_stretch 233 = .ok (.istore 11, 2) := by decide +kernel
theorem d_Mo_stretch_235 : decode b_Mo_stretch 235 = .ok (.lload 12, 2) := by decide +kernel
theorem d_Mo_stretch_237 : decode b_Mo_stretch 237 = .ok (.lconst 1, 1) := by decide +kernel
theorem d_Mo_stretch_238 : decode b_Mo_stretch 238 = .ok (.ladd, 1) := by decide +kernel
theorem d_Mo_stretch_239 : decode b_Mo_stretch 239 = .ok (.lstore 12, 2) := by decide +kernel
theorem d_Mo_stretch_241 : decode b_Mo_stretch 241 = .ok (.goto (-42), 3) := by decide +kernel
theorem d_Mo_stretch_244 : decode b_Mo_stretch 244 = .ok (.aload_n 0, 1) := by decide +kernel
theorem d_Mo_stretch_245 : decode b_Mo_stretch 245 = .ok (.lload 6, 2) := by decide +kernel
theorem d_Mo_stretch_247 : decode b_Mo_stretch 247 = .ok (.iload 11, 2) := by decide +kernel
theorem d_Mo_stretch_249 : decode b_Mo_stretch 249 = .ok (.ifCond .eq 7, 3) := by decide +kernel
theorem d_Mo_stretch_252 : decode b_Mo_stretch 252 = .ok (.iconst 1, 1) := by decide +kernel
theorem d_Mo_stretch_253 : decode b_Mo_stretch 253 = .ok (.goto 4, 3) := by decide +kernel
theorem d_Mo_stretch_256 : decode b_Mo_stretch 256 = .ok (.iconst 0, 1) := by decide +kernel
theorem d_Mo_stretch_257 : decode b_Mo_stretch 257 = .ok (.invokevirtual 456, 3) := by decide +kernel
theorem d_Mo_stretch_260 : decode b_Mo_stretch 260 = .ok (.ifCond .ne 7, 3) := by decide +kernel
theorem d_Mo_stretch_263 : decode b_Mo_stretch 263 = .ok (.ldc_w 429, 3) := by decide +kernel
theorem d_Mo_stretch_266 : decode b_Mo_stretch 266 = .ok (.ireturn, 1) := by decide +kernel
theorem d_Mo_stretch_267 : decode b_Mo_stretch 267 = .ok (.goto (-121), 3) := by decide +kernel
theorem d_Mo_stretch_270 : decode b_Mo_stretch 270 = .ok (.aload_n 0, 1) := by decide +kernel
theorem d_Mo_stretch_271 : decode b_Mo_stretch 271 = .ok (.iload_n 1, 1) := by decide +kernel
theorem d_Mo_stretch_272 : decode b_Mo_stretch 272 = .ok (.iconst 4, 1) := by decide +kernel
theorem d_Mo_stretch_273 : decode b_Mo_stretch 273 = .ok (.invokevirtual 146, 3) := by decide +kernel
theorem d_Mo_stretch_276 : decode b_Mo_stretch 276 = .ok (.aload_n 0, 1) := by decide +kernel
theorem d_Mo_stretch_277 : decode b_Mo_stretch 277 = .ok (.getfield 20, 3) := by decide +kernel
theorem d_Mo_stretch_280 : decode b_Mo_stretch 280 = .ok (.iload_n 1, 1) := by decide +kernel
theorem d_Mo_stretch_281 : decode b_Mo_stretch 281 = .ok (.iaload, 1) := by decide +kernel
theorem d_Mo_stretch_282 : decode b_Mo_stretch 282 = .ok (.ireturn, 1) := by decide +kernel
abbrev b_Mo_putNumber : ByteArray := prog_14_method_70_code
def y_Mo_putNumber : MethodName := ⟨"ZoneFilesModel", "putNumber", "(JI)V"⟩
theorem d_Mo_putNumber_0 : decode b_Mo_putNumber 0 = .ok (.iload_n 3, 1) := by decide +kernel
theorem d_Mo_putNumber_1 : decode b_Mo_putNumber 1 = .ok (.iconst 1, 1) := by decide +kernel
theorem d_Mo_putNumber_2 : decode b_Mo_putNumber 2 = .ok (.isub, 1) := by decide +kernel
theorem d_Mo_putNumber_3 : decode b_Mo_putNumber 3 = .ok (.istore 4, 2) := by decide +kernel
theorem d_Mo_putNumber_5 : decode b_Mo_putNumber 5 = .ok (.iload 4, 2) := by decide +kernel
theorem d_Mo_putNumber_7 : decode b_Mo_putNumber 7 = .ok (.ifCond .lt 40, 3) := by decide +kernel
theorem d_Mo_putNumber_10 : decode b_Mo_putNumber 10 = .ok (.aload_n 0, 1) := by decide +kernel
theorem d_Mo_putNumber_11 : decode b_Mo_putNumber 11 = .ok (.getfield 117, 3) := by decide +kernel
theorem d_Mo_putNumber_14 : decode b_Mo_putNumber 14 = .ok (.aload_n 0, 1) := by decide +kernel
theorem d_Mo_putNumber_15 : decode b_Mo_putNumber 15 = .ok (.getfield 460, 3) := by decide +kernel
theorem d_Mo_putNumber_18 : decode b_Mo_putNumber 18 = .ok (.lload_n 1, 1) := by decide +kernel
theorem d_Mo_putNumber_19 : decode b_Mo_putNumber 19 = .ok (.bipush 8, 2) := by decide +kernel
theorem d_Mo_putNumber_21 : decode b_Mo_putNumber 21 = .ok (.iload 4, 2) := by decide +kernel
theorem d_Mo_putNumber_23 : decode b_Mo_putNumber 23 = .ok (.imul, 1) := by decide +kernel
theorem d_Mo_putNumber_24 : decode b_Mo_putNumber 24 = .ok (.lshr, 1) := by decide +kernel
theorem d_Mo_putNumber_25 : decode b_Mo_putNumber 25 = .ok (.ldc2_w 153, 3) := by decide +kernel
theorem d_Mo_putNumber_28 : decode b_Mo_putNumber 28 = .ok (.land, 1) := by decide +kernel
theorem d_Mo_putNumber_29 : decode b_Mo_putNumber 29 = .ok (.l2i, 1) := by decide +kernel
theorem d_Mo_putNumber_30 : decode b_Mo_putNumber 30 = .ok (.iastore, 1) := by decide +kernel
theorem d_Mo_putNumber_31 : decode b_Mo_putNumber 31 = .ok (.aload_n 0, 1) := by decide +kernel
theorem d_Mo_putNumber_32 : decode b_Mo_putNumber 32 = .ok (.dup, 1) := by decide +kernel
theorem d_Mo_putNumber_33 : decode b_Mo_putNumber 33 = .ok (.getfield 460, 3) := by decide +kernel
theorem d_Mo_putNumber_36 : decode b_Mo_putNumber 36 = .ok (.iconst 1, 1) := by decide +kernel
theorem d_Mo_putNumber_37 : decode b_Mo_putNumber 37 = .ok (.iadd, 1) := by decide +kernel
theorem d_Mo_putNumber_38 : decode b_Mo_putNumber 38 = .ok (.putfield 460, 3) := by decide +kernel
theorem d_Mo_putNumber_41 : decode b_Mo_putNumber 41 = .ok (.iinc 4 (-1), 3) := by decide +kernel
theorem d_Mo_putNumber_44 : decode b_Mo_putNumber 44 = .ok (.goto (-39), 3) := by decide +kernel
theorem d_Mo_putNumber_47 : decode b_Mo_putNumber 47 = .ok (.return_, 1) := by decide +kernel
abbrev b_Mo_putHeader : ByteArray := prog_14_method_71_code
def y_Mo_putHeader : MethodName := ⟨"ZoneFilesModel", "putHeader", "(IIIIIII)V"⟩
theorem d_Mo_putHeader_0 : decode b_Mo_putHeader 0 = .ok (.iconst 0, 1) := by decide +kernel
theorem d_Mo_putHeader_1 : decode b_Mo_putHeader 1 = .ok (.istore 8, 2) := by decide +kernel
theorem d_Mo_putHeader_3 : decode b_Mo_putHeader 3 = .ok (.iload 8, 2) := by decide +kernel
theorem d_Mo_putHeader_5 : decode b_Mo_putHeader 5 = .ok (.iconst 4, 1) := by decide +kernel
theorem d_Mo_putHeader_6 : decode b_Mo_putHeader 6 = .ok (.if_icmp .ge 20, 3) := by decide +kernel
theorem d_Mo_putHeader_9 : decode b_Mo_putHeader 9 = .ok (.aload_n 0, 1) := by decide +kernel
theorem d_Mo_putHeader_10 : decode b_Mo_putHeader 10 = .ok (.iload 8, 2) := by decide +kernel
theorem d_Mo_putHeader_12 : decode b_Mo_putHeader 12 = .ok (.invokestatic 213, 3) := by decide +kernel
theorem d_Mo_putHeader_15 : decode b_Mo_putHeader 15 = .ok (.i2l, 1) := by decide +kernel
theorem d_Mo_putHeader_16 : decode b_Mo_putHeader 16 = .ok (.iconst 1, 1) := by decide +kernel
theorem d_Mo_putHeader_17 : decode b_Mo_putHeader 17 = .ok (.invokevirtual 463, 3) := by decide +kernel
theorem d_Mo_putHeader_20 : decode b_Mo_putHeader 20 = .ok (.iinc 8 1, 3) := by decide +kernel
theorem d_Mo_putHeader_23 : decode b_Mo_putHeader 23 = .ok (.goto (-20), 3) := by decide +kernel
theorem d_Mo_putHeader_26 : decode b_Mo_putHeader 26 = .ok (.aload_n 0, 1) := by decide +kernel
theorem d_Mo_putHeader_27 : decode b_Mo_putHeader 27 = .ok (.iload_n 1, 1) := by decide +kernel
theorem d_Mo_putHeader_28 : decode b_Mo_putHeader 28 = .ok (.i2l, 1) := by decide +kernel
theorem d_Mo_putHeader_29 : decode b_Mo_putHeader 29 = .ok (.iconst 1, 1) := by decide +kernel
theorem d_Mo_putHeader_30 : decode b_Mo_putHeader 30 = .ok (.invokevirtual 463, 3) := by decide +kernel
theorem d_Mo_putHeader_33 : decode b_Mo_putHeader 33 = .ok (.aload_n 0, 1) := by decide +kernel
theorem d_Mo_putHeader_34 : decode b_Mo_putHeader 34 = .ok (.lconst 0, 1) := by decide +kernel
theorem d_Mo_putHeader_35 : decode b_Mo_putHeader 35 = .ok (.bipush 8, 2) := by decide +kernel
theorem d_Mo_putHeader_37 : decode b_Mo_putHeader 37 = .ok (.invokevirtual 463, 3) := by decide +kernel
theorem d_Mo_putHeader_40 : decode b_Mo_putHeader 40 = .ok (.aload_n 0, 1) := by decide +kernel
theorem d_Mo_putHeader_41 : decode b_Mo_putHeader 41 = .ok (.lconst 0, 1) := by decide +kernel
theorem d_Mo_putHeader_42 : decode b_Mo_putHeader 42 = .ok (.bipush 7, 2) := by decide +kernel
theorem d_Mo_putHeader_44 : decode b_Mo_putHeader 44 = .ok (.invokevirtual 463, 3) := by decide +kernel
theorem d_Mo_putHeader_47 : decode b_Mo_putHeader 47 = .ok (.aload_n 0, 1) := by decide +kernel
theorem d_Mo_putHeader_48 : decode b_Mo_putHeader 48 = .ok (.iload_n 2, 1) := by decide +kernel
theorem d_Mo_putHeader_49 : decode b_Mo_putHeader 49 = .ok (.i2l, 1) := by decide +kernel
theorem d_Mo_putHeader_50 : decode b_Mo_putHeader 50 = .ok (.iconst 4, 1) := by decide +kernel
theorem d_Mo_putHeader_51 : decode b_Mo_putHeader 51 = .ok (.invokevirtual 463, 3) := by decide +kernel
theorem d_Mo_putHeader_54 : decode b_Mo_putHeader 54 = .ok (.aload_n 0, 1) := by decide +kernel
theorem d_Mo_putHeader_55 : decode b_Mo_putHeader 55 = .ok (.iload_n 3, 1) := by decide +kernel
theorem d_Mo_putHeader_56 : decode b_Mo_putHeader 56 = .ok (.i2l, 1) := by decide +kernel
theorem d_Mo_putHeader_57 : decode b_Mo_putHeader 57 = .ok (.iconst 4, 1) := by decide +kernel
theorem d_Mo_putHeader_58 : decode b_Mo_putHeader 58 = .ok (.invokevirtual 463, 3) := by decide +kernel
theorem d_Mo_putHeader_61 : decode b_Mo_putHeader 61 = .ok (.aload_n 0, 1) := by decide +kernel
theorem d_Mo_putHeader_62 : decode b_Mo_putHeader 62 = .ok (.iload 4, 2) := by decide +kernel
theorem d_Mo_putHeader_64 : decode b_Mo_putHeader 64 = .ok (.i2l, 1) := by decide +kernel
theorem d_Mo_putHeader_65 : decode b_Mo_putHeader 65 = .ok (.iconst 4, 1) := by decide +kernel
theorem d_Mo_putHeader_66 : decode b_Mo_putHeader 66 = .ok (.invokevirtual 463, 3) := by decide +kernel
theorem d_Mo_putHeader_69 : decode b_Mo_putHeader 69 = .ok (.aload_n 0, 1) := by decide +kernel
theorem d_Mo_putHeader_70 : decode b_Mo_putHeader 70 = .ok (.iload 5, 2) := by decide +kernel
theorem d_Mo_putHeader_72 : decode b_Mo_putHeader 72 = .ok (.i2l, 1) := by decide +kernel
theorem d_Mo_putHeader_73 : decode b_Mo_putHeader 73 = .ok (.iconst 4, 1) := by decide +kernel
theorem d_Mo_putHeader_74 : decode b_Mo_putHeader 74 = .ok (.invokevirtual 463, 3) := by decide +kernel
theorem d_Mo_putHeader_77 : decode b_Mo_putHeader 77 = .ok (.aload_n 0, 1) := by decide +kernel
theorem d_Mo_putHeader_78 : decode b_Mo_putHeader 78 = .ok (.iload 6, 2) := by decide +kernel
theorem d_Mo_putHeader_80 : decode b_Mo_putHeader 80 = .ok (.i2l, 1) := by decide +kernel
theorem d_Mo_putHeader_81 : decode b_Mo_putHeader 81 = .ok (.iconst 4, 1) := by decide +kernel
theorem d_Mo_putHeader_82 : decode b_Mo_putHeader 82 = .ok (.invokevirtual 463, 3) := by decide +kernel
theorem d_Mo_putHeader_85 : decode b_Mo_putHeader 85 = .ok (.aload_n 0, 1) := by decide +kernel
theorem d_Mo_putHeader_86 : decode b_Mo_putHeader 86 = .ok (.iload 7, 2) := by decide +kernel
theorem d_Mo_putHeader_88 : decode b_Mo_putHeader 88 = .ok (.i2l, 1) := by decide +kernel
theorem d_Mo_putHeader_89 : decode b_Mo_putHeader 89 = .ok (.iconst 4, 1) := by decide +kernel
theorem d_Mo_putHeader_90 : decode b_Mo_putHeader 90 = .ok (.invokevirtual 463, 3) := by decide +kernel
theorem d_Mo_putHeader_93 : decode b_Mo_putHeader 93 = .ok (.return_, 1) := by decide +kernel
-- ZoneFilesModel.tryOffset(IJJ)V
def f_Mo_tryOffset_63 (nf : Nat) (si : Nat → Int32) (sj : Nat → Int64) (sa : Nat → Nat → Int32) (sb : Nat → Nat → Int64) : Option ((Nat → Int32) × (Nat → Int64) × (Nat → Nat → Int32) × (Nat → Nat → Int64)) :=
  some (si, sj, sa, sb)
def f_Mo_tryOffset_90 (nf : Nat) (si : Nat → Int32) (sj : Nat → Int64) (sa : Nat → Nat → Int32) (sb : Nat → Nat → Int64) : Option ((Nat → Int32) × (Nat → Int64) × (Nat → Nat → Int32) × (Nat → Nat → Int64)) :=
  some (si, sj, sa, sb)
def f_Mo_tryOffset_139 (nf : Nat) (x9 : Int32) (x6 : Int64) (si : Nat → Int32) (sj : Nat → Int64) (sa : Nat → Nat → Int32) (sb : Nat → Nat → Int64) : Option ((Nat → Int32) × (Nat → Int64) × (Nat → Nat → Int32) × (Nat → Nat → Int64)) :=
  if x9 < 0 ∨ 64 ≤ x9.toNatClampNeg then none else
  some (va_up si 55 ((si 55) + 1), sj, sa, va_up sb 54 (vp_updL (sb 54) x9.toNatClampNeg x6))
def f_Mo_tryOffset_97 (nf : Nat) : Nat → Int32 → Int64 → (Nat → Int32) → (Nat → Int64) → (Nat → Nat → Int32) → (Nat → Nat → Int64) → Option ((Nat → Int32) × (Nat → Int64) × (Nat → Nat → Int32) × (Nat → Nat → Int64))
  | 0, _, _, _, _, _, _ => none
  | n + 1, x9, x6, si, sj, sa, sb =>
    if x9 ≤ 0 then
    f_Mo_tryOffset_139 nf x9 x6 si sj sa sb
    else
    if (x9 - 1) < 0 ∨ 64 ≤ (x9 - 1).toNatClampNeg then none else
      if (sb 54 (x9 - 1).toNatClampNeg) ≤ x6 then
      f_Mo_tryOffset_139 nf x9 x6 si sj sa sb
      else
      if (x9 - 1) < 0 ∨ 64 ≤ (x9 - 1).toNatClampNeg then none else
        if x9 < 0 ∨ 64 ≤ x9.toNatClampNeg then none else
        f_Mo_tryOffset_97 nf n (x9 + (-1)) x6 si sj sa (va_up sb 54 (vp_updL (sb 54) x9.toNatClampNeg (sb 54 (x9 - 1).toNatClampNeg)))
def f_Mo_tryOffset_41 (nf : Nat) (K12 : Int32 → Int32 → Int64 → Int32 → Int64 → (Nat → Int32) → (Nat → Int64) → (Nat → Nat → Int32) → (Nat → Nat → Int64) → Option ((Nat → Int32) × (Nat → Int64) × (Nat → Nat → Int32) × (Nat → Nat → Int64))) (x9 : Int32) (x6 : Int64) (x1 : Int32) (x4 : Int64) (s0 : Int32) (s1 : Int32) (si : Nat → Int32) (sj : Nat → Int64) (sa : Nat → Nat → Int32) (sb : Nat → Nat → Int64) : Option ((Nat → Int32) × (Nat → Int64) × (Nat → Nat → Int32) × (Nat → Nat → Int64)) :=
  K12 (x9 + 1) (s1 ||| s0) x6 x1 x4 si sj sa sb
def f_Mo_tryOffset_12 (nf : Nat) : Nat → Int32 → Int32 → Int64 → Int32 → Int64 → (Nat → Int32) → (Nat → Int64) → (Nat → Nat → Int32) → (Nat → Nat → Int64) → Option ((Nat → Int32) × (Nat → Int64) × (Nat → Nat → Int32) × (Nat → Nat → Int64))
  | 0, _, _, _, _, _, _, _, _, _ => none
  | n + 1, x9, x8, x6, x1, x4, si, sj, sa, sb =>
    if (si 55) ≤ x9 then
    if x8 = 0 then
      (f_Mo_isInstant nf x6).bind fun r_3 =>
        if r_3 = 0 then
        f_Mo_tryOffset_63 nf si sj sa sb
        else
        (f_Mo_state nf x1 x6 si sj sa sb).bind fun (i_5, j_6, a_7, b_8) =>
          if (i_5 43) = (2 : Int32) then
          f_Mo_tryOffset_90 nf i_5 j_6 a_7 b_8
          else
          if ((i_5 45).toInt64) = x4 then
            f_Mo_tryOffset_97 nf nf (i_5 55) x6 i_5 j_6 a_7 b_8
            else
            f_Mo_tryOffset_90 nf i_5 j_6 a_7 b_8
      else
      f_Mo_tryOffset_63 nf si sj sa sb
    else
    if x9 < 0 ∨ 64 ≤ x9.toNatClampNeg then none else
      if (sb 54 x9.toNatClampNeg) = x6 then
      f_Mo_tryOffset_41 nf (f_Mo_tryOffset_12 nf n) x9 x6 x1 x4 1 x8 si sj sa sb
      else
      f_Mo_tryOffset_41 nf (f_Mo_tryOffset_12 nf n) x9 x6 x1 x4 0 x8 si sj sa sb
def f_Mo_tryOffset_0 (nf : Nat) (x1 : Int32) (x2 : Int64) (x4 : Int64) (si : Nat → Int32) (sj : Nat → Int64) (sa : Nat → Nat → Int32) (sb : Nat → Nat → Int64) : Option ((Nat → Int32) × (Nat → Int64) × (Nat → Nat → Int32) × (Nat → Nat → Int64)) :=
  f_Mo_tryOffset_12 nf nf 0 0 (x2 - x4) x1 x4 si sj sa sb
def f_Mo_tryOffset (nf : Nat) (p0 : Int32) (p1 : Int64) (p2 : Int64) (si : Nat → Int32) (sj : Nat → Int64) (sa : Nat → Nat → Int32) (sb : Nat → Nat → Int64) : Option ((Nat → Int32) × (Nat → Int64) × (Nat → Nat → Int32) × (Nat → Nat → Int64)) :=
  f_Mo_tryOffset_0 nf p0 p1 p2 si sj sa sb
section
variable {p : Program} {l : Launch} {e : Env} {R : Room} {s : State} {m : MethodId} {args : Array Value} {below : List Frame} {meth : Method} {c : Code} {Q : State → Prop} {dC : Nat → ClassId} {dI : Nat → Nat → Nat} {nf : Nat} {A : Nat → Prop} {h0 : Nat} {r : Nat → Nat} {cA : Nat → ClassId}
variable {vi : Nat → Int32} {vj : Nat → Int64} {va : Nat → Nat → Int32} {vb : Nat → Nat → Int64}
set_option maxHeartbeats 400000 in
set_option maxRecDepth 100000 in
theorem k_Mo_tryOffset_63 (C0 : Cx p s m meth c args R b_Mo_tryOffset "ZoneFilesModel" 10 none 8 204) (hST : ST A s s.heap) (hA : ∀ q, s.heap.size ≤ q → A q) (hK : va_K (dC, dI) classes (moT cA) s) (hE : ∀ (pc : Nat) (ls : Array Slot) (H : Heap) (locs : List Loc), decode b_Mo_tryOffset pc = .ok (.return_, 1) → va_P (dC, dI) classes (moW h0 r cA vi vj va vb) H → va_D A (moW h0 r cA vi vj va vb) → va_S A s.heap H locs → W p l e R s m args below meth c H locs 0 0 Q (F0 m pc ls [])) {si : Nat → Int32} {sj : Nat → Int64} {sa : Nat → Nat → Int32} {sb : Nat → Nat → Int64} (hf : f_Mo_tryOffset_63 nf si sj sa sb = some (vi, vj, va, vb)) {H : Heap} {locs : List Loc} {ls : Array Slot} (hP : va_P (dC, dI) classes (moW h0 r cA si sj sa sb) H) (hD : va_D A (moW h0 r cA si sj sa sb)) (hS : va_S A s.heap H locs) (hl : lv_has ls 10 []) : W p l e R s m args below meth c H locs 0 0 Q (F0 m 63 ls []) := by
  obtain ⟨hx, hb, hr, hml, hown, hts, hlocks, hRf, hRl⟩ := id C0
  unfold f_Mo_tryOffset_63 at hf
  cases rs hf
  exact hE _ _ _ _ d_Mo_tryOffset_63 hP hD hS
set_option maxHeartbeats 400000 in
set_option maxRecDepth 100000 in
theorem k_Mo_tryOffset_90 (C0 : Cx p s m meth c args R b_Mo_tryOffset "ZoneFilesModel" 10 none 8 204) (hST : ST A s s.heap) (hA : ∀ q, s.heap.size ≤ q → A q) (hK : va_K (dC, dI) classes (moT cA) s) (hE : ∀ (pc : Nat) (ls : Array Slot) (H : Heap) (locs : List Loc), decode b_Mo_tryOffset pc = .ok (.return_, 1) → va_P (dC, dI) classes (moW h0 r cA vi vj va vb) H → va_D A (moW h0 r cA vi vj va vb) → va_S A s.heap H locs → W p l e R s m args below meth c H locs 0 0 Q (F0 m pc ls [])) {si : Nat → Int32} {sj : Nat → Int64} {sa : Nat → Nat → Int32} {sb : Nat → Nat → Int64} (hf : f_Mo_tryOffset_90 nf si sj sa sb = some (vi, vj, va, vb)) {H : Heap} {locs : List Loc} {ls : Array Slot} (hP : va_P (dC, dI) classes (moW h0 r cA si sj sa sb) H) (hD : va_D A (moW h0 r cA si sj sa sb)) (hS : va_S A s.heap H locs) (hl : lv_has ls 10 []) : W p l e R s m args below meth c H locs 0 0 Q (F0 m 90 ls []) := by
  obtain ⟨hx, hb, hr, hml, hown, hts, hlocks, hRf, hRl⟩ := id C0
  unfold f_Mo_tryOffset_90 at hf
  cases rs hf
  exact hE _ _ _ _ d_Mo_tryOffset_90 hP hD hS
set_option maxHeartbeats 400000 in
set_option maxRecDepth 100000 in
theorem k_Mo_tryOffset_139 (C0 : Cx p s m meth c args R b_Mo_tryOffset "ZoneFilesModel" 10 none 8 204) (hST : ST A s s.heap) (hA : ∀ q, s.heap.size ≤ q → A q) (hK : va_K (dC, dI) classes (moT cA) s) (hE : ∀ (pc : Nat) (ls : Array Slot) (H : Heap) (locs : List Loc), decode b_Mo_tryOffset pc = .ok (.return_, 1) → va_P (dC, dI) classes (moW h0 r cA vi vj va vb) H → va_D A (moW h0 r cA vi vj va vb) → va_S A s.heap H locs → W p l e R s m args below meth c H locs 0 0 Q (F0 m pc ls [])) {x9 : Int32} {x6 : Int64} {si : Nat → Int32} {sj : Nat → Int64} {sa : Nat → Nat → Int32} {sb : Nat → Nat → Int64} (hf : f_Mo_tryOffset_139 nf x9 x6 si sj sa sb = some (vi, vj, va, vb)) {H : Heap} {locs : List Loc} {ls : Array Slot} (hP : va_P (dC, dI) classes (moW h0 r cA si sj sa sb) H) (hD : va_D A (moW h0 r cA si sj sa sb)) (hS : va_S A s.heap H locs) (hl : lv_has ls 10 [(9, .int x9), (6, .long x6), (0, .ref h0)]) : W p l e R s m args below meth c H locs 0 0 Q (F0 m 139 ls []) := by
  obtain ⟨hx, hb, hr, hml, hown, hts, hlocks, hRf, hRl⟩ := id C0
  unfold f_Mo_tryOffset_139 at hf
  refine lv_aload_n hx hb d_Mo_tryOffset_139 rfl (lv_at hl 2 rfl) ?_
  refine mg_54 hx hb hts hown hK hP d_Mo_tryOffset_140 ?_
  refine lv_iload hx hb d_Mo_tryOffset_143 (lv_at hl 0 rfl) ?_
  refine lv_lload hx hb d_Mo_tryOffset_145 (lv_at hl 1 rfl) ?_
  obtain ⟨c_12, hf⟩ := it_n hf
  refine mz_54 hx hb hK hP hD hS c_12 d_Mo_tryOffset_147 (fun H locs hP hD hS => ?_)
  refine lv_aload_n hx hb d_Mo_tryOffset_148 rfl (lv_at hl 2 rfl) ?_
  refine lv_dup hx hb d_Mo_tryOffset_149 rfl ?_
  refine mg_55 (v := si 55) hx hb hts hown hK hP rfl d_Mo_tryOffset_150 ?_
  refine lv_iconst (v := 1) hx hb d_Mo_tryOffset_153 (by decide) ?_
  refine lv_iadd hx hb d_Mo_tryOffset_154 ?_
  refine mp_55 hx hb hts hown hK hP hD hS d_Mo_tryOffset_155 (fun H locs hP hD hS => ?_)
  cases rs hf
  exact hE _ _ _ _ d_Mo_tryOffset_158 hP hD hS
set_option maxHeartbeats 400000 in
set_option maxRecDepth 100000 in
theorem k_Mo_tryOffset_97 (C0 : Cx p s m meth c args R b_Mo_tryOffset "ZoneFilesModel" 10 none 8 204) (hST : ST A s s.heap) (hA : ∀ q, s.heap.size ≤ q → A q) (hK : va_K (dC, dI) classes (moT cA) s) (hE : ∀ (pc : Nat) (ls : Array Slot) (H : Heap) (locs : List Loc), decode b_Mo_tryOffset pc = .ok (.return_, 1) → va_P (dC, dI) classes (moW h0 r cA vi vj va vb) H → va_D A (moW h0 r cA vi vj va vb) → va_S A s.heap H locs → W p l e R s m args below meth c H locs 0 0 Q (F0 m pc ls [])) : ∀ (n : Nat) {x9 : Int32} {x6 : Int64} {si : Nat → Int32} {sj : Nat → Int64} {sa : Nat → Nat → Int32} {sb : Nat → Nat → Int64}, f_Mo_tryOffset_97 nf n x9 x6 si sj sa sb = some (vi, vj, va, vb) → ∀ {H : Heap} {locs : List Loc} {ls : Array Slot}, va_P (dC, dI) classes (moW h0 r cA si sj sa sb) H → va_D A (moW h0 r cA si sj sa sb) → va_S A s.heap H locs → lv_has ls 10 [(9, .int x9), (6, .long x6), (0, .ref h0)] → W p l e R s m args below meth c H locs 0 0 Q (F0 m 97 ls []) := by
  obtain ⟨hx, hb, hr, hml, hown, hts, hlocks, hRf, hRl⟩ := id C0
  intro n
  induction n with
  | zero =>
    intro x9 x6 si sj sa sb hf
    exact absurd hf (by simp [f_Mo_tryOffset_97])
  | succ n ih =>
    intro x9 x6 si sj sa sb hf H locs ls hP hD hS hl
    unfold f_Mo_tryOffset_97 at hf
    refine lv_iload hx hb d_Mo_tryOffset_97 (lv_at hl 0 rfl) ?_
    refine lv_if_le (tgt := 139) hx hb d_Mo_tryOffset_99 (by decide) (fun c_11 => ?_) (fun c_11 => ?_)
    · have hf := it_t c_11 hf
      exact k_Mo_tryOffset_139 C0 hST hA hK hE hf hP hD hS (lv_sub hl [0, 1, 2] rfl)
    · have hf := it_f c_11 hf
      refine lv_aload_n hx hb d_Mo_tryOffset_102 rfl (lv_at hl 2 rfl) ?_
      refine mg_54 hx hb hts hown hK hP d_Mo_tryOffset_103 ?_
      refine lv_iload hx hb d_Mo_tryOffset_106 (lv_at hl 0 rfl) ?_
      refine lv_iconst (v := 1) hx hb d_Mo_tryOffset_108 (by decide) ?_
      refine lv_isub hx hb d_Mo_tryOffset_109 ?_
      obtain ⟨c_13, hf⟩ := it_n hf
      refine ma_54 (v := sb 54 (x9 - 1).toNatClampNeg) hx hb hK hP c_13 rfl d_Mo_tryOffset_110 ?_
      refine lv_lload hx hb d_Mo_tryOffset_111 (lv_at hl 1 rfl) ?_
      refine lc_le (tgt := 139) hx hb d_Mo_tryOffset_113 d_Mo_tryOffset_114 (by decide) (fun c_14 => ?_) (fun c_14 => ?_)
      · have hf := it_t c_14 hf
        exact k_Mo_tryOffset_139 C0 hST hA hK hE hf hP hD hS (lv_sub hl [0, 1, 2] rfl)
      · have hf := it_f c_14 hf
        refine lv_aload_n hx hb d_Mo_tryOffset_117 rfl (lv_at hl 2 rfl) ?_
        refine mg_54 hx hb hts hown hK hP d_Mo_tryOffset_118 ?_
        refine lv_iload hx hb d_Mo_tryOffset_121 (lv_at hl 0 rfl) ?_
        refine lv_aload_n hx hb d_Mo_tryOffset_123 rfl (lv_at hl 2 rfl) ?_
        refine mg_54 hx hb hts hown hK hP d_Mo_tryOffset_124 ?_
        refine lv_iload hx hb d_Mo_tryOffset_127 (lv_at hl 0 rfl) ?_
        refine lv_iconst (v := 1) hx hb d_Mo_tryOffset_129 (by decide) ?_
        refine lv_isub hx hb d_Mo_tryOffset_130 ?_
        obtain ⟨c_15, hf⟩ := it_n hf
        refine ma_54 (v := sb 54 (x9 - 1).toNatClampNeg) hx hb hK hP c_15 rfl d_Mo_tryOffset_131 ?_
        obtain ⟨c_16, hf⟩ := it_n hf
        refine mz_54 hx hb hK hP hD hS c_16 d_Mo_tryOffset_132 (fun H locs hP hD hS => ?_)
        refine lv_iinc (v := x9 + (-1)) (lv' := [(9, .int (x9 + (-1))), (6, .long x6), (0, .ref h0)]) hx hb d_Mo_tryOffset_133 hl (k := 0) rfl rfl (by decide) rfl (fun ls hl => ?_)
        refine lv_goto (tgt := 97) hx hb d_Mo_tryOffset_136 (by decide) ?_
        exact ih hf hP hD hS (lv_sub hl [0, 1, 2] rfl)
set_option maxHeartbeats 400000 in
set_option maxRecDepth 100000 in
theorem k_Mo_tryOffset_41 (C0 : Cx p s m meth c args R b_Mo_tryOffset "ZoneFilesModel" 10 none 8 204) (hST : ST A s s.heap) (hA : ∀ q, s.heap.size ≤ q → A q) (hK : va_K (dC, dI) classes (moT cA) s) (hE : ∀ (pc : Nat) (ls : Array Slot) (H : Heap) (locs : List Loc), decode b_Mo_tryOffset pc = .ok (.return_, 1) → va_P (dC, dI) classes (moW h0 r cA vi vj va vb) H → va_D A (moW h0 r cA vi vj va vb) → va_S A s.heap H locs → W p l e R s m args below meth c H locs 0 0 Q (F0 m pc ls [])) {K12 : Int32 → Int32 → Int64 → Int32 → Int64 → (Nat → Int32) → (Nat → Int64) → (Nat → Nat → Int32) → (Nat → Nat → Int64) → Option ((Nat → Int32) × (Nat → Int64) × (Nat → Nat → Int32) × (Nat → Nat → Int64))} (hK12 : ∀ {x9 : Int32} {x8 : Int32} {x6 : Int64} {x1 : Int32} {x4 : Int64} {si : Nat → Int32} {sj : Nat → Int64} {sa : Nat → Nat → Int32} {sb : Nat → Nat → Int64}, K12 x9 x8 x6 x1 x4 si sj sa sb = some (vi, vj, va, vb) → ∀ {H : Heap} {locs : List Loc} {ls : Array Slot}, va_P (dC, dI) classes (moW h0 r cA si sj sa sb) H → va_D A (moW h0 r cA si sj sa sb) → va_S A s.heap H locs → lv_has ls 10 [(9, .int x9), (8, .int x8), (6, .long x6), (0, .ref h0), (1, .int x1), (4, .long x4)] → W p l e R s m args below meth c H locs 0 0 Q (F0 m 12 ls [])) {x9 : Int32} {x6 : Int64} {x1 : Int32} {x4 : Int64} {s0 : Int32} {s1 : Int32} {si : Nat → Int32} {sj : Nat → Int64} {sa : Nat → Nat → Int32} {sb : Nat → Nat → Int64} (hf : f_Mo_tryOffset_41 nf K12 x9 x6 x1 x4 s0 s1 si sj sa sb = some (vi, vj, va, vb)) {H : Heap} {locs : List Loc} {ls : Array Slot} (hP : va_P (dC, dI) classes (moW h0 r cA si sj sa sb) H) (hD : va_D A (moW h0 r cA si sj sa sb)) (hS : va_S A s.heap H locs) (hl : lv_has ls 10 [(9, .int x9), (6, .long x6), (0, .ref h0), (1, .int x1), (4, .long x4)]) : W p l e R s m args below meth c H locs 0 0 Q (F0 m 41 ls [.int s0, .int s1]) := by
  obtain ⟨hx, hb, hr, hml, hown, hts, hlocks, hRf, hRl⟩ := id C0
  unfold f_Mo_tryOffset_41 at hf
  refine lv_ior hx hb d_Mo_tryOffset_41 ?_
  refine lv_istore (lv' := [(8, .int (s1 ||| s0)), (9, .int x9), (6, .long x6), (0, .ref h0), (1, .int x1), (4, .long x4)]) hx hb d_Mo_tryOffset_42 hl (by decide) rfl (fun ls hl => ?_)
  refine lv_iinc (v := x9 + 1) (lv' := [(9, .int (x9 + 1)), (8, .int (s1 ||| s0)), (6, .long x6), (0, .ref h0), (1, .int x1), (4, .long x4)]) hx hb d_Mo_tryOffset_44 hl (k := 1) rfl rfl (by decide) rfl (fun ls hl => ?_)
  refine lv_goto (tgt := 12) hx hb d_Mo_tryOffset_47 (by decide) ?_
  exact hK12 hf hP hD hS (lv_sub hl [0, 1, 2, 3, 4, 5] rfl)
set_option maxHeartbeats 400000 in
set_option maxRecDepth 100000 in
theorem k_Mo_tryOffset_12 (C0 : Cx p s m meth c args R b_Mo_tryOffset "ZoneFilesModel" 10 none 8 204) (hST : ST A s s.heap) (hA : ∀ q, s.heap.size ≤ q → A q) (hK : va_K (dC, dI) classes (moT cA) s) (hE : ∀ (pc : Nat) (ls : Array Slot) (H : Heap) (locs : List Loc), decode b_Mo_tryOffset pc = .ok (.return_, 1) → va_P (dC, dI) classes (moW h0 r cA vi vj va vb) H → va_D A (moW h0 r cA vi vj va vb) → va_S A s.heap H locs → W p l e R s m args below meth c H locs 0 0 Q (F0 m pc ls [])) : ∀ (n : Nat) {x9 : Int32} {x8 : Int32} {x6 : Int64} {x1 : Int32} {x4 : Int64} {si : Nat → Int32} {sj : Nat → Int64} {sa : Nat → Nat → Int32} {sb : Nat → Nat → Int64}, f_Mo_tryOffset_12 nf n x9 x8 x6 x1 x4 si sj sa sb = some (vi, vj, va, vb) → ∀ {H : Heap} {locs : List Loc} {ls : Array Slot}, va_P (dC, dI) classes (moW h0 r cA si sj sa sb) H → va_D A (moW h0 r cA si sj sa sb) → va_S A s.heap H locs → lv_has ls 10 [(9, .int x9), (8, .int x8), (6, .long x6), (0, .ref h0), (1, .int x1), (4, .long x4)] → W p l e R s m args below meth c H locs 0 0 Q (F0 m 12 ls []) := by
  obtain ⟨hx, hb, hr, hml, hown, hts, hlocks, hRf, hRl⟩ := id C0
  intro n
  induction n with
  | zero =>
    intro x9 x8 x6 x1 x4 si sj sa sb hf
    exact absurd hf (by simp [f_Mo_tryOffset_12])
  | succ n ih =>
    intro x9 x8 x6 x1 x4 si sj sa sb hf H locs ls hP hD hS hl
    unfold f_Mo_tryOffset_12 at hf
    refine lv_iload hx hb d_Mo_tryOffset_12 (lv_at hl 0 rfl) ?_
    refine lv_aload_n hx hb d_Mo_tryOffset_14 rfl (lv_at hl 3 rfl) ?_
    refine mg_55 (v := si 55) hx hb hts hown hK hP rfl d_Mo_tryOffset_15 ?_
    refine lv_icmp_ge (tgt := 50) hx hb d_Mo_tryOffset_18 (by decide) (fun c_1 => ?_) (fun c_1 => ?_)
    · have hf := it_t c_1 hf
      refine lv_iload hx hb d_Mo_tryOffset_50 (lv_at hl 1 rfl) ?_
      refine lv_if_ne (tgt := 63) hx hb d_Mo_tryOffset_52 (by decide) (fun c_2 => ?_) (fun c_2 => ?_)
      · have hf := it_f c_2 hf
        exact k_Mo_tryOffset_63 C0 hST hA hK hE hf hP hD hS (lv_sub hl [] rfl)
      · have hf := it_t c_2 hf
        refine lv_lload hx hb d_Mo_tryOffset_55 (lv_at hl 2 rfl) ?_
        obtain ⟨r_3, hc, hf⟩ := ob hf
        refine cl_S (v := (some (.int r_3))) (st1 := [.int r_3]) (va_runS (As := [.long x6]) (rest := []) ⟨hx, hb, hml, hown, hts⟩ (c_Mo_isInstant l dC dI nf x6 hc) (va_cwS 1 hts (gdS m_7_159 m_7_160 m_1_10 m_7_161) rfl rfl rfl (by decide +kernel) ⟨Nat.le_trans (Nat.le_of_ble_eq_true rfl) hRf, Nat.le_trans (Nat.le_of_ble_eq_true rfl) hRl⟩) (RO.pre0 hK (hST.ro hS)).sta rfl rfl hl.1 rfl (lv_room (Nat.le_of_ble_eq_true rfl)) d_Mo_tryOffset_57 ⟨Nat.zero_le _, Nat.zero_le _⟩) rfl ?_
        refine lv_if_ne (tgt := 64) hx hb d_Mo_tryOffset_60 (by decide) (fun c_4 => ?_) (fun c_4 => ?_)
        · have hf := it_f c_4 hf
          refine lv_aload_n hx hb d_Mo_tryOffset_64 rfl (lv_at hl 3 rfl) ?_
          refine lv_iload_n hx hb d_Mo_tryOffset_65 rfl (lv_at hl 4 rfl) ?_
          refine lv_lload hx hb d_Mo_tryOffset_66 (lv_at hl 2 rfl) ?_
          obtain ⟨⟨i_5, j_6, a_7, b_8⟩, hc, hf⟩ := ob hf
          have hFc := mo_free hD hS hA
          refine cl_M (v := none) (st1 := []) (va_runV (As := [.int x1, .long x6]) (rest := []) ⟨hx, hb, hml, hown, hts⟩ (c_Mo_state l dC dI h0 r cA H.size nf x1 x6 si sj sa sb hc) (cwV 2 hts (gdV m_8_49 m_8_51 msel_84 m_1_10 m_8_52) rfl rfl rfl (by decide +kernel) ⟨Nat.le_trans (Nat.le_of_ble_eq_true rfl) hRf, Nat.le_trans (Nat.le_of_ble_eq_true rfl) hRl⟩) ((MU.pre hP hK hD (hST.mu hS hFc)).vir (va_recv hK hP (ci := 10) (q0 := 0) rfl rfl)) rfl rfl hl.1 rfl (lv_room (Nat.le_of_ble_eq_true rfl)) d_Mo_tryOffset_68 ⟨Nat.zero_le _, Nat.zero_le _⟩) rfl hS (fun q _ h => hFc q h) hFc (fun t H1 locs ht hvm hB hz1 hk1 hS => ?_)
          obtain ⟨hP, hD⟩ := mo_back ht hD hB
          generalize H1 = H at hP hS ⊢
          refine lv_aload_n hx hb d_Mo_tryOffset_71 rfl (lv_at hl 3 rfl) ?_
          refine mg_43 (v := i_5 43) hx hb hts hown hK hP rfl d_Mo_tryOffset_72 ?_
          refine lv_iconst (v := 2) hx hb d_Mo_tryOffset_75 (by decide) ?_
          refine lv_icmp_eq (tgt := 90) hx hb d_Mo_tryOffset_76 (by decide) (fun c_9 => ?_) (fun c_9 => ?_)
          · have hf := it_t c_9 hf
            exact k_Mo_tryOffset_90 C0 hST hA hK hE hf hP hD hS (lv_sub hl [] rfl)
          · have hf := it_f c_9 hf
            refine lv_aload_n hx hb d_Mo_tryOffset_79 rfl (lv_at hl 3 rfl) ?_
            refine mg_45 (v := i_5 45) hx hb hts hown hK hP rfl d_Mo_tryOffset_80 ?_
            refine lv_i2l hx hb d_Mo_tryOffset_83 rfl ?_
            refine lv_lload hx hb d_Mo_tryOffset_84 (lv_at hl 5 rfl) ?_
            refine lc_eq (tgt := 91) hx hb d_Mo_tryOffset_86 d_Mo_tryOffset_87 (by decide) (fun c_10 => ?_) (fun c_10 => ?_)
            · have hf := it_t c_10 hf
              refine lv_aload_n hx hb d_Mo_tryOffset_91 rfl (lv_at hl 3 rfl) ?_
              refine mg_55 (v := i_5 55) hx hb hts hown hK hP rfl d_Mo_tryOffset_92 ?_
              refine lv_istore (lv' := [(9, .int (i_5 55)), (8, .int x8), (6, .long x6), (0, .ref h0), (1, .int x1), (4, .long x4)]) hx hb d_Mo_tryOffset_95 hl (by decide) rfl (fun ls hl => ?_)
              exact k_Mo_tryOffset_97 C0 hST hA hK hE nf hf hP hD hS (lv_sub hl [0, 2, 3] rfl)
            · have hf := it_f c_10 hf
              exact k_Mo_tryOffset_90 C0 hST hA hK hE hf hP hD hS (lv_sub hl [] rfl)
        · have hf := it_t c_4 hf
          exact k_Mo_tryOffset_63 C0 hST hA hK hE hf hP hD hS (lv_sub hl [] rfl)
    · have hf := it_f c_1 hf
      refine lv_iload hx hb d_Mo_tryOffset_21 (lv_at hl 1 rfl) ?_
      refine lv_aload_n hx hb d_Mo_tryOffset_23 rfl (lv_at hl 3 rfl) ?_
      refine mg_54 hx hb hts hown hK hP d_Mo_tryOffset_24 ?_
      refine lv_iload hx hb d_Mo_tryOffset_27 (lv_at hl 0 rfl) ?_
      obtain ⟨c_17, hf⟩ := it_n hf
      refine ma_54 (v := sb 54 x9.toNatClampNeg) hx hb hK hP c_17 rfl d_Mo_tryOffset_29 ?_
      refine lv_lload hx hb d_Mo_tryOffset_30 (lv_at hl 2 rfl) ?_
      refine lc_ne (tgt := 40) hx hb d_Mo_tryOffset_32 d_Mo_tryOffset_33 (by decide) (fun c_18 => ?_) (fun c_18 => ?_)
      · have hf := it_f c_18 hf
        refine lv_iconst (v := 0) hx hb d_Mo_tryOffset_40 (by decide) ?_
        exact k_Mo_tryOffset_41 C0 hST hA hK hE (fun hf => ih hf) hf hP hD hS (lv_sub hl [0, 2, 3, 4, 5] rfl)
      · have hf := it_t c_18 hf
        refine lv_iconst (v := 1) hx hb d_Mo_tryOffset_36 (by decide) ?_
        refine lv_goto (tgt := 41) hx hb d_Mo_tryOffset_37 (by decide) ?_
        exact k_Mo_tryOffset_41 C0 hST hA hK hE (fun hf => ih hf) hf hP hD hS (lv_sub hl [0, 2, 3, 4, 5] rfl)
set_option maxHeartbeats 400000 in
set_option maxRecDepth 100000 in
theorem k_Mo_tryOffset_0 (C0 : Cx p s m meth c args R b_Mo_tryOffset "ZoneFilesModel" 10 none 8 204) (hST : ST A s s.heap) (hA : ∀ q, s.heap.size ≤ q → A q) (hK : va_K (dC, dI) classes (moT cA) s) (hE : ∀ (pc : Nat) (ls : Array Slot) (H : Heap) (locs : List Loc), decode b_Mo_tryOffset pc = .ok (.return_, 1) → va_P (dC, dI) classes (moW h0 r cA vi vj va vb) H → va_D A (moW h0 r cA vi vj va vb) → va_S A s.heap H locs → W p l e R s m args below meth c H locs 0 0 Q (F0 m pc ls [])) {x1 : Int32} {x2 : Int64} {x4 : Int64} {si : Nat → Int32} {sj : Nat → Int64} {sa : Nat → Nat → Int32} {sb : Nat → Nat → Int64} (hf : f_Mo_tryOffset_0 nf x1 x2 x4 si sj sa sb = some (vi, vj, va, vb)) {H : Heap} {locs : List Loc} {ls : Array Slot} (hP : va_P (dC, dI) classes (moW h0 r cA si sj sa sb) H) (hD : va_D A (moW h0 r cA si sj sa sb)) (hS : va_S A s.heap H locs) (hl : lv_has ls 10 [(0, .ref h0), (1, .int x1), (2, .long x2), (4, .long x4)]) : W p l e R s m args below meth c H locs 0 0 Q (F0 m 0 ls []) := by
  obtain ⟨hx, hb, hr, hml, hown, hts, hlocks, hRf, hRl⟩ := id C0
  unfold f_Mo_tryOffset_0 at hf
  refine lv_lload_n hx hb d_Mo_tryOffset_0 rfl (lv_at hl 2 rfl) ?_
  refine lv_lload hx hb d_Mo_tryOffset_1 (lv_at hl 3 rfl) ?_
  refine lv_lsub hx hb d_Mo_tryOffset_3 ?_
  refine lv_lstore (lv' := [(6, .long (x2 - x4)), (0, .ref h0), (1, .int x1), (2, .long x2), (4, .long x4)]) hx hb d_Mo_tryOffset_4 hl (by decide) rfl (fun ls hl => ?_)
  refine lv_iconst (v := 0) hx hb d_Mo_tryOffset_6 (by decide) ?_
  refine lv_istore (lv' := [(8, .int 0), (6, .long (x2 - x4)), (0, .ref h0), (1, .int x1), (2, .long x2), (4, .long x4)]) hx hb d_Mo_tryOffset_7 hl (by decide) rfl (fun ls hl => ?_)
  refine lv_iconst (v := 0) hx hb d_Mo_tryOffset_9 (by decide) ?_
  refine lv_istore (lv' := [(9, .int 0), (8, .int 0), (6, .long (x2 - x4)), (0, .ref h0), (1, .int x1), (2, .long x2), (4, .long x4)]) hx hb d_Mo_tryOffset_10 hl (by decide) rfl (fun ls hl => ?_)
  exact k_Mo_tryOffset_12 C0 hST hA hK hE nf hf hP hD hS (lv_sub hl [0, 1, 2, 3, 4, 6] rfl)
end
set_option maxHeartbeats 400000 in
set_option maxRecDepth 100000 in
theorem c_Mo_tryOffset (l : Launch) (dC : Nat → ClassId) (dI : Nat → Nat → Nat) (h0 : Nat) (r : Nat → Nat) (cA : Nat → ClassId) (sz : Nat) (nf : Nat) (p0 : Int32) (p1 : Int64) (p2 : Int64) (si : Nat → Int32) (sj : Nat → Int64) (sa : Nat → Nat → Int32) (sb : Nat → Nat → Int64) {vi : Nat → Int32} {vj : Nat → Int64} {va : Nat → Nat → Int32} {vb : Nat → Nat → Int64} (hf : f_Mo_tryOffset nf p0 p1 p2 si sj sa sb = some (vi, vj, va, vb)) : Met l y_Mo_tryOffset (wd y_Mo_tryOffset b_Mo_tryOffset 10 none) ({ frames := 8, cells := 0, slots := 0, locals := 204 }) (MU dC dI (moW h0 r cA si sj sa sb) (moT cA) sz [.ref h0, .int p0, .long p1, .long p2]) (MV none (fun t => va_P (dC, dI) classes (moW h0 r cA vi vj va vb) t.heap) (va_A (moW h0 r cA si sj sa sb) sz)) 0 0 (va_A (moW h0 r cA si sj sa sb) sz) :=
  met_M (plainFor_of_name (by decide)) (Nat.le_of_ble_eq_true rfl) (fun p e R s m args below meth c ls hRc hRs hsz hin C0 hST hK hP hD hl => by
    obtain ⟨hx, hb, hr, hml, hown, hts, hlocks, hRf, hRl⟩ := id C0
    subst hsz
    have hA : ∀ q : Nat, s.heap.size ≤ q → va_A (moW h0 r cA si sj sa sb) s.heap.size q := fun q h => Or.inr h
    have hS : va_S (va_A (moW h0 r cA si sj sa sb) s.heap.size) s.heap s.heap [] := va_S.rf
    unfold f_Mo_tryOffset at hf
    exact k_Mo_tryOffset_0 C0 hST hA hK (fun pc ls H locs hd hP hD hS => W.vret hx hb hr (fun t ht hW => ⟨⟨rfl, mo_end ht hP⟩, hS.F ht⟩) hS.2.2 hd) hf hP hD hS (lv_sub hl [0, 1, 2, 3] rfl))
-- ZoneFilesModel.find(IJ)I
def f_Mo_find_84 (nf : Nat) : Nat → Int32 → Int32 → Int64 → (Nat → Int32) → (Nat → Int64) → (Nat → Nat → Int32) → (Nat → Nat → Int64) → Option (Int32 × (Nat → Int32) × (Nat → Int64) × (Nat → Nat → Int32) × (Nat → Nat → Int64))
  | 0, _, _, _, _, _, _, _ => none
  | n + 1, x4, x1, x2, si, sj, sa, sb =>
    if x1 < 0 ∨ 5 ≤ x1.toNatClampNeg then none else
    if (sa 23 x1.toNatClampNeg) ≤ x4 then
    some (si 55, si, sj, sa, sb)
    else
    if ((2 * x1) + x4) < 0 ∨ 10 ≤ ((2 * x1) + x4).toNatClampNeg then none else
      (f_Mo_tryOffset nf x1 x2 ((sa 24 ((2 * x1) + x4).toNatClampNeg).toInt64) si sj sa sb).bind fun (i_11, j_12, a_13, b_14) =>
      f_Mo_find_84 nf n (x4 + 1) x1 x2 i_11 j_12 a_13 b_14
def f_Mo_find_45 (nf : Nat) : Nat → Int32 → Int32 → Int64 → (Nat → Int32) → (Nat → Int64) → (Nat → Nat → Int32) → (Nat → Nat → Int64) → Option (Int32 × (Nat → Int32) × (Nat → Int64) × (Nat → Nat → Int32) × (Nat → Nat → Int64))
  | 0, _, _, _, _, _, _, _ => none
  | n + 1, x4, x1, x2, si, sj, sa, sb =>
    if x1 < 0 ∨ 5 ≤ x1.toNatClampNeg then none else
    if (sa 6 x1.toNatClampNeg) ≤ x4 then
    f_Mo_find_84 nf nf 0 x1 x2 si sj sa sb
    else
    if ((40 * x1) + x4) < 0 ∨ 200 ≤ ((40 * x1) + x4).toNatClampNeg then none else
      (f_Mo_tryOffset nf x1 x2 ((sa 14 ((40 * x1) + x4).toNatClampNeg).toInt64) si sj sa sb).bind fun (i_16, j_17, a_18, b_19) =>
      f_Mo_find_45 nf n (x4 + 1) x1 x2 i_16 j_17 a_18 b_19
def f_Mo_find_25 (nf : Nat) (x1 : Int32) (x2 : Int64) (s0 : Int32) (si : Nat → Int32) (sj : Nat → Int64) (sa : Nat → Nat → Int32) (sb : Nat → Nat → Int64) : Option (Int32 × (Nat → Int32) × (Nat → Int64) × (Nat → Nat → Int32) × (Nat → Nat → Int64)) :=
  if s0 ≤ 0 then
  f_Mo_find_45 nf nf 0 x1 x2 (va_up (va_up si 3 s0) 55 0) sj sa sb
  else
  some (0, va_up si 3 s0, sj, sa, sb)
def f_Mo_find_0 (nf : Nat) (x1 : Int32) (x2 : Int64) (si : Nat → Int32) (sj : Nat → Int64) (sa : Nat → Nat → Int32) (sb : Nat → Nat → Int64) : Option (Int32 × (Nat → Int32) × (Nat → Int64) × (Nat → Nat → Int32) × (Nat → Nat → Int64)) :=
  (f_Mo_noZone nf x1 si sj sa sb).bind fun r_1 =>
  if r_1 = 0 then
  (f_Mo_isInstant nf x2).bind fun r_3 =>
    if r_3 = 0 then
    f_Mo_find_25 nf x1 x2 2 si sj sa sb
    else
    f_Mo_find_25 nf x1 x2 0 si sj sa sb
  else
  f_Mo_find_25 nf x1 x2 1 si sj sa sb
def f_Mo_find (nf : Nat) (p0 : Int32) (p1 : Int64) (si : Nat → Int32) (sj : Nat → Int64) (sa : Nat → Nat → Int32) (sb : Nat → Nat → Int64) : Option (Int32 × (Nat → Int32) × (Nat → Int64) × (Nat → Nat → Int32) × (Nat → Nat → Int64)) :=
  f_Mo_find_0 nf p0 p1 si sj sa sb
section
variable {p : Program} {l : Launch} {e : Env} {R : Room} {s : State} {m : MethodId} {args : Array Value} {below : List Frame} {meth : Method} {c : Code} {Q : State → Prop} {dC : Nat → ClassId} {dI : Nat → Nat → Nat} {nf : Nat} {A : Nat → Prop} {h0 : Nat} {r : Nat → Nat} {cA : Nat → ClassId}
variable {r0 : Int32} {vi : Nat → Int32} {vj : Nat → Int64} {va : Nat → Nat → Int32} {vb : Nat → Nat → Int64}
set_option maxHeartbeats 400000 in
set_option maxRecDepth 100000 in
theorem k_Mo_find_84 (C0 : Cx p s m meth c args R b_Mo_find "ZoneFilesModel" 5 (some .int) 9 233) (hST : ST A s s.heap) (hA : ∀ q, s.heap.size ≤ q → A q) (hK : va_K (dC, dI) classes (moT cA) s) (hE : ∀ (pc : Nat) (ls : Array Slot) (H : Heap) (locs : List Loc), decode b_Mo_find pc = .ok (.ireturn, 1) → narrow .int (.int r0) = .int r0 → va_P (dC, dI) classes (moW h0 r cA vi vj va vb) H → va_D A (moW h0 r cA vi vj va vb) → va_S A s.heap H locs → W p l e R s m args below meth c H locs 0 0 Q (F0 m pc ls [.int r0])) : ∀ (n : Nat) {x4 : Int32} {x1 : Int32} {x2 : Int64} {si : Nat → Int32} {sj : Nat → Int64} {sa : Nat → Nat → Int32} {sb : Nat → Nat → Int64}, f_Mo_find_84 nf n x4 x1 x2 si sj sa sb = some (r0, vi, vj, va, vb) → ∀ {H : Heap} {locs : List Loc} {ls : Array Slot}, va_P (dC, dI) classes (moW h0 r cA si sj sa sb) H → va_D A (moW h0 r cA si sj sa sb) → va_S A s.heap H locs → lv_has ls 5 [(4, .int x4), (0, .ref h0), (1, .int x1), (2, .long x2)] → W p l e R s m args below meth c H locs 0 0 Q (F0 m 84 ls []) := by
  obtain ⟨hx, hb, hr, hml, hown, hts, hlocks, hRf, hRl⟩ := id C0
  intro n
  induction n with
  | zero =>
    intro x4 x1 x2 si sj sa sb hf
    exact absurd hf (by simp [f_Mo_find_84])
  | succ n ih =>
    intro x4 x1 x2 si sj sa sb hf H locs ls hP hD hS hl
    unfold f_Mo_find_84 at hf
    refine lv_iload hx hb d_Mo_find_84 (lv_at hl 0 rfl) ?_
    refine lv_aload_n hx hb d_Mo_find_86 rfl (lv_at hl 1 rfl) ?_
    refine mg_23 hx hb hts hown hK hP d_Mo_find_87 ?_
    refine lv_iload_n hx hb d_Mo_find_90 rfl (lv_at hl 2 rfl) ?_
    obtain ⟨c_8, hf⟩ := it_n hf
    refine ma_23 (v := sa 23 x1.toNatClampNeg) hx hb hK hP c_8 rfl d_Mo_find_91 ?_
    refine lv_icmp_ge (tgt := 119) hx hb d_Mo_find_92 (by decide) (fun c_9 => ?_) (fun c_9 => ?_)
    · have hf := it_t c_9 hf
      refine lv_aload_n hx hb d_Mo_find_119 rfl (lv_at hl 1 rfl) ?_
      refine mg_55 (v := si 55) hx hb hts hown hK hP rfl d_Mo_find_120 ?_
      cases rs hf
      exact hE _ _ _ _ d_Mo_find_123 rfl hP hD hS
    · have hf := it_f c_9 hf
      refine lv_aload_n hx hb d_Mo_find_95 rfl (lv_at hl 1 rfl) ?_
      refine lv_iload_n hx hb d_Mo_find_96 rfl (lv_at hl 2 rfl) ?_
      refine lv_lload_n hx hb d_Mo_find_97 rfl (lv_at hl 3 rfl) ?_
      refine lv_aload_n hx hb d_Mo_find_98 rfl (lv_at hl 1 rfl) ?_
      refine mg_24 hx hb hts hown hK hP d_Mo_find_99 ?_
      refine lv_iconst (v := 2) hx hb d_Mo_find_102 (by decide) ?_
      refine lv_iload_n hx hb d_Mo_find_103 rfl (lv_at hl 2 rfl) ?_
      refine lv_imul hx hb d_Mo_find_104 ?_
      refine lv_iload hx hb d_Mo_find_105 (lv_at hl 0 rfl) ?_
      refine lv_iadd hx hb d_Mo_find_107 ?_
      obtain ⟨c_10, hf⟩ := it_n hf
      refine ma_24 (v := sa 24 ((2 * x1) + x4).toNatClampNeg) hx hb hK hP c_10 rfl d_Mo_find_108 ?_
      refine lv_i2l hx hb d_Mo_find_109 rfl ?_
      obtain ⟨⟨i_11, j_12, a_13, b_14⟩, hc, hf⟩ := ob hf
      have hFc := mo_free hD hS hA
      refine cl_M (v := none) (st1 := []) (va_runV (As := [.int x1, .long x2, .long ((sa 24 ((2 * x1) + x4).toNatClampNeg).toInt64)]) (rest := []) ⟨hx, hb, hml, hown, hts⟩ (c_Mo_tryOffset l dC dI h0 r cA H.size nf x1 x2 ((sa 24 ((2 * x1) + x4).toNatClampNeg).toInt64) si sj sa sb hc) (cwV 3 hts (gdV m_8_62 m_8_64 msel_85 m_1_10 m_8_65) rfl rfl rfl (by decide +kernel) ⟨Nat.le_trans (Nat.le_of_ble_eq_true rfl) hRf, Nat.le_trans (Nat.le_of_ble_eq_true rfl) hRl⟩) ((MU.pre hP hK hD (hST.mu hS hFc)).vir (va_recv hK hP (ci := 10) (q0 := 0) rfl rfl)) rfl rfl hl.1 rfl (lv_room (Nat.le_of_ble_eq_true rfl)) d_Mo_find_110 ⟨Nat.zero_le _, Nat.zero_le _⟩) rfl hS (fun q _ h => hFc q h) hFc (fun t H1 locs ht hvm hB hz1 hk1 hS => ?_)
      obtain ⟨hP, hD⟩ := mo_back ht hD hB
      generalize H1 = H at hP hS ⊢
      refine lv_iinc (v := x4 + 1) (lv' := [(4, .int (x4 + 1)), (0, .ref h0), (1, .int x1), (2, .long x2)]) hx hb d_Mo_find_113 hl (k := 0) rfl rfl (by decide) rfl (fun ls hl => ?_)
      refine lv_goto (tgt := 84) hx hb d_Mo_find_116 (by decide) ?_
      exact ih hf hP hD hS (lv_sub hl [0, 1, 2, 3] rfl)
set_option maxHeartbeats 400000 in
set_option maxRecDepth 100000 in
theorem k_Mo_find_45 (C0 : Cx p s m meth c args R b_Mo_find "ZoneFilesModel" 5 (some .int) 9 233) (hST : ST A s s.heap) (hA : ∀ q, s.heap.size ≤ q → A q) (hK : va_K (dC, dI) classes (moT cA) s) (hE : ∀ (pc : Nat) (ls : Array Slot) (H : Heap) (locs : List Loc), decode b_Mo_find pc = .ok (.ireturn, 1) → narrow .int (.int r0) = .int r0 → va_P (dC, dI) classes (moW h0 r cA vi vj va vb) H → va_D A (moW h0 r cA vi vj va vb) → va_S A s.heap H locs → W p l e R s m args below meth c H locs 0 0 Q (F0 m pc ls [.int r0])) : ∀ (n : Nat) {x4 : Int32} {x1 : Int32} {x2 : Int64} {si : Nat → Int32} {sj : Nat → Int64} {sa : Nat → Nat → Int32} {sb : Nat → Nat → Int64}, f_Mo_find_45 nf n x4 x1 x2 si sj sa sb = some (r0, vi, vj, va, vb) → ∀ {H : Heap} {locs : List Loc} {ls : Array Slot}, va_P (dC, dI) classes (moW h0 r cA si sj sa sb) H → va_D A (moW h0 r cA si sj sa sb) → va_S A s.heap H locs → lv_has ls 5 [(4, .int x4), (0, .ref h0), (1, .int x1), (2, .long x2)] → W p l e R s m args below meth c H locs 0 0 Q (F0 m 45 ls []) := by
  obtain ⟨hx, hb, hr, hml, hown, hts, hlocks, hRf, hRl⟩ := id C0
  intro n
  induction n with
  | zero =>
    intro x4 x1 x2 si sj sa sb hf
    exact absurd hf (by simp [f_Mo_find_45])
  | succ n ih =>
    intro x4 x1 x2 si sj sa sb hf H locs ls hP hD hS hl
    unfold f_Mo_find_45 at hf
    refine lv_iload hx hb d_Mo_find_45 (lv_at hl 0 rfl) ?_
    refine lv_aload_n hx hb d_Mo_find_47 rfl (lv_at hl 1 rfl) ?_
    refine mg_6 hx hb hts hown hK hP d_Mo_find_48 ?_
    refine lv_iload_n hx hb d_Mo_find_51 rfl (lv_at hl 2 rfl) ?_
    obtain ⟨c_6, hf⟩ := it_n hf
    refine ma_6 (v := sa 6 x1.toNatClampNeg) hx hb hK hP c_6 rfl d_Mo_find_52 ?_
    refine lv_icmp_ge (tgt := 81) hx hb d_Mo_find_53 (by decide) (fun c_7 => ?_) (fun c_7 => ?_)
    · have hf := it_t c_7 hf
      refine lv_iconst (v := 0) hx hb d_Mo_find_81 (by decide) ?_
      refine lv_istore (lv' := [(4, .int 0), (0, .ref h0), (1, .int x1), (2, .long x2)]) hx hb d_Mo_find_82 hl (by decide) rfl (fun ls hl => ?_)
      exact k_Mo_find_84 C0 hST hA hK hE nf hf hP hD hS (lv_sub hl [0, 1, 2, 3] rfl)
    · have hf := it_f c_7 hf
      refine lv_aload_n hx hb d_Mo_find_56 rfl (lv_at hl 1 rfl) ?_
      refine lv_iload_n hx hb d_Mo_find_57 rfl (lv_at hl 2 rfl) ?_
      refine lv_lload_n hx hb d_Mo_find_58 rfl (lv_at hl 3 rfl) ?_
      refine lv_aload_n hx hb d_Mo_find_59 rfl (lv_at hl 1 rfl) ?_
      refine mg_14 hx hb hts hown hK hP d_Mo_find_60 ?_
      refine lv_bipush (v := 40) hx hb d_Mo_find_63 (by decide) ?_
      refine lv_iload_n hx hb d_Mo_find_65 rfl (lv_at hl 2 rfl) ?_
      refine lv_imul hx hb d_Mo_find_66 ?_
      refine lv_iload hx hb d_Mo_find_67 (lv_at hl 0 rfl) ?_
      refine lv_iadd hx hb d_Mo_find_69 ?_
      obtain ⟨c_15, hf⟩ := it_n hf
      refine ma_14 (v := sa 14 ((40 * x1) + x4).toNatClampNeg) hx hb hK hP c_15 rfl d_Mo_find_70 ?_
      refine lv_i2l hx hb d_Mo_find_71 rfl ?_
      obtain ⟨⟨i_16, j_17, a_18, b_19⟩, hc, hf⟩ := ob hf
      have hFc := mo_free hD hS hA
      refine cl_M (v := none) (st1 := []) (va_runV (As := [.int x1, .long x2, .long ((sa 14 ((40 * x1) + x4).toNatClampNeg).toInt64)]) (rest := []) ⟨hx, hb, hml, hown, hts⟩ (c_Mo_tryOffset l dC dI h0 r cA H.size nf x1 x2 ((sa 14 ((40 * x1) + x4).toNatClampNeg).toInt64) si sj sa sb hc) (cwV 3 hts (gdV m_8_62 m_8_64 msel_85 m_1_10 m_8_65) rfl rfl rfl (by decide +kernel) ⟨Nat.le_trans (Nat.le_of_ble_eq_true rfl) hRf, Nat.le_trans (Nat.le_of_ble_eq_true rfl) hRl⟩) ((MU.pre hP hK hD (hST.mu hS hFc)).vir (va_recv hK hP (ci := 10) (q0 := 0) rfl rfl)) rfl rfl hl.1 rfl (lv_room (Nat.le_of_ble_eq_true rfl)) d_Mo_find_72 ⟨Nat.zero_le _, Nat.zero_le _⟩) rfl hS (fun q _ h => hFc q h) hFc (fun t H1 locs ht hvm hB hz1 hk1 hS => ?_)
      obtain ⟨hP, hD⟩ := mo_back ht hD hB
      generalize H1 = H at hP hS ⊢
      refine lv_iinc (v := x4 + 1) (lv' := [(4, .int (x4 + 1)), (0, .ref h0), (1, .int x1), (2, .long x2)]) hx hb d_Mo_find_75 hl (k := 0) rfl rfl (by decide) rfl (fun ls hl => ?_)
      refine lv_goto (tgt := 45) hx hb d_Mo_find_78 (by decide) ?_
      exact ih hf hP hD hS (lv_sub hl [0, 1, 2, 3] rfl)
set_option maxHeartbeats 400000 in
set_option maxRecDepth 100000 in
theorem k_Mo_find_25 (C0 : Cx p s m meth c args R b_Mo_find "ZoneFilesModel" 5 (some .int) 9 233) (hST : ST A s s.heap) (hA : ∀ q, s.heap.size ≤ q → A q) (hK : va_K (dC, dI) classes (moT cA) s) (hE : ∀ (pc : Nat) (ls : Array Slot) (H : Heap) (locs : List Loc), decode b_Mo_find pc = .ok (.ireturn, 1) → narrow .int (.int r0) = .int r0 → va_P (dC, dI) classes (moW h0 r cA vi vj va vb) H → va_D A (moW h0 r cA vi vj va vb) → va_S A s.heap H locs → W p l e R s m args below meth c H locs 0 0 Q (F0 m pc ls [.int r0])) {x1 : Int32} {x2 : Int64} {s0 : Int32} {si : Nat → Int32} {sj : Nat → Int64} {sa : Nat → Nat → Int32} {sb : Nat → Nat → Int64} (hf : f_Mo_find_25 nf x1 x2 s0 si sj sa sb = some (r0, vi, vj, va, vb)) {H : Heap} {locs : List Loc} {ls : Array Slot} (hP : va_P (dC, dI) classes (moW h0 r cA si sj sa sb) H) (hD : va_D A (moW h0 r cA si sj sa sb)) (hS : va_S A s.heap H locs) (hl : lv_has ls 5 [(0, .ref h0), (1, .int x1), (2, .long x2)]) : W p l e R s m args below meth c H locs 0 0 Q (F0 m 25 ls [.int s0, .ref h0]) := by
  obtain ⟨hx, hb, hr, hml, hown, hts, hlocks, hRf, hRl⟩ := id C0
  unfold f_Mo_find_25 at hf
  refine mp_3 hx hb hts hown hK hP hD hS d_Mo_find_25 (fun H locs hP hD hS => ?_)
  refine lv_aload_n hx hb d_Mo_find_28 rfl (lv_at hl 0 rfl) ?_
  refine mg_3 (v := s0) hx hb hts hown hK hP rfl d_Mo_find_29 ?_
  refine lv_if_le (tgt := 37) hx hb d_Mo_find_32 (by decide) (fun c_5 => ?_) (fun c_5 => ?_)
  · have hf := it_t c_5 hf
    refine lv_aload_n hx hb d_Mo_find_37 rfl (lv_at hl 0 rfl) ?_
    refine lv_iconst (v := 0) hx hb d_Mo_find_38 (by decide) ?_
    refine mp_55 hx hb hts hown hK hP hD hS d_Mo_find_39 (fun H locs hP hD hS => ?_)
    refine lv_iconst (v := 0) hx hb d_Mo_find_42 (by decide) ?_
    refine lv_istore (lv' := [(4, .int 0), (0, .ref h0), (1, .int x1), (2, .long x2)]) hx hb d_Mo_find_43 hl (by decide) rfl (fun ls hl => ?_)
    exact k_Mo_find_45 C0 hST hA hK hE nf hf hP hD hS (lv_sub hl [0, 1, 2, 3] rfl)
  · have hf := it_f c_5 hf
    refine lv_iconst (v := 0) hx hb d_Mo_find_35 (by decide) ?_
    cases rs hf
    exact hE _ _ _ _ d_Mo_find_36 rfl hP hD hS
set_option maxHeartbeats 400000 in
set_option maxRecDepth 100000 in
theorem k_Mo_find_0 (C0 : Cx p s m meth c args R b_Mo_find "ZoneFilesModel" 5 (some .int) 9 233) (hST : ST A s s.heap) (hA : ∀ q, s.heap.size ≤ q → A q) (hK : va_K (dC, dI) classes (moT cA) s) (hE : ∀ (pc : Nat) (ls : Array Slot) (H : Heap) (locs : List Loc), decode b_Mo_find pc = .ok (.ireturn, 1) → narrow .int (.int r0) = .int r0 → va_P (dC, dI) classes (moW h0 r cA vi vj va vb) H → va_D A (moW h0 r cA vi vj va vb) → va_S A s.heap H locs → W p l e R s m args below meth c H locs 0 0 Q (F0 m pc ls [.int r0])) {x1 : Int32} {x2 : Int64} {si : Nat → Int32} {sj : Nat → Int64} {sa : Nat → Nat → Int32} {sb : Nat → Nat → Int64} (hf : f_Mo_find_0 nf x1 x2 si sj sa sb = some (r0, vi, vj, va, vb)) {H : Heap} {locs : List Loc} {ls : Array Slot} (hP : va_P (dC, dI) classes (moW h0 r cA si sj sa sb) H) (hD : va_D A (moW h0 r cA si sj sa sb)) (hS : va_S A s.heap H locs) (hl : lv_has ls 5 [(0, .ref h0), (1, .int x1), (2, .long x2)]) : W p l e R s m args below meth c H locs 0 0 Q (F0 m 0 ls []) := by
  obtain ⟨hx, hb, hr, hml, hown, hts, hlocks, hRf, hRl⟩ := id C0
  unfold f_Mo_find_0 at hf
  refine lv_aload_n hx hb d_Mo_find_0 rfl (lv_at hl 0 rfl) ?_
  refine lv_aload_n hx hb d_Mo_find_1 rfl (lv_at hl 0 rfl) ?_
  refine lv_iload_n hx hb d_Mo_find_2 rfl (lv_at hl 1 rfl) ?_
  obtain ⟨r_1, hc, hf⟩ := ob hf
  refine cl_S (v := (some (.int r_1))) (st1 := [.int r_1, .ref h0]) (va_runV (As := [.int x1]) (rest := [.ref h0]) ⟨hx, hb, hml, hown, hts⟩ (c_Mo_noZone l dC dI h0 r cA nf x1 si sj sa sb hc) (cwV 1 hts (gdV m_8_45 m_8_47 msel_83 m_1_10 m_8_48) rfl rfl rfl (by decide +kernel) ⟨Nat.le_trans (Nat.le_of_ble_eq_true rfl) hRf, Nat.le_trans (Nat.le_of_ble_eq_true rfl) hRl⟩) ((RO.pre hP hK (hST.ro hS)).vir (va_recv hK hP (ci := 10) (q0 := 0) rfl rfl)) rfl rfl hl.1 rfl (lv_room (Nat.le_of_ble_eq_true rfl)) d_Mo_find_3 ⟨Nat.zero_le _, Nat.zero_le _⟩) rfl ?_
  refine lv_if_eq (tgt := 13) hx hb d_Mo_find_6 (by decide) (fun c_2 => ?_) (fun c_2 => ?_)
  · have hf := it_t c_2 hf
    refine lv_lload_n hx hb d_Mo_find_13 rfl (lv_at hl 2 rfl) ?_
    obtain ⟨r_3, hc, hf⟩ := ob hf
    refine cl_S (v := (some (.int r_3))) (st1 := [.int r_3, .ref h0]) (va_runS (As := [.long x2]) (rest := [.ref h0]) ⟨hx, hb, hml, hown, hts⟩ (c_Mo_isInstant l dC dI nf x2 hc) (va_cwS 1 hts (gdS m_7_159 m_7_160 m_1_10 m_7_161) rfl rfl rfl (by decide +kernel) ⟨Nat.le_trans (Nat.le_of_ble_eq_true rfl) hRf, Nat.le_trans (Nat.le_of_ble_eq_true rfl) hRl⟩) (RO.pre0 hK (hST.ro hS)).sta rfl rfl hl.1 rfl (lv_room (Nat.le_of_ble_eq_true rfl)) d_Mo_find_14 ⟨Nat.zero_le _, Nat.zero_le _⟩) rfl ?_
    refine lv_if_ne (tgt := 24) hx hb d_Mo_find_17 (by decide) (fun c_4 => ?_) (fun c_4 => ?_)
    · have hf := it_f c_4 hf
      refine lv_iconst (v := 0) hx hb d_Mo_find_24 (by decide) ?_
      exact k_Mo_find_25 C0 hST hA hK hE hf hP hD hS (lv_sub hl [0, 1, 2] rfl)
    · have hf := it_t c_4 hf
      refine lv_iconst (v := 2) hx hb d_Mo_find_20 (by decide) ?_
      refine lv_goto (tgt := 25) hx hb d_Mo_find_21 (by decide) ?_
      exact k_Mo_find_25 C0 hST hA hK hE hf hP hD hS (lv_sub hl [0, 1, 2] rfl)
  · have hf := it_f c_2 hf
    refine lv_iconst (v := 1) hx hb d_Mo_find_9 (by decide) ?_
    refine lv_goto (tgt := 25) hx hb d_Mo_find_10 (by decide) ?_
    exact k_Mo_find_25 C0 hST hA hK hE hf hP hD hS (lv_sub hl [0, 1, 2] rfl)
end
set_option maxHeartbeats 400000 in
set_option maxRecDepth 100000 in
theorem c_Mo_find (l : Launch) (dC : Nat → ClassId) (dI : Nat → Nat → Nat) (h0 : Nat) (r : Nat → Nat) (cA : Nat → ClassId) (sz : Nat) (nf : Nat) (p0 : Int32) (p1 : Int64) (si : Nat → Int32) (sj : Nat → Int64) (sa : Nat → Nat → Int32) (sb : Nat → Nat → Int64) {r0 : Int32} {vi : Nat → Int32} {vj : Nat → Int64} {va : Nat → Nat → Int32} {vb : Nat → Nat → Int64} (hf : f_Mo_find nf p0 p1 si sj sa sb = some (r0, vi, vj, va, vb)) : Met l y_Mo_find (wd y_Mo_find b_Mo_find 5 (some .int)) ({ frames := 9, cells := 0, slots := 0, locals := 233 }) (MU dC dI (moW h0 r cA si sj sa sb) (moT cA) sz [.ref h0, .int p0, .long p1]) (MV (some (.int r0)) (fun t => va_P (dC, dI) classes (moW h0 r cA vi vj va vb) t.heap) (va_A (moW h0 r cA si sj sa sb) sz)) 0 0 (va_A (moW h0 r cA si sj sa sb) sz) :=
  met_M (plainFor_of_name (by decide)) (Nat.le_of_ble_eq_true rfl) (fun p e R s m args below meth c ls hRc hRs hsz hin C0 hST hK hP hD hl => by
    obtain ⟨hx, hb, hr, hml, hown, hts, hlocks, hRf, hRl⟩ := id C0
    subst hsz
    have hA : ∀ q : Nat, s.heap.size ≤ q → va_A (moW h0 r cA si sj sa sb) s.heap.size q := fun q h => Or.inr h
    have hS : va_S (va_A (moW h0 r cA si sj sa sb) s.heap.size) s.heap s.heap [] := va_S.rf
    unfold f_Mo_find at hf
    exact k_Mo_find_0 C0 hST hA hK (fun pc ls H locs hd hn hP hD hS => W.zret hx hb hr hn (fun t ht hW => ⟨⟨rfl, mo_end ht hP⟩, hS.F ht⟩) hS.2.2 hd) hf hP hD hS (lv_sub hl [0, 1, 2] rfl))
-- ZoneFilesModel.found(I)J
def f_Mo_found_38 (nf : Nat) (s0 : Int64) (si : Nat → Int32) (sj : Nat → Int64) (sa : Nat → Nat → Int32) (sb : Nat → Nat → Int64) : Option (Int64 × (Nat → Int32) × (Nat → Int64) × (Nat → Nat → Int32) × (Nat → Nat → Int64)) :=
  some (s0, si, sj, sa, sb)
def f_Mo_found_18 (nf : Nat) (x1 : Int32) (s0 : Int32) (si : Nat → Int32) (sj : Nat → Int64) (sa : Nat → Nat → Int32) (sb : Nat → Nat → Int64) : Option (Int64 × (Nat → Int32) × (Nat → Int64) × (Nat → Nat → Int32) × (Nat → Nat → Int64)) :=
  if s0 ≤ 0 then
  if x1 < 0 ∨ 64 ≤ x1.toNatClampNeg then none else
    f_Mo_found_38 nf (sb 54 x1.toNatClampNeg) (va_up si 3 s0) sj sa sb
  else
  f_Mo_found_38 nf 0 (va_up si 3 s0) sj sa sb
def f_Mo_found_13 (nf : Nat) (x1 : Int32) (si : Nat → Int32) (sj : Nat → Int64) (sa : Nat → Nat → Int32) (sb : Nat → Nat → Int64) : Option (Int64 × (Nat → Int32) × (Nat → Int64) × (Nat → Nat → Int32) × (Nat → Nat → Int64)) :=
  f_Mo_found_18 nf x1 1 si sj sa sb
def f_Mo_found_0 (nf : Nat) (x1 : Int32) (si : Nat → Int32) (sj : Nat → Int64) (sa : Nat → Nat → Int32) (sb : Nat → Nat → Int64) : Option (Int64 × (Nat → Int32) × (Nat → Int64) × (Nat → Nat → Int32) × (Nat → Nat → Int64)) :=
  if x1 < 0 then
  f_Mo_found_13 nf x1 si sj sa sb
  else
  if x1 < (si 55) then
    f_Mo_found_18 nf x1 0 si sj sa sb
    else
    f_Mo_found_13 nf x1 si sj sa sb
def f_Mo_found (nf : Nat) (p0 : Int32) (si : Nat → Int32) (sj : Nat → Int64) (sa : Nat → Nat → Int32) (sb : Nat → Nat → Int64) : Option (Int64 × (Nat → Int32) × (Nat → Int64) × (Nat → Nat → Int32) × (Nat → Nat → Int64)) :=
  f_Mo_found_0 nf p0 si sj sa sb
section
variable {p : Program} {l : Launch} {e : Env} {R : Room} {s : State} {m : MethodId} {args : Array Value} {below : List Frame} {meth : Method} {c : Code} {Q : State → Prop} {dC : Nat → ClassId} {dI : Nat → Nat → Nat} {nf : Nat} {A : Nat → Prop} {h0 : Nat} {r : Nat → Nat} {cA : Nat → ClassId}
variable {r0 : Int64} {vi : Nat → Int32} {vj : Nat → Int64} {va : Nat → Nat → Int32} {vb : Nat → Nat → Int64}
set_option maxHeartbeats 400000 in
set_option maxRecDepth 100000 in
theorem k_Mo_found_38 (C0 : Cx p s m meth c args R b_Mo_found "ZoneFilesModel" 2 (some .long) 0 0) (hST : ST A s s.heap) (hA : ∀ q, s.heap.size ≤ q → A q) (hK : va_K (dC, dI) classes (moT cA) s) (hE : ∀ (pc : Nat) (ls : Array Slot) (H : Heap) (locs : List Loc), decode b_Mo_found pc = .ok (.lreturn, 1) → va_P (dC, dI) classes (moW h0 r cA vi vj va vb) H → va_D A (moW h0 r cA vi vj va vb) → va_S A s.heap H locs → W p l e R s m args below meth c H locs 0 0 Q (F0 m pc ls [.long r0])) {s0 : Int64} {si : Nat → Int32} {sj : Nat → Int64} {sa : Nat → Nat → Int32} {sb : Nat → Nat → Int64} (hf : f_Mo_found_38 nf s0 si sj sa sb = some (r0, vi, vj, va, vb)) {H : Heap} {locs : List Loc} {ls : Array Slot} (hP : va_P (dC, dI) classes (moW h0 r cA si sj sa sb) H) (hD : va_D A (moW h0 r cA si sj sa sb)) (hS : va_S A s.heap H locs) (hl : lv_has ls 2 []) : W p l e R s m args below meth c H locs 0 0 Q (F0 m 38 ls [.long s0]) := by
  obtain ⟨hx, hb, hr, hml, hown, hts, hlocks, hRf, hRl⟩ := id C0
  unfold f_Mo_found_38 at hf
  cases rs hf
  exact hE _ _ _ _ d_Mo_found_38 hP hD hS
set_option maxHeartbeats 400000 in
set_option maxRecDepth 100000 in
theorem k_Mo_found_18 (C0 : Cx p s m meth c args R b_Mo_found "ZoneFilesModel" 2 (some .long) 0 0) (hST : ST A s s.heap) (hA : ∀ q, s.heap.size ≤ q → A q) (hK : va_K (dC, dI) classes (moT cA) s) (hE : ∀ (pc : Nat) (ls : Array Slot) (H : Heap) (locs : List Loc), decode b_Mo_found pc = .ok (.lreturn, 1) → va_P (dC, dI) classes (moW h0 r cA vi vj va vb) H → va_D A (moW h0 r cA vi vj va vb) → va_S A s.heap H locs → W p l e R s m args below meth c H locs 0 0 Q (F0 m pc ls [.long r0])) {x1 : Int32} {s0 : Int32} {si : Nat → Int32} {sj : Nat → Int64} {sa : Nat → Nat → Int32} {sb : Nat → Nat → Int64} (hf : f_Mo_found_18 nf x1 s0 si sj sa sb = some (r0, vi, vj, va, vb)) {H : Heap} {locs : List Loc} {ls : Array Slot} (hP : va_P (dC, dI) classes (moW h0 r cA si sj sa sb) H) (hD : va_D A (moW h0 r cA si sj sa sb)) (hS : va_S A s.heap H locs) (hl : lv_has ls 2 [(0, .ref h0), (1, .int x1)]) : W p l e R s m args below meth c H locs 0 0 Q (F0 m 18 ls [.int s0, .ref h0]) := by
  obtain ⟨hx, hb, hr, hml, hown, hts, hlocks, hRf, hRl⟩ := id C0
  unfold f_Mo_found_18 at hf
  refine mp_3 hx hb hts hown hK hP hD hS d_Mo_found_18 (fun H locs hP hD hS => ?_)
  refine lv_aload_n hx hb d_Mo_found_21 rfl (lv_at hl 0 rfl) ?_
  refine mg_3 (v := s0) hx hb hts hown hK hP rfl d_Mo_found_22 ?_
  refine lv_if_le (tgt := 32) hx hb d_Mo_found_25 (by decide) (fun c_2 => ?_) (fun c_2 => ?_)
  · have hf := it_t c_2 hf
    refine lv_aload_n hx hb d_Mo_found_32 rfl (lv_at hl 0 rfl) ?_
    refine mg_54 hx hb hts hown hK hP d_Mo_found_33 ?_
    refine lv_iload_n hx hb d_Mo_found_36 rfl (lv_at hl 1 rfl) ?_
    obtain ⟨c_3, hf⟩ := it_n hf
    refine ma_54 (v := sb 54 x1.toNatClampNeg) hx hb hK hP c_3 rfl d_Mo_found_37 ?_
    exact k_Mo_found_38 C0 hST hA hK hE hf hP hD hS (lv_sub hl [] rfl)
  · have hf := it_f c_2 hf
    refine lv_lconst (v := 0) hx hb d_Mo_found_28 (by decide) ?_
    refine lv_goto (tgt := 38) hx hb d_Mo_found_29 (by decide) ?_
    exact k_Mo_found_38 C0 hST hA hK hE hf hP hD hS (lv_sub hl [] rfl)
set_option maxHeartbeats 400000 in
set_option maxRecDepth 100000 in
theorem k_Mo_found_13 (C0 : Cx p s m meth c args R b_Mo_found "ZoneFilesModel" 2 (some .long) 0 0) (hST : ST A s s.heap) (hA : ∀ q, s.heap.size ≤ q → A q) (hK : va_K (dC, dI) classes (moT cA) s) (hE : ∀ (pc : Nat) (ls : Array Slot) (H : Heap) (locs : List Loc), decode b_Mo_found pc = .ok (.lreturn, 1) → va_P (dC, dI) classes (moW h0 r cA vi vj va vb) H → va_D A (moW h0 r cA vi vj va vb) → va_S A s.heap H locs → W p l e R s m args below meth c H locs 0 0 Q (F0 m pc ls [.long r0])) {x1 : Int32} {si : Nat → Int32} {sj : Nat → Int64} {sa : Nat → Nat → Int32} {sb : Nat → Nat → Int64} (hf : f_Mo_found_13 nf x1 si sj sa sb = some (r0, vi, vj, va, vb)) {H : Heap} {locs : List Loc} {ls : Array Slot} (hP : va_P (dC, dI) classes (moW h0 r cA si sj sa sb) H) (hD : va_D A (moW h0 r cA si sj sa sb)) (hS : va_S A s.heap H locs) (hl : lv_has ls 2 [(0, .ref h0), (1, .int x1)]) : W p l e R s m args below meth c H locs 0 0 Q (F0 m 13 ls [.ref h0]) := by
  obtain ⟨hx, hb, hr, hml, hown, hts, hlocks, hRf, hRl⟩ := id C0
  unfold f_Mo_found_13 at hf
  refine lv_iconst (v := 1) hx hb d_Mo_found_13 (by decide) ?_
  refine lv_goto (tgt := 18) hx hb d_Mo_found_14 (by decide) ?_
  exact k_Mo_found_18 C0 hST hA hK hE hf hP hD hS (lv_sub hl [0, 1] rfl)
set_option maxHeartbeats 400000 in
set_option maxRecDepth 100000 in
theorem k_Mo_found_0 (C0 : Cx p s m meth c args R b_Mo_found "ZoneFilesModel" 2 (some .long) 0 0) (hST : ST A s s.heap) (hA : ∀ q, s.heap.size ≤ q → A q) (hK : va_K (dC, dI) classes (moT cA) s) (hE : ∀ (pc : Nat) (ls : Array Slot) (H : Heap) (locs : List Loc), decode b_Mo_found pc = .ok (.lreturn, 1) → va_P (dC, dI) classes (moW h0 r cA vi vj va vb) H → va_D A (moW h0 r cA vi vj va vb) → va_S A s.heap H locs → W p l e R s m args below meth c H locs 0 0 Q (F0 m pc ls [.long r0])) {x1 : Int32} {si : Nat → Int32} {sj : Nat → Int64} {sa : Nat → Nat → Int32} {sb : Nat → Nat → Int64} (hf : f_Mo_found_0 nf x1 si sj sa sb = some (r0, vi, vj, va, vb)) {H : Heap} {locs : List Loc} {ls : Array Slot} (hP : va_P (dC, dI) classes (moW h0 r cA si sj sa sb) H) (hD : va_D A (moW h0 r cA si sj sa sb)) (hS : va_S A s.heap H locs) (hl : lv_has ls 2 [(0, .ref h0), (1, .int x1)]) : W p l e R s m args below meth c H locs 0 0 Q (F0 m 0 ls []) := by
  obtain ⟨hx, hb, hr, hml, hown, hts, hlocks, hRf, hRl⟩ := id C0
  unfold f_Mo_found_0 at hf
  refine lv_aload_n hx hb d_Mo_found_0 rfl (lv_at hl 0 rfl) ?_
  refine lv_iload_n hx hb d_Mo_found_1 rfl (lv_at hl 1 rfl) ?_
  refine lv_if_lt (tgt := 13) hx hb d_Mo_found_2 (by decide) (fun c_1 => ?_) (fun c_1 => ?_)
  · have hf := it_t c_1 hf
    exact k_Mo_found_13 C0 hST hA hK hE hf hP hD hS (lv_sub hl [0, 1] rfl)
  · have hf := it_f c_1 hf
    refine lv_iload_n hx hb d_Mo_found_5 rfl (lv_at hl 1 rfl) ?_
    refine lv_aload_n hx hb d_Mo_found_6 rfl (lv_at hl 0 rfl) ?_
    refine mg_55 (v := si 55) hx hb hts hown hK hP rfl d_Mo_found_7 ?_
    refine lv_icmp_lt (tgt := 17) hx hb d_Mo_found_10 (by decide) (fun c_4 => ?_) (fun c_4 => ?_)
    · have hf := it_t c_4 hf
      refine lv_iconst (v := 0) hx hb d_Mo_found_17 (by decide) ?_
      exact k_Mo_found_18 C0 hST hA hK hE hf hP hD hS (lv_sub hl [0, 1] rfl)
    · have hf := it_f c_4 hf
      exact k_Mo_found_13 C0 hST hA hK hE hf hP hD hS (lv_sub hl [0, 1] rfl)
end
set_option maxHeartbeats 400000 in
set_option maxRecDepth 100000 in
theorem c_Mo_found (l : Launch) (dC : Nat → ClassId) (dI : Nat → Nat → Nat) (h0 : Nat) (r : Nat → Nat) (cA : Nat → ClassId) (sz : Nat) (nf : Nat) (p0 : Int32) (si : Nat → Int32) (sj : Nat → Int64) (sa : Nat → Nat → Int32) (sb : Nat → Nat → Int64) {r0 : Int64} {vi : Nat → Int32} {vj : Nat → Int64} {va : Nat → Nat → Int32} {vb : Nat → Nat → Int64} (hf : f_Mo_found nf p0 si sj sa sb = some (r0, vi, vj, va, vb)) : Met l y_Mo_found (wd y_Mo_found b_Mo_found 2 (some .long)) ({ frames := 0, cells := 0, slots := 0, locals := 0 }) (MU dC dI (moW h0 r cA si sj sa sb) (moT cA) sz [.ref h0, .int p0]) (MV (some (.long r0)) (fun t => va_P (dC, dI) classes (moW h0 r cA vi vj va vb) t.heap) (va_A (moW h0 r cA si sj sa sb) sz)) 0 0 (va_A (moW h0 r cA si sj sa sb) sz) :=
  met_M (plainFor_of_name (by decide)) (Nat.le_of_ble_eq_true rfl) (fun p e R s m args below meth c ls hRc hRs hsz hin C0 hST hK hP hD hl => by
    obtain ⟨hx, hb, hr, hml, hown, hts, hlocks, hRf, hRl⟩ := id C0
    subst hsz
    have hA : ∀ q : Nat, s.heap.size ≤ q → va_A (moW h0 r cA si sj sa sb) s.heap.size q := fun q h => Or.inr h
    have hS : va_S (va_A (moW h0 r cA si sj sa sb) s.heap.size) s.heap s.heap [] := va_S.rf
    unfold f_Mo_found at hf
    exact k_Mo_found_0 C0 hST hA hK (fun pc ls H locs hd hP hD hS => W.lret hx hb hr (fun t ht hW => ⟨⟨rfl, mo_end ht hP⟩, hS.F ht⟩) hS.2.2 hd) hf hP hD hS (lv_sub hl [0, 1] rfl))
-- ZoneFilesModel.isStep(IJ)Z
def f_Mo_isStep_16 (nf : Nat) (si : Nat → Int32) (sj : Nat → Int64) (sa : Nat → Nat → Int32) (sb : Nat → Nat → Int64) : Option (Int32 × (Nat → Int32) × (Nat → Int64) × (Nat → Nat → Int32) × (Nat → Nat → Int64)) :=
  some (0, si, sj, sa, sb)
def f_Mo_isStep_48 (nf : Nat) (s0 : Int32) (si : Nat → Int32) (sj : Nat → Int64) (sa : Nat → Nat → Int32) (sb : Nat → Nat → Int64) : Option (Int32 × (Nat → Int32) × (Nat → Int64) × (Nat → Nat → Int32) × (Nat → Nat → Int64)) :=
  if s0 = 0 ∨ s0 = 1 then some (s0, si, sj, sa, sb) else none
def f_Mo_isStep_0 (nf : Nat) (x1 : Int32) (x2 : Int64) (si : Nat → Int32) (sj : Nat → Int64) (sa : Nat → Nat → Int32) (sb : Nat → Nat → Int64) : Option (Int32 × (Nat → Int32) × (Nat → Int64) × (Nat → Nat → Int32) × (Nat → Nat → Int64)) :=
  (f_Mo_isInstant nf x2).bind fun r_1 =>
  if r_1 = 0 then
  f_Mo_isStep_16 nf si sj sa sb
  else
  (f_Mo_isInstant nf (x2 - 1)).bind fun r_3 =>
    if r_3 = 0 then
    f_Mo_isStep_16 nf si sj sa sb
    else
    (f_Mo_state nf x1 (x2 - 1) si sj sa sb).bind fun (i_5, j_6, a_7, b_8) =>
      (f_Mo_keep nf i_5 j_6 a_7 b_8).bind fun (i_9, j_10, a_11, b_12) =>
      (f_Mo_state nf x1 x2 i_9 j_10 a_11 b_12).bind fun (i_13, j_14, a_15, b_16) =>
      (f_Mo_isKept nf i_13 j_14 a_15 b_16).bind fun r_17 =>
      if r_17 = 0 then
      f_Mo_isStep_48 nf 1 i_13 j_14 a_15 b_16
      else
      f_Mo_isStep_48 nf 0 i_13 j_14 a_15 b_16
def f_Mo_isStep (nf : Nat) (p0 : Int32) (p1 : Int64) (si : Nat → Int32) (sj : Nat → Int64) (sa : Nat → Nat → Int32) (sb : Nat → Nat → Int64) : Option (Int32 × (Nat → Int32) × (Nat → Int64) × (Nat → Nat → Int32) × (Nat → Nat → Int64)) :=
  f_Mo_isStep_0 nf p0 p1 si sj sa sb
section
variable {p : Program} {l : Launch} {e : Env} {R : Room} {s : State} {m : MethodId} {args : Array Value} {below : List Frame} {meth : Method} {c : Code} {Q : State → Prop} {dC : Nat → ClassId} {dI : Nat → Nat → Nat} {nf : Nat} {A : Nat → Prop} {h0 : Nat} {r : Nat → Nat} {cA : Nat → ClassId}
variable {r0 : Int32} {vi : Nat → Int32} {vj : Nat → Int64} {va : Nat → Nat → Int32} {vb : Nat → Nat → Int64}
set_option maxHeartbeats 400000 in
set_option maxRecDepth 100000 in
theorem k_Mo_isStep_16 (C0 : Cx p s m meth c args R b_Mo_isStep "ZoneFilesModel" 4 (some .boolean) 8 204) (hST : ST A s s.heap) (hA : ∀ q, s.heap.size ≤ q → A q) (hK : va_K (dC, dI) classes (moT cA) s) (hE : ∀ (pc : Nat) (ls : Array Slot) (H : Heap) (locs : List Loc), decode b_Mo_isStep pc = .ok (.ireturn, 1) → narrow .boolean (.int r0) = .int r0 → va_P (dC, dI) classes (moW h0 r cA vi vj va vb) H → va_D A (moW h0 r cA vi vj va vb) → va_S A s.heap H locs → W p l e R s m args below meth c H locs 0 0 Q (F0 m pc ls [.int r0])) {si : Nat → Int32} {sj : Nat → Int64} {sa : Nat → Nat → Int32} {sb : Nat → Nat → Int64} (hf : f_Mo_isStep_16 nf si sj sa sb = some (r0, vi, vj, va, vb)) {H : Heap} {locs : List Loc} {ls : Array Slot} (hP : va_P (dC, dI) classes (moW h0 r cA si sj sa sb) H) (hD : va_D A (moW h0 r cA si sj sa sb)) (hS : va_S A s.heap H locs) (hl : lv_has ls 4 []) : W p l e R s m args below meth c H locs 0 0 Q (F0 m 16 ls []) := by
  obtain ⟨hx, hb, hr, hml, hown, hts, hlocks, hRf, hRl⟩ := id C0
  unfold f_Mo_isStep_16 at hf
  refine lv_iconst (v := 0) hx hb d_Mo_isStep_16 (by decide) ?_
  cases rs hf
  exact hE _ _ _ _ d_Mo_isStep_17 rfl hP hD hS
set_option maxHeartbeats 400000 in
set_option maxRecDepth 100000 in
theorem k_Mo_isStep_48 (C0 : Cx p s m meth c args R b_Mo_isStep "ZoneFilesModel" 4 (some .boolean) 8 204) (hST : ST A s s.heap) (hA : ∀ q, s.heap.size ≤ q → A q) (hK : va_K (dC, dI) classes (moT cA) s) (hE : ∀ (pc : Nat) (ls : Array Slot) (H : Heap) (locs : List Loc), decode b_Mo_isStep pc = .ok (.ireturn, 1) → narrow .boolean (.int r0) = .int r0 → va_P (dC, dI) classes (moW h0 r cA vi vj va vb) H → va_D A (moW h0 r cA vi vj va vb) → va_S A s.heap H locs → W p l e R s m args below meth c H locs 0 0 Q (F0 m pc ls [.int r0])) {s0 : Int32} {si : Nat → Int32} {sj : Nat → Int64} {sa : Nat → Nat → Int32} {sb : Nat → Nat → Int64} (hf : f_Mo_isStep_48 nf s0 si sj sa sb = some (r0, vi, vj, va, vb)) {H : Heap} {locs : List Loc} {ls : Array Slot} (hP : va_P (dC, dI) classes (moW h0 r cA si sj sa sb) H) (hD : va_D A (moW h0 r cA si sj sa sb)) (hS : va_S A s.heap H locs) (hl : lv_has ls 4 []) : W p l e R s m args below meth c H locs 0 0 Q (F0 m 48 ls [.int s0]) := by
  obtain ⟨hx, hb, hr, hml, hown, hts, hlocks, hRf, hRl⟩ := id C0
  unfold f_Mo_isStep_48 at hf
  obtain ⟨c_19, hf⟩ := it_g hf
  cases rs hf
  exact hE _ _ _ _ d_Mo_isStep_48 (nb_of c_19) hP hD hS
set_option maxHeartbeats 400000 in
set_option maxRecDepth 100000 in
theorem k_Mo_isStep_0 (C0 : Cx p s m meth c args R b_Mo_isStep "ZoneFilesModel" 4 (some .boolean) 8 204) (hST : ST A s s.heap) (hA : ∀ q, s.heap.size ≤ q → A q) (hK : va_K (dC, dI) classes (moT cA) s) (hE : ∀ (pc : Nat) (ls : Array Slot) (H : Heap) (locs : List Loc), decode b_Mo_isStep pc = .ok (.ireturn, 1) → narrow .boolean (.int r0) = .int r0 → va_P (dC, dI) classes (moW h0 r cA vi vj va vb) H → va_D A (moW h0 r cA vi vj va vb) → va_S A s.heap H locs → W p l e R s m args below meth c H locs 0 0 Q (F0 m pc ls [.int r0])) {x1 : Int32} {x2 : Int64} {si : Nat → Int32} {sj : Nat → Int64} {sa : Nat → Nat → Int32} {sb : Nat → Nat → Int64} (hf : f_Mo_isStep_0 nf x1 x2 si sj sa sb = some (r0, vi, vj, va, vb)) {H : Heap} {locs : List Loc} {ls : Array Slot} (hP : va_P (dC, dI) classes (moW h0 r cA si sj sa sb) H) (hD : va_D A (moW h0 r cA si sj sa sb)) (hS : va_S A s.heap H locs) (hl : lv_has ls 4 [(0, .ref h0), (1, .int x1), (2, .long x2)]) : W p l e R s m args below meth c H locs 0 0 Q (F0 m 0 ls []) := by
  obtain ⟨hx, hb, hr, hml, hown, hts, hlocks, hRf, hRl⟩ := id C0
  unfold f_Mo_isStep_0 at hf
  refine lv_lload_n hx hb d_Mo_isStep_0 rfl (lv_at hl 2 rfl) ?_
  obtain ⟨r_1, hc, hf⟩ := ob hf
  refine cl_S (v := (some (.int r_1))) (st1 := [.int r_1]) (va_runS (As := [.long x2]) (rest := []) ⟨hx, hb, hml, hown, hts⟩ (c_Mo_isInstant l dC dI nf x2 hc) (va_cwS 1 hts (gdS m_7_159 m_7_160 m_1_10 m_7_161) rfl rfl rfl (by decide +kernel) ⟨Nat.le_trans (Nat.le_of_ble_eq_true rfl) hRf, Nat.le_trans (Nat.le_of_ble_eq_true rfl) hRl⟩) (RO.pre0 hK (hST.ro hS)).sta rfl rfl hl.1 rfl (lv_room (Nat.le_of_ble_eq_true rfl)) d_Mo_isStep_1 ⟨Nat.zero_le _, Nat.zero_le _⟩) rfl ?_
  refine lv_if_eq (tgt := 16) hx hb d_Mo_isStep_4 (by decide) (fun c_2 => ?_) (fun c_2 => ?_)
  · have hf := it_t c_2 hf
    exact k_Mo_isStep_16 C0 hST hA hK hE hf hP hD hS (lv_sub hl [] rfl)
  · have hf := it_f c_2 hf
    refine lv_lload_n hx hb d_Mo_isStep_7 rfl (lv_at hl 2 rfl) ?_
    refine lv_lconst (v := 1) hx hb d_Mo_isStep_8 (by decide) ?_
    refine lv_lsub hx hb d_Mo_isStep_9 ?_
    obtain ⟨r_3, hc, hf⟩ := ob hf
    refine cl_S (v := (some (.int r_3))) (st1 := [.int r_3]) (va_runS (As := [.long (x2 - 1)]) (rest := []) ⟨hx, hb, hml, hown, hts⟩ (c_Mo_isInstant l dC dI nf (x2 - 1) hc) (va_cwS 1 hts (gdS m_7_159 m_7_160 m_1_10 m_7_161) rfl rfl rfl (by decide +kernel) ⟨Nat.le_trans (Nat.le_of_ble_eq_true rfl) hRf, Nat.le_trans (Nat.le_of_ble_eq_true rfl) hRl⟩) (RO.pre0 hK (hST.ro hS)).sta rfl rfl hl.1 rfl (lv_room (Nat.le_of_ble_eq_true rfl)) d_Mo_isStep_10 ⟨Nat.zero_le _, Nat.zero_le _⟩) rfl ?_
    refine lv_if_ne (tgt := 18) hx hb d_Mo_isStep_13 (by decide) (fun c_4 => ?_) (fun c_4 => ?_)
    · have hf := it_f c_4 hf
      refine lv_aload_n hx hb d_Mo_isStep_18 rfl (lv_at hl 0 rfl) ?_
      refine lv_iload_n hx hb d_Mo_isStep_19 rfl (lv_at hl 1 rfl) ?_
      refine lv_lload_n hx hb d_Mo_isStep_20 rfl (lv_at hl 2 rfl) ?_
      refine lv_lconst (v := 1) hx hb d_Mo_isStep_21 (by decide) ?_
      refine lv_lsub hx hb d_Mo_isStep_22 ?_
      obtain ⟨⟨i_5, j_6, a_7, b_8⟩, hc, hf⟩ := ob hf
      have hFc := mo_free hD hS hA
      refine cl_M (v := none) (st1 := []) (va_runV (As := [.int x1, .long (x2 - 1)]) (rest := []) ⟨hx, hb, hml, hown, hts⟩ (c_Mo_state l dC dI h0 r cA H.size nf x1 (x2 - 1) si sj sa sb hc) (cwV 2 hts (gdV m_8_49 m_8_51 msel_84 m_1_10 m_8_52) rfl rfl rfl (by decide +kernel) ⟨Nat.le_trans (Nat.le_of_ble_eq_true rfl) hRf, Nat.le_trans (Nat.le_of_ble_eq_true rfl) hRl⟩) ((MU.pre hP hK hD (hST.mu hS hFc)).vir (va_recv hK hP (ci := 10) (q0 := 0) rfl rfl)) rfl rfl hl.1 rfl (lv_room (Nat.le_of_ble_eq_true rfl)) d_Mo_isStep_23 ⟨Nat.zero_le _, Nat.zero_le _⟩) rfl hS (fun q _ h => hFc q h) hFc (fun t H1 locs ht hvm hB hz1 hk1 hS => ?_)
      obtain ⟨hP, hD⟩ := mo_back ht hD hB
      generalize H1 = H at hP hS ⊢
      refine lv_aload_n hx hb d_Mo_isStep_26 rfl (lv_at hl 0 rfl) ?_
      obtain ⟨⟨i_9, j_10, a_11, b_12⟩, hc, hf⟩ := ob hf
      have hFc := mo_free hD hS hA
      refine cl_M (v := none) (st1 := []) (va_runV (As := []) (rest := []) ⟨hx, hb, hml, hown, hts⟩ (c_Mo_keep l dC dI h0 r cA H.size nf i_5 j_6 a_7 b_8 hc) (cwV 0 hts (gdV m_7_204 m_7_206 msel_74 m_1_10 m_7_207) rfl rfl rfl (by decide +kernel) ⟨Nat.le_trans (Nat.le_of_ble_eq_true rfl) hRf, Nat.le_trans (Nat.le_of_ble_eq_true rfl) hRl⟩) ((MU.pre hP hK hD (hST.mu hS hFc)).vir (va_recv hK hP (ci := 10) (q0 := 0) rfl rfl)) rfl rfl hl.1 rfl (lv_room (Nat.le_of_ble_eq_true rfl)) d_Mo_isStep_27 ⟨Nat.zero_le _, Nat.zero_le _⟩) rfl hS (fun q _ h => hFc q h) hFc (fun t H1 locs ht hvm hB hz1 hk1 hS => ?_)
      obtain ⟨hP, hD⟩ := mo_back ht hD hB
      generalize H1 = H at hP hS ⊢
      refine lv_aload_n hx hb d_Mo_isStep_30 rfl (lv_at hl 0 rfl) ?_
      refine lv_iload_n hx hb d_Mo_isStep_31 rfl (lv_at hl 1 rfl) ?_
      refine lv_lload_n hx hb d_Mo_isStep_32 rfl (lv_at hl 2 rfl) ?_
      obtain ⟨⟨i_13, j_14, a_15, b_16⟩, hc, hf⟩ := ob hf
      have hFc := mo_free hD hS hA
      refine cl_M (v := none) (st1 := []) (va_runV (As := [.int x1, .long x2]) (rest := []) ⟨hx, hb, hml, hown, hts⟩ (c_Mo_state l dC dI h0 r cA H.size nf x1 x2 i_9 j_10 a_11 b_12 hc) (cwV 2 hts (gdV m_8_49 m_8_51 msel_84 m_1_10 m_8_52) rfl rfl rfl (by decide +kernel) ⟨Nat.le_trans (Nat.le_of_ble_eq_true rfl) hRf, Nat.le_trans (Nat.le_of_ble_eq_true rfl) hRl⟩) ((MU.pre hP hK hD (hST.mu hS hFc)).vir (va_recv hK hP (ci := 10) (q0 := 0) rfl rfl)) rfl rfl hl.1 rfl (lv_room (Nat.le_of_ble_eq_true rfl)) d_Mo_isStep_33 ⟨Nat.zero_le _, Nat.zero_le _⟩) rfl hS (fun q _ h => hFc q h) hFc (fun t H1 locs ht hvm hB hz1 hk1 hS => ?_)
      obtain ⟨hP, hD⟩ := mo_back ht hD hB
      generalize H1 = H at hP hS ⊢
      refine lv_aload_n hx hb d_Mo_isStep_36 rfl (lv_at hl 0 rfl) ?_
      obtain ⟨r_17, hc, hf⟩ := ob hf
      refine cl_S (v := (some (.int r_17))) (st1 := [.int r_17]) (va_runV (As := []) (rest := []) ⟨hx, hb, hml, hown, hts⟩ (c_Mo_isKept l dC dI h0 r cA nf i_13 j_14 a_15 b_16 hc) (cwV 0 hts (gdV m_8_24 m_8_26 msel_82 m_1_10 m_8_27) rfl rfl rfl (by decide +kernel) ⟨Nat.le_trans (Nat.le_of_ble_eq_true rfl) hRf, Nat.le_trans (Nat.le_of_ble_eq_true rfl) hRl⟩) ((RO.pre hP hK (hST.ro hS)).vir (va_recv hK hP (ci := 10) (q0 := 0) rfl rfl)) rfl rfl hl.1 rfl (lv_room (Nat.le_of_ble_eq_true rfl)) d_Mo_isStep_37 ⟨Nat.zero_le _, Nat.zero_le _⟩) rfl ?_
      refine lv_if_ne (tgt := 47) hx hb d_Mo_isStep_40 (by decide) (fun c_18 => ?_) (fun c_18 => ?_)
      · have hf := it_f c_18 hf
        refine lv_iconst (v := 0) hx hb d_Mo_isStep_47 (by decide) ?_
        exact k_Mo_isStep_48 C0 hST hA hK hE hf hP hD hS (lv_sub hl [] rfl)
      · have hf := it_t c_18 hf
        refine lv_iconst (v := 1) hx hb d_Mo_isStep_43 (by decide) ?_
        refine lv_goto (tgt := 48) hx hb d_Mo_isStep_44 (by decide) ?_
        exact k_Mo_isStep_48 C0 hST hA hK hE hf hP hD hS (lv_sub hl [] rfl)
    · have hf := it_t c_4 hf
      exact k_Mo_isStep_16 C0 hST hA hK hE hf hP hD hS (lv_sub hl [] rfl)
end
set_option maxHeartbeats 400000 in
set_option maxRecDepth 100000 in
theorem c_Mo_isStep (l : Launch) (dC : Nat → ClassId) (dI : Nat → Nat → Nat) (h0 : Nat) (r : Nat → Nat) (cA : Nat → ClassId) (sz : Nat) (nf : Nat) (p0 : Int32) (p1 : Int64) (si : Nat → Int32) (sj : Nat → Int64) (sa : Nat → Nat → Int32) (sb : Nat → Nat → Int64) {r0 : Int32} {vi : Nat → Int32} {vj : Nat → Int64} {va : Nat → Nat → Int32} {vb : Nat → Nat → Int64} (hf : f_Mo_isStep nf p0 p1 si sj sa sb = some (r0, vi, vj, va, vb)) : Met l y_Mo_isStep (wd y_Mo_isStep b_Mo_isStep 4 (some .boolean)) ({ frames := 8, cells := 0, slots := 0, locals := 204 }) (MU dC dI (moW h0 r cA si sj sa sb) (moT cA) sz [.ref h0, .int p0, .long p1]) (MV (some (.int r0)) (fun t => va_P (dC, dI) classes (moW h0 r cA vi vj va vb) t.heap) (va_A (moW h0 r cA si sj sa sb) sz)) 0 0 (va_A (moW h0 r cA si sj sa sb) sz) :=
  met_M (plainFor_of_name (by decide)) (Nat.le_of_ble_eq_true rfl) (fun p e R s m args below meth c ls hRc hRs hsz hin C0 hST hK hP hD hl => by
    obtain ⟨hx, hb, hr, hml, hown, hts, hlocks, hRf, hRl⟩ := id C0
    subst hsz
    have hA : ∀ q : Nat, s.heap.size ≤ q → va_A (moW h0 r cA si sj sa sb) s.heap.size q := fun q h => Or.inr h
    have hS : va_S (va_A (moW h0 r cA si sj sa sb) s.heap.size) s.heap s.heap [] := va_S.rf
    unfold f_Mo_isStep at hf
    exact k_Mo_isStep_0 C0 hST hA hK (fun pc ls H locs hd hn hP hD hS => W.zret hx hb hr hn (fun t ht hW => ⟨⟨rfl, mo_end ht hP⟩, hS.F ht⟩) hS.2.2 hd) hf hP hD hS (lv_sub hl [0, 1, 2] rfl))
-- ZoneFilesModel.eventAbove(IJ)J
def f_Mo_eventAbove_74 (nf : Nat) (K20 : Int64 → Int64 → Int64 → Int32 → Int64 → (Nat → Int32) → (Nat → Int64) → (Nat → Nat → Int32) → (Nat → Nat → Int64) → Option (Int64 × (Nat → Int32) × (Nat → Int64) × (Nat → Nat → Int32) × (Nat → Nat → Int64))) (K35 : Int32 → Int64 → Int64 → Int64 → Int32 → Int64 → (Nat → Int32) → (Nat → Int64) → (Nat → Nat → Int32) → (Nat → Nat → Int64) → Option (Int64 × (Nat → Int32) × (Nat → Int64) × (Nat → Nat → Int32) × (Nat → Nat → Int64))) (x10 : Int32) (x8 : Int64) (x4 : Int64) (x1 : Int32) (x2 : Int64) (s0 : Int64) (si : Nat → Int32) (sj : Nat → Int64) (sa : Nat → Nat → Int32) (sb : Nat → Nat → Int64) : Option (Int64 × (Nat → Int32) × (Nat → Int64) × (Nat → Nat → Int32) × (Nat → Nat → Int64)) :=
  K35 (x10 + 1) x8 s0 x4 x1 x2 si sj sa sb
def f_Mo_eventAbove_72 (nf : Nat) (K20 : Int64 → Int64 → Int64 → Int32 → Int64 → (Nat → Int32) → (Nat → Int64) → (Nat → Nat → Int32) → (Nat → Nat → Int64) → Option (Int64 × (Nat → Int32) × (Nat → Int64) × (Nat → Nat → Int32) × (Nat → Nat → Int64))) (K35 : Int32 → Int64 → Int64 → Int64 → Int32 → Int64 → (Nat → Int32) → (Nat → Int64) → (Nat → Nat → Int32) → (Nat → Nat → Int64) → Option (Int64 × (Nat → Int32) × (Nat → Int64) × (Nat → Nat → Int32) × (Nat → Nat → Int64))) (x10 : Int32) (x8 : Int64) (x6 : Int64) (x4 : Int64) (x1 : Int32) (x2 : Int64) (si : Nat → Int32) (sj : Nat → Int64) (sa : Nat → Nat → Int32) (sb : Nat → Nat → Int64) : Option (Int64 × (Nat → Int32) × (Nat → Int64) × (Nat → Nat → Int32) × (Nat → Nat → Int64)) :=
  f_Mo_eventAbove_74 nf K20 K35 x10 x8 x4 x1 x2 x6 si sj sa sb
def f_Mo_eventAbove_35 (nf : Nat) (K20 : Int64 → Int64 → Int64 → Int32 → Int64 → (Nat → Int32) → (Nat → Int64) → (Nat → Nat → Int32) → (Nat → Nat → Int64) → Option (Int64 × (Nat → Int32) × (Nat → Int64) × (Nat → Nat → Int32) × (Nat → Nat → Int64))) : Nat → Int32 → Int64 → Int64 → Int64 → Int32 → Int64 → (Nat → Int32) → (Nat → Int64) → (Nat → Nat → Int32) → (Nat → Nat → Int64) → Option (Int64 × (Nat → Int32) × (Nat → Int64) × (Nat → Nat → Int32) × (Nat → Nat → Int64))
  | 0, _, _, _, _, _, _, _, _, _, _ => none
  | n + 1, x10, x8, x6, x4, x1, x2, si, sj, sa, sb =>
    if (2 : Int32) ≤ x10 then
    K20 (x8 + 1) x6 x4 x1 x2 si sj sa sb
    else
    (f_Mo_event nf x1 x8 x10 si sj sa sb).bind fun r_8 =>
      if r_8 ≤ x2 then
      f_Mo_eventAbove_72 nf K20 (f_Mo_eventAbove_35 nf K20 n) x10 x8 x6 x4 x1 x2 si sj sa sb
      else
      if x6 ≤ r_8 then
        f_Mo_eventAbove_72 nf K20 (f_Mo_eventAbove_35 nf K20 n) x10 x8 x6 x4 x1 x2 si sj sa sb
        else
        f_Mo_eventAbove_74 nf K20 (f_Mo_eventAbove_35 nf K20 n) x10 x8 x4 x1 x2 r_8 si sj sa sb
def f_Mo_eventAbove_20 (nf : Nat) : Nat → Int64 → Int64 → Int64 → Int32 → Int64 → (Nat → Int32) → (Nat → Int64) → (Nat → Nat → Int32) → (Nat → Nat → Int64) → Option (Int64 × (Nat → Int32) × (Nat → Int64) × (Nat → Nat → Int32) × (Nat → Nat → Int64))
  | 0, _, _, _, _, _, _, _, _, _ => none
  | n + 1, x8, x6, x4, x1, x2, si, sj, sa, sb =>
    if (x4 + 3) < x8 then
    some (x6, si, sj, sa, sb)
    else
    f_Mo_eventAbove_35 nf (f_Mo_eventAbove_20 nf n) nf 0 x8 x6 x4 x1 x2 si sj sa sb
def f_Mo_eventAbove_0 (nf : Nat) (x1 : Int32) (x2 : Int64) (si : Nat → Int32) (sj : Nat → Int64) (sa : Nat → Nat → Int32) (sb : Nat → Nat → Int64) : Option (Int64 × (Nat → Int32) × (Nat → Int64) × (Nat → Nat → Int32) × (Nat → Nat → Int64)) :=
  (f_Mo_about nf x2 si sj sa sb).bind fun (z_5, i_1, j_2, a_3, b_4) =>
  f_Mo_eventAbove_20 nf nf (z_5 - 2) 9223372036854775807 z_5 x1 x2 i_1 j_2 a_3 b_4
def f_Mo_eventAbove (nf : Nat) (p0 : Int32) (p1 : Int64) (si : Nat → Int32) (sj : Nat → Int64) (sa : Nat → Nat → Int32) (sb : Nat → Nat → Int64) : Option (Int64 × (Nat → Int32) × (Nat → Int64) × (Nat → Nat → Int32) × (Nat → Nat → Int64)) :=
  f_Mo_eventAbove_0 nf p0 p1 si sj sa sb
section
variable {p : Program} {l : Launch} {e : Env} {R : Room} {s : State} {m : MethodId} {args : Array Value} {below : List Frame} {meth : Method} {c : Code} {Q : State → Prop} {dC : Nat → ClassId} {dI : Nat → Nat → Nat} {nf : Nat} {A : Nat → Prop} {h0 : Nat} {r : Nat → Nat} {cA : Nat → ClassId}
variable {r0 : Int64} {vi : Nat → Int32} {vj : Nat → Int64} {va : Nat → Nat → Int32} {vb : Nat → Nat → Int64}
set_option maxHeartbeats 400000 in
set_option maxRecDepth 100000 in
theorem k_Mo_eventAbove_74 (C0 : Cx p s m meth c args R b_Mo_eventAbove "ZoneFilesModel" 13 (some .long) 5 121) (hST : ST A s s.heap) (hA : ∀ q, s.heap.size ≤ q → A q) (hK : va_K (dC, dI) classes (moT cA) s) (hE : ∀ (pc : Nat) (ls : Array Slot) (H : Heap) (locs : List Loc), decode b_Mo_eventAbove pc = .ok (.lreturn, 1) → va_P (dC, dI) classes (moW h0 r cA vi vj va vb) H → va_D A (moW h0 r cA vi vj va vb) → va_S A s.heap H locs → W p l e R s m args below meth c H locs 0 0 Q (F0 m pc ls [.long r0])) {K20 : Int64 → Int64 → Int64 → Int32 → Int64 → (Nat → Int32) → (Nat → Int64) → (Nat → Nat → Int32) → (Nat → Nat → Int64) → Option (Int64 × (Nat → Int32) × (Nat → Int64) × (Nat → Nat → Int32) × (Nat → Nat → Int64))} (hK20 : ∀ {x8 : Int64} {x6 : Int64} {x4 : Int64} {x1 : Int32} {x2 : Int64} {si : Nat → Int32} {sj : Nat → Int64} {sa : Nat → Nat → Int32} {sb : Nat → Nat → Int64}, K20 x8 x6 x4 x1 x2 si sj sa sb = some (r0, vi, vj, va, vb) → ∀ {H : Heap} {locs : List Loc} {ls : Array Slot}, va_P (dC, dI) classes (moW h0 r cA si sj sa sb) H → va_D A (moW h0 r cA si sj sa sb) → va_S A s.heap H locs → lv_has ls 13 [(8, .long x8), (6, .long x6), (4, .long x4), (0, .ref h0), (1, .int x1), (2, .long x2)] → W p l e R s m args below meth c H locs 0 0 Q (F0 m 20 ls [])) {K35 : Int32 → Int64 → Int64 → Int64 → Int32 → Int64 → (Nat → Int32) → (Nat → Int64) → (Nat → Nat → Int32) → (Nat → Nat → Int64) → Option (Int64 × (Nat → Int32) × (Nat → Int64) × (Nat → Nat → Int32) × (Nat → Nat → Int64))} (hK35 : ∀ {x10 : Int32} {x8 : Int64} {x6 : Int64} {x4 : Int64} {x1 : Int32} {x2 : Int64} {si : Nat → Int32} {sj : Nat → Int64} {sa : Nat → Nat → Int32} {sb : Nat → Nat → Int64}, K35 x10 x8 x6 x4 x1 x2 si sj sa sb = some (r0, vi, vj, va, vb) → ∀ {H : Heap} {locs : List Loc} {ls : Array Slot}, va_P (dC, dI) classes (moW h0 r cA si sj sa sb) H → va_D A (moW h0 r cA si sj sa sb) → va_S A s.heap H locs → lv_has ls 13 [(10, .int x10), (8, .long x8), (6, .long x6), (4, .long x4), (0, .ref h0), (1, .int x1), (2, .long x2)] → W p l e R s m args below meth c H locs 0 0 Q (F0 m 35 ls [])) {x10 : Int32} {x8 : Int64} {x4 : Int64} {x1 : Int32} {x2 : Int64} {s0 : Int64} {si : Nat → Int32} {sj : Nat → Int64} {sa : Nat → Nat → Int32} {sb : Nat → Nat → Int64} (hf : f_Mo_eventAbove_74 nf K20 K35 x10 x8 x4 x1 x2 s0 si sj sa sb = some (r0, vi, vj, va, vb)) {H : Heap} {locs : List Loc} {ls : Array Slot} (hP : va_P (dC, dI) classes (moW h0 r cA si sj sa sb) H) (hD : va_D A (moW h0 r cA si sj sa sb)) (hS : va_S A s.heap H locs) (hl : lv_has ls 13 [(10, .int x10), (8, .long x8), (4, .long x4), (0, .ref h0), (1, .int x1), (2, .long x2)]) : W p l e R s m args below meth c H locs 0 0 Q (F0 m 74 ls [.long s0]) := by
  obtain ⟨hx, hb, hr, hml, hown, hts, hlocks, hRf, hRl⟩ := id C0
  unfold f_Mo_eventAbove_74 at hf
  refine lv_lstore (lv' := [(6, .long s0), (10, .int x10), (8, .long x8), (4, .long x4), (0, .ref h0), (1, .int x1), (2, .long x2)]) hx hb d_Mo_eventAbove_74 hl (by decide) rfl (fun ls hl => ?_)
  refine lv_iinc (v := x10 + 1) (lv' := [(10, .int (x10 + 1)), (6, .long s0), (8, .long x8), (4, .long x4), (0, .ref h0), (1, .int x1), (2, .long x2)]) hx hb d_Mo_eventAbove_76 hl (k := 1) rfl rfl (by decide) rfl (fun ls hl => ?_)
  refine lv_goto (tgt := 35) hx hb d_Mo_eventAbove_79 (by decide) ?_
  exact hK35 hf hP hD hS (lv_sub hl [0, 2, 1, 3, 4, 5, 6] rfl)
set_option maxHeartbeats 400000 in
set_option maxRecDepth 100000 in
theorem k_Mo_eventAbove_72 (C0 : Cx p s m meth c args R b_Mo_eventAbove "ZoneFilesModel" 13 (some .long) 5 121) (hST : ST A s s.heap) (hA : ∀ q, s.heap.size ≤ q → A q) (hK : va_K (dC, dI) classes (moT cA) s) (hE : ∀ (pc : Nat) (ls : Array Slot) (H : Heap) (locs : List Loc), decode b_Mo_eventAbove pc = .ok (.lreturn, 1) → va_P (dC, dI) classes (moW h0 r cA vi vj va vb) H → va_D A (moW h0 r cA vi vj va vb) → va_S A s.heap H locs → W p l e R s m args below meth c H locs 0 0 Q (F0 m pc ls [.long r0])) {K20 : Int64 → Int64 → Int64 → Int32 → Int64 → (Nat → Int32) → (Nat → Int64) → (Nat → Nat → Int32) → (Nat → Nat → Int64) → Option (Int64 × (Nat → Int32) × (Nat → Int64) × (Nat → Nat → Int32) × (Nat → Nat → Int64))} (hK20 : ∀ {x8 : Int64} {x6 : Int64} {x4 : Int64} {x1 : Int32} {x2 : Int64} {si : Nat → Int32} {sj : Nat → Int64} {sa : Nat → Nat → Int32} {sb : Nat → Nat → Int64}, K20 x8 x6 x4 x1 x2 si sj sa sb = some (r0, vi, vj, va, vb) → ∀ {H : Heap} {locs : List Loc} {ls : Array Slot}, va_P (dC, dI) classes (moW h0 r cA si sj sa sb) H → va_D A (moW h0 r cA si sj sa sb) → va_S A s.heap H locs → lv_has ls 13 [(8, .long x8), (6, .long x6), (4, .long x4), (0, .ref h0), (1, .int x1), (2, .long x2)] → W p l e R s m args below meth c H locs 0 0 Q (F0 m 20 ls [])) {K35 : Int32 → Int64 → Int64 → Int64 → Int32 → Int64 → (Nat → Int32) → (Nat → Int64) → (Nat → Nat → Int32) → (Nat → Nat → Int64) → Option (Int64 × (Nat → Int32) × (Nat → Int64) × (Nat → Nat → Int32) × (Nat → Nat → Int64))} (hK35 : ∀ {x10 : Int32} {x8 : Int64} {x6 : Int64} {x4 : Int64} {x1 : Int32} {x2 : Int64} {si : Nat → Int32} {sj : Nat → Int64} {sa : Nat → Nat → Int32} {sb : Nat → Nat → Int64}, K35 x10 x8 x6 x4 x1 x2 si sj sa sb = some (r0, vi, vj, va, vb) → ∀ {H : Heap} {locs : List Loc} {ls : Array Slot}, va_P (dC, dI) classes (moW h0 r cA si sj sa sb) H → va_D A (moW h0 r cA si sj sa sb) → va_S A s.heap H locs → lv_has ls 13 [(10, .int x10), (8, .long x8), (6, .long x6), (4, .long x4), (0, .ref h0), (1, .int x1), (2, .long x2)] → W p l e R s m args below meth c H locs 0 0 Q (F0 m 35 ls [])) {x10 : Int32} {x8 : Int64} {x6 : Int64} {x4 : Int64} {x1 : Int32} {x2 : Int64} {si : Nat → Int32} {sj : Nat → Int64} {sa : Nat → Nat → Int32} {sb : Nat → Nat → Int64} (hf : f_Mo_eventAbove_72 nf K20 K35 x10 x8 x6 x4 x1 x2 si sj sa sb = some (r0, vi, vj, va, vb)) {H : Heap} {locs : List Loc} {ls : Array Slot} (hP : va_P (dC, dI) classes (moW h0 r cA si sj sa sb) H) (hD : va_D A (moW h0 r cA si sj sa sb)) (hS : va_S A s.heap H locs) (hl : lv_has ls 13 [(10, .int x10), (8, .long x8), (6, .long x6), (4, .long x4), (0, .ref h0), (1, .int x1), (2, .long x2)]) : W p l e R s m args below meth c H locs 0 0 Q (F0 m 72 ls []) := by
  obtain ⟨hx, hb, hr, hml, hown, hts, hlocks, hRf, hRl⟩ := id C0
  unfold f_Mo_eventAbove_72 at hf
  refine lv_lload hx hb d_Mo_eventAbove_72 (lv_at hl 2 rfl) ?_
  exact k_Mo_eventAbove_74 C0 hST hA hK hE hK20 hK35 hf hP hD hS (lv_sub hl [0, 1, 3, 4, 5, 6] rfl)
set_option maxHeartbeats 400000 in
set_option maxRecDepth 100000 in
theorem k_Mo_eventAbove_35 (C0 : Cx p s m meth c args R b_Mo_eventAbove "ZoneFilesModel" 13 (some .long) 5 121) (hST : ST A s s.heap) (hA : ∀ q, s.heap.size ≤ q → A q) (hK : va_K (dC, dI) classes (moT cA) s) (hE : ∀ (pc : Nat) (ls : Array Slot) (H : Heap) (locs : List Loc), decode b_Mo_eventAbove pc = .ok (.lreturn, 1) → va_P (dC, dI) classes (moW h0 r cA vi vj va vb) H → va_D A (moW h0 r cA vi vj va vb) → va_S A s.heap H locs → W p l e R s m args below meth c H locs 0 0 Q (F0 m pc ls [.long r0])) {K20 : Int64 → Int64 → Int64 → Int32 → Int64 → (Nat → Int32) → (Nat → Int64) → (Nat → Nat → Int32) → (Nat → Nat → Int64) → Option (Int64 × (Nat → Int32) × (Nat → Int64) × (Nat → Nat → Int32) × (Nat → Nat → Int64))} (hK20 : ∀ {x8 : Int64} {x6 : Int64} {x4 : Int64} {x1 : Int32} {x2 : Int64} {si : Nat → Int32} {sj : Nat → Int64} {sa : Nat → Nat → Int32} {sb : Nat → Nat → Int64}, K20 x8 x6 x4 x1 x2 si sj sa sb = some (r0, vi, vj, va, vb) → ∀ {H : Heap} {locs : List Loc} {ls : Array Slot}, va_P (dC, dI) classes (moW h0 r cA si sj sa sb) H → va_D A (moW h0 r cA si sj sa sb) → va_S A s.heap H locs → lv_has ls 13 [(8, .long x8), (6, .long x6), (4, .long x4), (0, .ref h0), (1, .int x1), (2, .long x2)] → W p l e R s m args below meth c H locs 0 0 Q (F0 m 20 ls [])) : ∀ (n : Nat) {x10 : Int32} {x8 : Int64} {x6 : Int64} {x4 : Int64} {x1 : Int32} {x2 : Int64} {si : Nat → Int32} {sj : Nat → Int64} {sa : Nat → Nat → Int32} {sb : Nat → Nat → Int64}, f_Mo_eventAbove_35 nf K20 n x10 x8 x6 x4 x1 x2 si sj sa sb = some (r0, vi, vj, va, vb) → ∀ {H : Heap} {locs : List Loc} {ls : Array Slot}, va_P (dC, dI) classes (moW h0 r cA si sj sa sb) H → va_D A (moW h0 r cA si sj sa sb) → va_S A s.heap H locs → lv_has ls 13 [(10, .int x10), (8, .long x8), (6, .long x6), (4, .long x4), (0, .ref h0), (1, .int x1), (2, .long x2)] → W p l e R s m args below meth c H locs 0 0 Q (F0 m 35 ls []) := by
  obtain ⟨hx, hb, hr, hml, hown, hts, hlocks, hRf, hRl⟩ := id C0
  intro n
  induction n with
  | zero =>
    intro x10 x8 x6 x4 x1 x2 si sj sa sb hf
    exact absurd hf (by simp [f_Mo_eventAbove_35])
  | succ n ih =>
    intro x10 x8 x6 x4 x1 x2 si sj sa sb hf H locs ls hP hD hS hl
    unfold f_Mo_eventAbove_35 at hf
    refine lv_iload hx hb d_Mo_eventAbove_35 (lv_at hl 0 rfl) ?_
    refine lv_iconst (v := 2) hx hb d_Mo_eventAbove_37 (by decide) ?_
    refine lv_icmp_ge (tgt := 82) hx hb d_Mo_eventAbove_38 (by decide) (fun c_7 => ?_) (fun c_7 => ?_)
    · have hf := it_t c_7 hf
      refine lv_lload hx hb d_Mo_eventAbove_82 (lv_at hl 1 rfl) ?_
      refine lv_lconst (v := 1) hx hb d_Mo_eventAbove_84 (by decide) ?_
      refine lv_ladd hx hb d_Mo_eventAbove_85 ?_
      refine lv_lstore (lv' := [(8, .long (x8 + 1)), (10, .int x10), (6, .long x6), (4, .long x4), (0, .ref h0), (1, .int x1), (2, .long x2)]) hx hb d_Mo_eventAbove_86 hl (by decide) rfl (fun ls hl => ?_)
      refine lv_goto (tgt := 20) hx hb d_Mo_eventAbove_88 (by decide) ?_
      exact hK20 hf hP hD hS (lv_sub hl [0, 2, 3, 4, 5, 6] rfl)
    · have hf := it_f c_7 hf
      refine lv_aload_n hx hb d_Mo_eventAbove_41 rfl (lv_at hl 4 rfl) ?_
      refine lv_iload_n hx hb d_Mo_eventAbove_42 rfl (lv_at hl 5 rfl) ?_
      refine lv_lload hx hb d_Mo_eventAbove_43 (lv_at hl 1 rfl) ?_
      refine lv_iload hx hb d_Mo_eventAbove_45 (lv_at hl 0 rfl) ?_
      obtain ⟨r_8, hc, hf⟩ := ob hf
      refine cl_S (v := (some (.long r_8))) (st1 := [.long r_8]) (va_runV (As := [.int x1, .long x8, .int x10]) (rest := []) ⟨hx, hb, hml, hown, hts⟩ (c_Mo_event l dC dI h0 r cA nf x1 x8 x10 si sj sa sb hc) (cwV 3 hts (gdV m_8_3 m_8_5 msel_80 m_1_10 m_8_6) rfl rfl rfl (by decide +kernel) ⟨Nat.le_trans (Nat.le_of_ble_eq_true rfl) hRf, Nat.le_trans (Nat.le_of_ble_eq_true rfl) hRl⟩) ((RO.pre hP hK (hST.ro hS)).vir (va_recv hK hP (ci := 10) (q0 := 0) rfl rfl)) rfl rfl hl.1 rfl (lv_room (Nat.le_of_ble_eq_true rfl)) d_Mo_eventAbove_47 ⟨Nat.zero_le _, Nat.zero_le _⟩) rfl ?_
      refine lv_lstore (lv' := [(11, .long r_8), (10, .int x10), (8, .long x8), (6, .long x6), (4, .long x4), (0, .ref h0), (1, .int x1), (2, .long x2)]) hx hb d_Mo_eventAbove_50 hl (by decide) rfl (fun ls hl => ?_)
      refine lv_lload hx hb d_Mo_eventAbove_52 (lv_at hl 0 rfl) ?_
      refine lv_lload_n hx hb d_Mo_eventAbove_54 rfl (lv_at hl 7 rfl) ?_
      refine lc_le (tgt := 72) hx hb d_Mo_eventAbove_55 d_Mo_eventAbove_56 (by decide) (fun c_9 => ?_) (fun c_9 => ?_)
      · have hf := it_t c_9 hf
        exact k_Mo_eventAbove_72 C0 hST hA hK hE hK20 (fun hf => ih hf) hf hP hD hS (lv_sub hl [1, 2, 3, 4, 5, 6, 7] rfl)
      · have hf := it_f c_9 hf
        refine lv_lload hx hb d_Mo_eventAbove_59 (lv_at hl 0 rfl) ?_
        refine lv_lload hx hb d_Mo_eventAbove_61 (lv_at hl 3 rfl) ?_
        refine lc_ge (tgt := 72) hx hb d_Mo_eventAbove_63 d_Mo_eventAbove_64 (by decide) (fun c_10 => ?_) (fun c_10 => ?_)
        · have hf := it_t c_10 hf
          exact k_Mo_eventAbove_72 C0 hST hA hK hE hK20 (fun hf => ih hf) hf hP hD hS (lv_sub hl [1, 2, 3, 4, 5, 6, 7] rfl)
        · have hf := it_f c_10 hf
          refine lv_lload hx hb d_Mo_eventAbove_67 (lv_at hl 0 rfl) ?_
          refine lv_goto (tgt := 74) hx hb d_Mo_eventAbove_69 (by decide) ?_
          exact k_Mo_eventAbove_74 C0 hST hA hK hE hK20 (fun hf => ih hf) hf hP hD hS (lv_sub hl [1, 2, 4, 5, 6, 7] rfl)
set_option maxHeartbeats 400000 in
set_option maxRecDepth 100000 in
theorem k_Mo_eventAbove_20 (C0 : Cx p s m meth c args R b_Mo_eventAbove "ZoneFilesModel" 13 (some .long) 5 121) (hST : ST A s s.heap) (hA : ∀ q, s.heap.size ≤ q → A q) (hK : va_K (dC, dI) classes (moT cA) s) (hE : ∀ (pc : Nat) (ls : Array Slot) (H : Heap) (locs : List Loc), decode b_Mo_eventAbove pc = .ok (.lreturn, 1) → va_P (dC, dI) classes (moW h0 r cA vi vj va vb) H → va_D A (moW h0 r cA vi vj va vb) → va_S A s.heap H locs → W p l e R s m args below meth c H locs 0 0 Q (F0 m pc ls [.long r0])) : ∀ (n : Nat) {x8 : Int64} {x6 : Int64} {x4 : Int64} {x1 : Int32} {x2 : Int64} {si : Nat → Int32} {sj : Nat → Int64} {sa : Nat → Nat → Int32} {sb : Nat → Nat → Int64}, f_Mo_eventAbove_20 nf n x8 x6 x4 x1 x2 si sj sa sb = some (r0, vi, vj, va, vb) → ∀ {H : Heap} {locs : List Loc} {ls : Array Slot}, va_P (dC, dI) classes (moW h0 r cA si sj sa sb) H → va_D A (moW h0 r cA si sj sa sb) → va_S A s.heap H locs → lv_has ls 13 [(8, .long x8), (6, .long x6), (4, .long x4), (0, .ref h0), (1, .int x1), (2, .long x2)] → W p l e R s m args below meth c H locs 0 0 Q (F0 m 20 ls []) := by
  obtain ⟨hx, hb, hr, hml, hown, hts, hlocks, hRf, hRl⟩ := id C0
  intro n
  induction n with
  | zero =>
    intro x8 x6 x4 x1 x2 si sj sa sb hf
    exact absurd hf (by simp [f_Mo_eventAbove_20])
  | succ n ih =>
    intro x8 x6 x4 x1 x2 si sj sa sb hf H locs ls hP hD hS hl
    unfold f_Mo_eventAbove_20 at hf
    refine lv_lload hx hb d_Mo_eventAbove_20 (lv_at hl 0 rfl) ?_
    refine lv_lload hx hb d_Mo_eventAbove_22 (lv_at hl 2 rfl) ?_
    refine lv_ldc2 (v := 3) hx hb hown (hts (.constantLong "ZoneFilesModel" 439 3) m_8_83) d_Mo_eventAbove_24 ?_
    refine lv_ladd hx hb d_Mo_eventAbove_27 ?_
    refine lc_gt (tgt := 91) hx hb d_Mo_eventAbove_28 d_Mo_eventAbove_29 (by decide) (fun c_6 => ?_) (fun c_6 => ?_)
    · have hf := it_t c_6 hf
      refine lv_lload hx hb d_Mo_eventAbove_91 (lv_at hl 1 rfl) ?_
      cases rs hf
      exact hE _ _ _ _ d_Mo_eventAbove_93 hP hD hS
    · have hf := it_f c_6 hf
      refine lv_iconst (v := 0) hx hb d_Mo_eventAbove_32 (by decide) ?_
      refine lv_istore (lv' := [(10, .int 0), (8, .long x8), (6, .long x6), (4, .long x4), (0, .ref h0), (1, .int x1), (2, .long x2)]) hx hb d_Mo_eventAbove_33 hl (by decide) rfl (fun ls hl => ?_)
      exact k_Mo_eventAbove_35 C0 hST hA hK hE (fun hf => ih hf) nf hf hP hD hS (lv_sub hl [0, 1, 2, 3, 4, 5, 6] rfl)
set_option maxHeartbeats 400000 in
set_option maxRecDepth 100000 in
theorem k_Mo_eventAbove_0 (C0 : Cx p s m meth c args R b_Mo_eventAbove "ZoneFilesModel" 13 (some .long) 5 121) (hST : ST A s s.heap) (hA : ∀ q, s.heap.size ≤ q → A q) (hK : va_K (dC, dI) classes (moT cA) s) (hE : ∀ (pc : Nat) (ls : Array Slot) (H : Heap) (locs : List Loc), decode b_Mo_eventAbove pc = .ok (.lreturn, 1) → va_P (dC, dI) classes (moW h0 r cA vi vj va vb) H → va_D A (moW h0 r cA vi vj va vb) → va_S A s.heap H locs → W p l e R s m args below meth c H locs 0 0 Q (F0 m pc ls [.long r0])) {x1 : Int32} {x2 : Int64} {si : Nat → Int32} {sj : Nat → Int64} {sa : Nat → Nat → Int32} {sb : Nat → Nat → Int64} (hf : f_Mo_eventAbove_0 nf x1 x2 si sj sa sb = some (r0, vi, vj, va, vb)) {H : Heap} {locs : List Loc} {ls : Array Slot} (hP : va_P (dC, dI) classes (moW h0 r cA si sj sa sb) H) (hD : va_D A (moW h0 r cA si sj sa sb)) (hS : va_S A s.heap H locs) (hl : lv_has ls 13 [(0, .ref h0), (1, .int x1), (2, .long x2)]) : W p l e R s m args below meth c H locs 0 0 Q (F0 m 0 ls []) := by
  obtain ⟨hx, hb, hr, hml, hown, hts, hlocks, hRf, hRl⟩ := id C0
  unfold f_Mo_eventAbove_0 at hf
  refine lv_aload_n hx hb d_Mo_eventAbove_0 rfl (lv_at hl 0 rfl) ?_
  refine lv_lload_n hx hb d_Mo_eventAbove_1 rfl (lv_at hl 2 rfl) ?_
  obtain ⟨⟨z_5, i_1, j_2, a_3, b_4⟩, hc, hf⟩ := ob hf
  have hFc := mo_free hD hS hA
  refine cl_M (v := (some (.long z_5))) (st1 := [.long z_5]) (va_runV (As := [.long x2]) (rest := []) ⟨hx, hb, hml, hown, hts⟩ (c_Mo_about l dC dI h0 r cA H.size nf x2 si sj sa sb hc) (cwV 1 hts (gdV m_7_220 m_7_222 msel_78 m_1_10 m_7_223) rfl rfl rfl (by decide +kernel) ⟨Nat.le_trans (Nat.le_of_ble_eq_true rfl) hRf, Nat.le_trans (Nat.le_of_ble_eq_true rfl) hRl⟩) ((MU.pre hP hK hD (hST.mu hS hFc)).vir (va_recv hK hP (ci := 10) (q0 := 0) rfl rfl)) rfl rfl hl.1 rfl (lv_room (Nat.le_of_ble_eq_true rfl)) d_Mo_eventAbove_2 ⟨Nat.zero_le _, Nat.zero_le _⟩) rfl hS (fun q _ h => hFc q h) hFc (fun t H1 locs ht hvm hB hz1 hk1 hS => ?_)
  obtain ⟨hP, hD⟩ := mo_back ht hD hB
  generalize H1 = H at hP hS ⊢
  refine lv_lstore (lv' := [(4, .long z_5), (0, .ref h0), (1, .int x1), (2, .long x2)]) hx hb d_Mo_eventAbove_5 hl (by decide) rfl (fun ls hl => ?_)
  refine lv_ldc2 (v := 9223372036854775807) hx hb hown (hts (.constantLong "ZoneFilesModel" 437 9223372036854775807) m_8_82) d_Mo_eventAbove_7 ?_
  refine lv_lstore (lv' := [(6, .long 9223372036854775807), (4, .long z_5), (0, .ref h0), (1, .int x1), (2, .long x2)]) hx hb d_Mo_eventAbove_10 hl (by decide) rfl (fun ls hl => ?_)
  refine lv_lload hx hb d_Mo_eventAbove_12 (lv_at hl 1 rfl) ?_
  refine lv_ldc2 (v := 2) hx hb hown (hts (.constantLong "ZoneFilesModel" 305 2) m_7_239) d_Mo_eventAbove_14 ?_
  refine lv_lsub hx hb d_Mo_eventAbove_17 ?_
  refine lv_lstore (lv' := [(8, .long (z_5 - 2)), (6, .long 9223372036854775807), (4, .long z_5), (0, .ref h0), (1, .int x1), (2, .long x2)]) hx hb d_Mo_eventAbove_18 hl (by decide) rfl (fun ls hl => ?_)
  exact k_Mo_eventAbove_20 C0 hST hA hK hE nf hf hP hD hS (lv_sub hl [0, 1, 2, 3, 4, 5] rfl)
end
set_option maxHeartbeats 400000 in
set_option maxRecDepth 100000 in
theorem c_Mo_eventAbove (l : Launch) (dC : Nat → ClassId) (dI : Nat → Nat → Nat) (h0 : Nat) (r : Nat → Nat) (cA : Nat → ClassId) (sz : Nat) (nf : Nat) (p0 : Int32) (p1 : Int64) (si : Nat → Int32) (sj : Nat → Int64) (sa : Nat → Nat → Int32) (sb : Nat → Nat → Int64) {r0 : Int64} {vi : Nat → Int32} {vj : Nat → Int64} {va : Nat → Nat → Int32} {vb : Nat → Nat → Int64} (hf : f_Mo_eventAbove nf p0 p1 si sj sa sb = some (r0, vi, vj, va, vb)) : Met l y_Mo_eventAbove (wd y_Mo_eventAbove b_Mo_eventAbove 13 (some .long)) ({ frames := 5, cells := 0, slots := 0, locals := 121 }) (MU dC dI (moW h0 r cA si sj sa sb) (moT cA) sz [.ref h0, .int p0, .long p1]) (MV (some (.long r0)) (fun t => va_P (dC, dI) classes (moW h0 r cA vi vj va vb) t.heap) (va_A (moW h0 r cA si sj sa sb) sz)) 0 0 (va_A (moW h0 r cA si sj sa sb) sz) :=
  met_M (plainFor_of_name (by decide)) (Nat.le_of_ble_eq_true rfl) (fun p e R s m args below meth c ls hRc hRs hsz hin C0 hST hK hP hD hl => by
    obtain ⟨hx, hb, hr, hml, hown, hts, hlocks, hRf, hRl⟩ := id C0
    subst hsz
    have hA : ∀ q : Nat, s.heap.size ≤ q → va_A (moW h0 r cA si sj sa sb) s.heap.size q := fun q h => Or.inr h
    have hS : va_S (va_A (moW h0 r cA si sj sa sb) s.heap.size) s.heap s.heap [] := va_S.rf
    unfold f_Mo_eventAbove at hf
    exact k_Mo_eventAbove_0 C0 hST hA hK (fun pc ls H locs hd hP hD hS => W.lret hx hb hr (fun t ht hW => ⟨⟨rfl, mo_end ht hP⟩, hS.F ht⟩) hS.2.2 hd) hf hP hD hS (lv_sub hl [0, 1, 2] rfl))
-- ZoneFilesModel.eventBelow(IJ)J
def f_Mo_eventBelow_74 (nf : Nat) (K20 : Int64 → Int64 → Int64 → Int32 → Int64 → (Nat → Int32) → (Nat → Int64) → (Nat → Nat → Int32) → (Nat → Nat → Int64) → Option (Int64 × (Nat → Int32) × (Nat → Int64) × (Nat → Nat → Int32) × (Nat → Nat → Int64))) (K35 : Int32 → Int64 → Int64 → Int64 → Int32 → Int64 → (Nat → Int32) → (Nat → Int64) → (Nat → Nat → Int32) → (Nat → Nat → Int64) → Option (Int64 × (Nat → Int32) × (Nat → Int64) × (Nat → Nat → Int32) × (Nat → Nat → Int64))) (x10 : Int32) (x8 : Int64) (x4 : Int64) (x1 : Int32) (x2 : Int64) (s0 : Int64) (si : Nat → Int32) (sj : Nat → Int64) (sa : Nat → Nat → Int32) (sb : Nat → Nat → Int64) : Option (Int64 × (Nat → Int32) × (Nat → Int64) × (Nat → Nat → Int32) × (Nat → Nat → Int64)) :=
  K35 (x10 + 1) x8 s0 x4 x1 x2 si sj sa sb
def f_Mo_eventBelow_72 (nf : Nat) (K20 : Int64 → Int64 → Int64 → Int32 → Int64 → (Nat → Int32) → (Nat → Int64) → (Nat → Nat → Int32) → (Nat → Nat → Int64) → Option (Int64 × (Nat → Int32) × (Nat → Int64) × (Nat → Nat → Int32) × (Nat → Nat → Int64))) (K35 : Int32 → Int64 → Int64 → Int64 → Int32 → Int64 → (Nat → Int32) → (Nat → Int64) → (Nat → Nat → Int32) → (Nat → Nat → Int64) → Option (Int64 × (Nat → Int32) × (Nat → Int64) × (Nat → Nat → Int32) × (Nat → Nat → Int64))) (x10 : Int32) (x8 : Int64) (x6 : Int64) (x4 : Int64) (x1 : Int32) (x2 : Int64) (si : Nat → Int32) (sj : Nat → Int64) (sa : Nat → Nat → Int32) (sb : Nat → Nat → Int64) : Option (Int64 × (Nat → Int32) × (Nat → Int64) × (Nat → Nat → Int32) × (Nat → Nat → Int64)) :=
  f_Mo_eventBelow_74 nf K20 K35 x10 x8 x4 x1 x2 x6 si sj sa sb
def f_Mo_eventBelow_35 (nf : Nat) (K20 : Int64 → Int64 → Int64 → Int32 → Int64 → (Nat → Int32) → (Nat → Int64) → (Nat → Nat → Int32) → (Nat → Nat → Int64) → Option (Int64 × (Nat → Int32) × (Nat → Int64) × (Nat → Nat → Int32) × (Nat → Nat → Int64))) : Nat → Int32 → Int64 → Int64 → Int64 → Int32 → Int64 → (Nat → Int32) → (Nat → Int64) → (Nat → Nat → Int32) → (Nat → Nat → Int64) → Option (Int64 × (Nat → Int32) × (Nat → Int64) × (Nat → Nat → Int32) × (Nat → Nat → Int64))
  | 0, _, _, _, _, _, _, _, _, _, _ => none
  | n + 1, x10, x8, x6, x4, x1, x2, si, sj, sa, sb =>
    if (2 : Int32) ≤ x10 then
    K20 (x8 + 1) x6 x4 x1 x2 si sj sa sb
    else
    (f_Mo_event nf x1 x8 x10 si sj sa sb).bind fun r_8 =>
      if x2 ≤ r_8 then
      f_Mo_eventBelow_72 nf K20 (f_Mo_eventBelow_35 nf K20 n) x10 x8 x6 x4 x1 x2 si sj sa sb
      else
      if r_8 ≤ x6 then
        f_Mo_eventBelow_72 nf K20 (f_Mo_eventBelow_35 nf K20 n) x10 x8 x6 x4 x1 x2 si sj sa sb
        else
        f_Mo_eventBelow_74 nf K20 (f_Mo_eventBelow_35 nf K20 n) x10 x8 x4 x1 x2 r_8 si sj sa sb
def f_Mo_eventBelow_20 (nf : Nat) : Nat → Int64 → Int64 → Int64 → Int32 → Int64 → (Nat → Int32) → (Nat → Int64) → (Nat → Nat → Int32) → (Nat → Nat → Int64) → Option (Int64 × (Nat → Int32) × (Nat → Int64) × (Nat → Nat → Int32) × (Nat → Nat → Int64))
  | 0, _, _, _, _, _, _, _, _, _ => none
  | n + 1, x8, x6, x4, x1, x2, si, sj, sa, sb =>
    if (x4 + 2) < x8 then
    some (x6, si, sj, sa, sb)
    else
    f_Mo_eventBelow_35 nf (f_Mo_eventBelow_20 nf n) nf 0 x8 x6 x4 x1 x2 si sj sa sb
def f_Mo_eventBelow_0 (nf : Nat) (x1 : Int32) (x2 : Int64) (si : Nat → Int32) (sj : Nat → Int64) (sa : Nat → Nat → Int32) (sb : Nat → Nat → Int64) : Option (Int64 × (Nat → Int32) × (Nat → Int64) × (Nat → Nat → Int32) × (Nat → Nat → Int64)) :=
  (f_Mo_about nf x2 si sj sa sb).bind fun (z_5, i_1, j_2, a_3, b_4) =>
  f_Mo_eventBelow_20 nf nf (z_5 - 3) (-9223372036854775808) z_5 x1 x2 i_1 j_2 a_3 b_4
def f_Mo_eventBelow (nf : Nat) (p0 : Int32) (p1 : Int64) (si : Nat → Int32) (sj : Nat → Int64) (sa : Nat → Nat → Int32) (sb : Nat → Nat → Int64) : Option (Int64 × (Nat → Int32) × (Nat → Int64) × (Nat → Nat → Int32) × (Nat → Nat → Int64)) :=
  f_Mo_eventBelow_0 nf p0 p1 si sj sa sb
section
variable {p : Program} {l : Launch} {e : Env} {R : Room} {s : State} {m : MethodId} {args : Array Value} {below : List Frame} {meth : Method} {c : Code} {Q : State → Prop} {dC : Nat → ClassId} {dI : Nat → Nat → Nat} {nf : Nat} {A : Nat → Prop} {h0 : Nat} {r : Nat → Nat} {cA : Nat → ClassId}
variable {r0 : Int64} {vi : Nat → Int32} {vj : Nat → Int64} {va : Nat → Nat → Int32} {vb : Nat → Nat → Int64}
set_option maxHeartbeats 400000 in
set_option maxRecDepth 100000 in
theorem k_Mo_eventBelow_74 (C0 : Cx p s m meth c args R b_Mo_eventBelow "ZoneFilesModel" 13 (some .long) 5 121) (hST : ST A s s.heap) (hA : ∀ q, s.heap.size ≤ q → A q) (hK : va_K (dC, dI) classes (moT cA) s) (hE : ∀ (pc : Nat) (ls : Array Slot) (H : Heap) (locs : List Loc), decode b_Mo_eventBelow pc = .ok (.lreturn, 1) → va_P (dC, dI) classes (moW h0 r cA vi vj va vb) H → va_D A (moW h0 r cA vi vj va vb) → va_S A s.heap H locs → W p l e R s m args below meth c H locs 0 0 Q (F0 m pc ls [.long r0])) {K20 : Int64 → Int64 → Int64 → Int32 → Int64 → (Nat → Int32) → (Nat → Int64) → (Nat → Nat → Int32) → (Nat → Nat → Int64) → Option (Int64 × (Nat → Int32) × (Nat → Int64) × (Nat → Nat → Int32) × (Nat → Nat → Int64))} (hK20 : ∀ {x8 : Int64} {x6 : Int64} {x4 : Int64} {x1 : Int32} {x2 : Int64} {si : Nat → Int32} {sj : Nat → Int64} {sa : Nat → Nat → Int32} {sb : Nat → Nat → Int64}, K20 x8 x6 x4 x1 x2 si sj sa sb = some (r0, vi, vj, va, vb) → ∀ {H : Heap} {locs : List Loc} {ls : Array Slot}, va_P (dC, dI) classes (moW h0 r cA si sj sa sb) H → va_D A (moW h0 r cA si sj sa sb) → va_S A s.heap H locs → lv_has ls 13 [(8, .long x8), (6, .long x6), (4, .long x4), (0, .ref h0), (1, .int x1), (2, .long x2)] → W p l e R s m args below meth c H locs 0 0 Q (F0 m 20 ls [])) {K35 : Int32 → Int64 → Int64 → Int64 → Int32 → Int64 → (Nat → Int32) → (Nat → Int64) → (Nat → Nat → Int32) → (Nat → Nat → Int64) → Option (Int64 × (Nat → Int32) × (Nat → Int64) × (Nat → Nat → Int32) × (Nat → Nat → Int64))} (hK35 : ∀ {x10 : Int32} {x8 : Int64} {x6 : Int64} {x4 : Int64} {x1 : Int32} {x2 : Int64} {si : Nat → Int32} {sj : Nat → Int64} {sa : Nat → Nat → Int32} {sb : Nat → Nat → Int64}, K35 x10 x8 x6 x4 x1 x2 si sj sa sb = some (r0, vi, vj, va, vb) → ∀ {H : Heap} {locs : List Loc} {ls : Array Slot}, va_P (dC, dI) classes (moW h0 r cA si sj sa sb) H → va_D A (moW h0 r cA si sj sa sb) → va_S A s.heap H locs → lv_has ls 13 [(10, .int x10), (8, .long x8), (6, .long x6), (4, .long x4), (0, .ref h0), (1, .int x1), (2, .long x2)] → W p l e R s m args below meth c H locs 0 0 Q (F0 m 35 ls [])) {x10 : Int32} {x8 : Int64} {x4 : Int64} {x1 : Int32} {x2 : Int64} {s0 : Int64} {si : Nat → Int32} {sj : Nat → Int64} {sa : Nat → Nat → Int32} {sb : Nat → Nat → Int64} (hf : f_Mo_eventBelow_74 nf K20 K35 x10 x8 x4 x1 x2 s0 si sj sa sb = some (r0, vi, vj, va, vb)) {H : Heap} {locs : List Loc} {ls : Array Slot} (hP : va_P (dC, dI) classes (moW h0 r cA si sj sa sb) H) (hD : va_D A (moW h0 r cA si sj sa sb)) (hS : va_S A s.heap H locs) (hl : lv_has ls 13 [(10, .int x10), (8, .long x8), (4, .long x4), (0, .ref h0), (1, .int x1), (2, .long x2)]) : W p l e R s m args below meth c H locs 0 0 Q (F0 m 74 ls [.long s0]) := by
  obtain ⟨hx, hb, hr, hml, hown, hts, hlocks, hRf, hRl⟩ := id C0
  unfold f_Mo_eventBelow_74 at hf
  refine lv_lstore (lv' := [(6, .long s0), (10, .int x10), (8, .long x8), (4, .long x4), (0, .ref h0), (1, .int x1), (2, .long x2)]) hx hb d_Mo_eventBelow_74 hl (by decide) rfl (fun ls hl => ?_)
  refine lv_iinc (v := x10 + 1) (lv' := [(10, .int (x10 + 1)), (6, .long s0), (8, .long x8), (4, .long x4), (0, .ref h0), (1, .int x1), (2, .long x2)]) hx hb d_Mo_eventBelow_76 hl (k := 1) rfl rfl (by decide) rfl (fun ls hl => ?_)
  refine lv_goto (tgt := 35) hx hb d_Mo_eventBelow_79 (by decide) ?_
  exact hK35 hf hP hD hS (lv_sub hl [0, 2, 1, 3, 4, 5, 6] rfl)
set_option maxHeartbeats 400000 in
set_option maxRecDepth 100000 in
theorem k_Mo_eventBelow_72 (C0 : Cx p s m meth c args R b_Mo_eventBelow "ZoneFilesModel" 13 (some .long) 5 121) (hST : ST A s s.heap) (hA : ∀ q, s.heap.size ≤ q → A q) (hK : va_K (dC, dI) classes (moT cA) s) (hE : ∀ (pc : Nat) (ls : Array Slot) (H : Heap) (locs : List Loc), decode b_Mo_eventBelow pc = .ok (.lreturn, 1) → va_P (dC, dI) classes (moW h0 r cA vi vj va vb) H → va_D A (moW h0 r cA vi vj va vb) → va_S A s.heap H locs → W p l e R s m args below meth c H locs 0 0 Q (F0 m pc ls [.long r0])) {K20 : Int64 → Int64 → Int64 → Int32 → Int64 → (Nat → Int32) → (Nat → Int64) → (Nat → Nat → Int32) → (Nat → Nat → Int64) → Option (Int64 × (Nat → Int32) × (Nat → Int64) × (Nat → Nat → Int32) × (Nat → Nat → Int64))} (hK20 : ∀ {x8 : Int64} {x6 : Int64} {x4 : Int64} {x1 : Int32} {x2 : Int64} {si : Nat → Int32} {sj : Nat → Int64} {sa : Nat → Nat → Int32} {sb : Nat → Nat → Int64}, K20 x8 x6 x4 x1 x2 si sj sa sb = some (r0, vi, vj, va, vb) → ∀ {H : Heap} {locs : List Loc} {ls : Array Slot}, va_P (dC, dI) classes (moW h0 r cA si sj sa sb) H → va_D A (moW h0 r cA si sj sa sb) → va_S A s.heap H locs → lv_has ls 13 [(8, .long x8), (6, .long x6), (4, .long x4), (0, .ref h0), (1, .int x1), (2, .long x2)] → W p l e R s m args below meth c H locs 0 0 Q (F0 m 20 ls [])) {K35 : Int32 → Int64 → Int64 → Int64 → Int32 → Int64 → (Nat → Int32) → (Nat → Int64) → (Nat → Nat → Int32) → (Nat → Nat → Int64) → Option (Int64 × (Nat → Int32) × (Nat → Int64) × (Nat → Nat → Int32) × (Nat → Nat → Int64))} (hK35 : ∀ {x10 : Int32} {x8 : Int64} {x6 : Int64} {x4 : Int64} {x1 : Int32} {x2 : Int64} {si : Nat → Int32} {sj : Nat → Int64} {sa : Nat → Nat → Int32} {sb : Nat → Nat → Int64}, K35 x10 x8 x6 x4 x1 x2 si sj sa sb = some (r0, vi, vj, va, vb) → ∀ {H : Heap} {locs : List Loc} {ls : Array Slot}, va_P (dC, dI) classes (moW h0 r cA si sj sa sb) H → va_D A (moW h0 r cA si sj sa sb) → va_S A s.heap H locs → lv_has ls 13 [(10, .int x10), (8, .long x8), (6, .long x6), (4, .long x4), (0, .ref h0), (1, .int x1), (2, .long x2)] → W p l e R s m args below meth c H locs 0 0 Q (F0 m 35 ls [])) {x10 : Int32} {x8 : Int64} {x6 : Int64} {x4 : Int64} {x1 : Int32} {x2 : Int64} {si : Nat → Int32} {sj : Nat → Int64} {sa : Nat → Nat → Int32} {sb : Nat → Nat → Int64} (hf : f_Mo_eventBelow_72 nf K20 K35 x10 x8 x6 x4 x1 x2 si sj sa sb = some (r0, vi, vj, va, vb)) {H : Heap} {locs : List Loc} {ls : Array Slot} (hP : va_P (dC, dI) classes (moW h0 r cA si sj sa sb) H) (hD : va_D A (moW h0 r cA si sj sa sb)) (hS : va_S A s.heap H locs) (hl : lv_has ls 13 [(10, .int x10), (8, .long x8), (6, .long x6), (4, .long x4), (0, .ref h0), (1, .int x1), (2, .long x2)]) : W p l e R s m args below meth c H locs 0 0 Q (F0 m 72 ls []) := by
  obtain ⟨hx, hb, hr, hml, hown, hts, hlocks, hRf, hRl⟩ := id C0
  unfold f_Mo_eventBelow_72 at hf
  refine lv_lload hx hb d_Mo_eventBelow_72 (lv_at hl 2 rfl) ?_
  exact k_Mo_eventBelow_74 C0 hST hA hK hE hK20 hK35 hf hP hD hS (lv_sub hl [0, 1, 3, 4, 5, 6] rfl)
set_option maxHeartbeats 400000 in
set_option maxRecDepth 100000 in
theorem k_Mo_eventBelow_35 (C0 : Cx p s m meth c args R b_Mo_eventBelow "ZoneFilesModel" 13 (some .long) 5 121) (hST : ST A s s.heap) (hA : ∀ q, s.heap.size ≤ q → A q) (hK : va_K (dC, dI) classes (moT cA) s) (hE : ∀ (pc : Nat) (ls : Array Slot) (H : Heap) (locs : List Loc), decode b_Mo_eventBelow pc = .ok (.lreturn, 1) → va_P (dC, dI) classes (moW h0 r cA vi vj va vb) H → va_D A (moW h0 r cA vi vj va vb) → va_S A s.heap H locs → W p l e R s m args below meth c H locs 0 0 Q (F0 m pc ls [.long r0])) {K20 : Int64 → Int64 → Int64 → Int32 → Int64 → (Nat → Int32) → (Nat → Int64) → (Nat → Nat → Int32) → (Nat → Nat → Int64) → Option (Int64 × (Nat → Int32) × (Nat → Int64) × (Nat → Nat → Int32) × (Nat → Nat → Int64))} (hK20 : ∀ {x8 : Int64} {x6 : Int64} {x4 : Int64} {x1 : Int32} {x2 : Int64} {si : Nat → Int32} {sj : Nat → Int64} {sa : Nat → Nat → Int32} {sb : Nat → Nat → Int64}, K20 x8 x6 x4 x1 x2 si sj sa sb = some (r0, vi, vj, va, vb) → ∀ {H : Heap} {locs : List Loc} {ls : Array Slot}, va_P (dC, dI) classes (moW h0 r cA si sj sa sb) H → va_D A (moW h0 r cA si sj sa sb) → va_S A s.heap H locs → lv_has ls 13 [(8, .long x8), (6, .long x6), (4, .long x4), (0, .ref h0), (1, .int x1), (2, .long x2)] → W p l e R s m args below meth c H locs 0 0 Q (F0 m 20 ls [])) : ∀ (n : Nat) {x10 : Int32} {x8 : Int64} {x6 : Int64} {x4 : Int64} {x1 : Int32} {x2 : Int64} {si : Nat → Int32} {sj : Nat → Int64} {sa : Nat → Nat → Int32} {sb : Nat → Nat → Int64}, f_Mo_eventBelow_35 nf K20 n x10 x8 x6 x4 x1 x2 si sj sa sb = some (r0, vi, vj, va, vb) → ∀ {H : Heap} {locs : List Loc} {ls : Array Slot}, va_P (dC, dI) classes (moW h0 r cA si sj sa sb) H → va_D A (moW h0 r cA si sj sa sb) → va_S A s.heap H locs → lv_has ls 13 [(10, .int x10), (8, .long x8), (6, .long x6), (4, .long x4), (0, .ref h0), (1, .int x1), (2, .long x2)] → W p l e R s m args below meth c H locs 0 0 Q (F0 m 35 ls []) := by
  obtain ⟨hx, hb, hr, hml, hown, hts, hlocks, hRf, hRl⟩ := id C0
  intro n
  induction n with
  | zero =>
    intro x10 x8 x6 x4 x1 x2 si sj sa sb hf
    exact absurd hf (by simp [f_Mo_eventBelow_35])
  | succ n ih =>
    intro x10 x8 x6 x4 x1 x2 si sj sa sb hf H locs ls hP hD hS hl
    unfold f_Mo_eventBelow_35 at hf
    refine lv_iload hx hb d_Mo_eventBelow_35 (lv_at hl 0 rfl) ?_
    refine lv_iconst (v := 2) hx hb d_Mo_eventBelow_37 (by decide) ?_
    refine lv_icmp_ge (tgt := 82) hx hb d_Mo_eventBelow_38 (by decide) (fun c_7 => ?_) (fun c_7 => ?_)
    · have hf := it_t c_7 hf
      refine lv_lload hx hb d_Mo_eventBelow_82 (lv_at hl 1 rfl) ?_
      refine lv_lconst (v := 1) hx hb d_Mo_eventBelow_84 (by decide) ?_
      refine lv_ladd hx hb d_Mo_eventBelow_85 ?_
      refine lv_lstore (lv' := [(8, .long (x8 + 1)), (10, .int x10), (6, .long x6), (4, .long x4), (0, .ref h0), (1, .int x1), (2, .long x2)]) hx hb d_Mo_eventBelow_86 hl (by decide) rfl (fun ls hl => ?_)
      refine lv_goto (tgt := 20) hx hb d_Mo_eventBelow_88 (by decide) ?_
      exact hK20 hf hP hD hS (lv_sub hl [0, 2, 3, 4, 5, 6] rfl)
    · have hf := it_f c_7 hf
      refine lv_aload_n hx hb d_Mo_eventBelow_41 rfl (lv_at hl 4 rfl) ?_
      refine lv_iload_n hx hb d_Mo_eventBelow_42 rfl (lv_at hl 5 rfl) ?_
      refine lv_lload hx hb d_Mo_eventBelow_43 (lv_at hl 1 rfl) ?_
      refine lv_iload hx hb d_Mo_eventBelow_45 (lv_at hl 0 rfl) ?_
      obtain ⟨r_8, hc, hf⟩ := ob hf
      refine cl_S (v := (some (.long r_8))) (st1 := [.long r_8]) (va_runV (As := [.int x1, .long x8, .int x10]) (rest := []) ⟨hx, hb, hml, hown, hts⟩ (c_Mo_event l dC dI h0 r cA nf x1 x8 x10 si sj sa sb hc) (cwV 3 hts (gdV m_8_3 m_8_5 msel_80 m_1_10 m_8_6) rfl rfl rfl (by decide +kernel) ⟨Nat.le_trans (Nat.le_of_ble_eq_true rfl) hRf, Nat.le_trans (Nat.le_of_ble_eq_true rfl) hRl⟩) ((RO.pre hP hK (hST.ro hS)).vir (va_recv hK hP (ci := 10) (q0 := 0) rfl rfl)) rfl rfl hl.1 rfl (lv_room (Nat.le_of_ble_eq_true rfl)) d_Mo_eventBelow_47 ⟨Nat.zero_le _, Nat.zero_le _⟩) rfl ?_
      refine lv_lstore (lv' := [(11, .long r_8), (10, .int x10), (8, .long x8), (6, .long x6), (4, .long x4), (0, .ref h0), (1, .int x1), (2, .long x2)]) hx hb d_Mo_eventBelow_50 hl (by decide) rfl (fun ls hl => ?_)
      refine lv_lload hx hb d_Mo_eventBelow_52 (lv_at hl 0 rfl) ?_
      refine lv_lload_n hx hb d_Mo_eventBelow_54 rfl (lv_at hl 7 rfl) ?_
      refine lc_ge (tgt := 72) hx hb d_Mo_eventBelow_55 d_Mo_eventBelow_56 (by decide) (fun c_9 => ?_) (fun c_9 => ?_)
      · have hf := it_t c_9 hf
        exact k_Mo_eventBelow_72 C0 hST hA hK hE hK20 (fun hf => ih hf) hf hP hD hS (lv_sub hl [1, 2, 3, 4, 5, 6, 7] rfl)
      · have hf := it_f c_9 hf
        refine lv_lload hx hb d_Mo_eventBelow_59 (lv_at hl 0 rfl) ?_
        refine lv_lload hx hb d_Mo_eventBelow_61 (lv_at hl 3 rfl) ?_
        refine lc_le (tgt := 72) hx hb d_Mo_eventBelow_63 d_Mo_eventBelow_64 (by decide) (fun c_10 => ?_) (fun c_10 => ?_)
        · have hf := it_t c_10 hf
          exact k_Mo_eventBelow_72 C0 hST hA hK hE hK20 (fun hf => ih hf) hf hP hD hS (lv_sub hl [1, 2, 3, 4, 5, 6, 7] rfl)
        · have hf := it_f c_10 hf
          refine lv_lload hx hb d_Mo_eventBelow_67 (lv_at hl 0 rfl) ?_
          refine lv_goto (tgt := 74) hx hb d_Mo_eventBelow_69 (by decide) ?_
          exact k_Mo_eventBelow_74 C0 hST hA hK hE hK20 (fun hf => ih hf) hf hP hD hS (lv_sub hl [1, 2, 4, 5, 6, 7] rfl)
set_option maxHeartbeats 400000 in
set_option maxRecDepth 100000 in
theorem k_Mo_eventBelow_20 (C0 : Cx p s m meth c args R b_Mo_eventBelow "ZoneFilesModel" 13 (some .long) 5 121) (hST : ST A s s.heap) (hA : ∀ q, s.heap.size ≤ q → A q) (hK : va_K (dC, dI) classes (moT cA) s) (hE : ∀ (pc : Nat) (ls : Array Slot) (H : Heap) (locs : List Loc), decode b_Mo_eventBelow pc = .ok (.lreturn, 1) → va_P (dC, dI) classes (moW h0 r cA vi vj va vb) H → va_D A (moW h0 r cA vi vj va vb) → va_S A s.heap H locs → W p l e R s m args below meth c H locs 0 0 Q (F0 m pc ls [.long r0])) : ∀ (n : Nat) {x8 : Int64} {x6 : Int64} {x4 : Int64} {x1 : Int32} {x2 : Int64} {si : Nat → Int32} {sj : Nat → Int64} {sa : Nat → Nat → Int32} {sb : Nat → Nat → Int64}, f_Mo_eventBelow_20 nf n x8 x6 x4 x1 x2 si sj sa sb = some (r0, vi, vj, va, vb) → ∀ {H : Heap} {locs : List Loc} {ls : Array Slot}, va_P (dC, dI) classes (moW h0 r cA si sj sa sb) H → va_D A (moW h0 r cA si sj sa sb) → va_S A s.heap H locs → lv_has ls 13 [(8, .long x8), (6, .long x6), (4, .long x4), (0, .ref h0), (1, .int x1), (2, .long x2)] → W p l e R s m args below meth c H locs 0 0 Q (F0 m 20 ls []) := by
  obtain ⟨hx, hb, hr, hml, hown, hts, hlocks, hRf, hRl⟩ := id C0
  intro n
  induction n with
  | zero =>
    intro x8 x6 x4 x1 x2 si sj sa sb hf
    exact absurd hf (by simp [f_Mo_eventBelow_20])
  | succ n ih =>
    intro x8 x6 x4 x1 x2 si sj sa sb hf H locs ls hP hD hS hl
    unfold f_Mo_eventBelow_20 at hf
    refine lv_lload hx hb d_Mo_eventBelow_20 (lv_at hl 0 rfl) ?_
    refine lv_lload hx hb d_Mo_eventBelow_22 (lv_at hl 2 rfl) ?_
    refine lv_ldc2 (v := 2) hx hb hown (hts (.constantLong "ZoneFilesModel" 305 2) m_7_239) d_Mo_eventBelow_24 ?_
    refine lv_ladd hx hb d_Mo_eventBelow_27 ?_
    refine lc_gt (tgt := 91) hx hb d_Mo_eventBelow_28 d_Mo_eventBelow_29 (by decide) (fun c_6 => ?_) (fun c_6 => ?_)
    · have hf := it_t c_6 hf
      refine lv_lload hx hb d_Mo_eventBelow_91 (lv_at hl 1 rfl) ?_
      cases rs hf
      exact hE _ _ _ _ d_Mo_eventBelow_93 hP hD hS
    · have hf := it_f c_6 hf
      refine lv_iconst (v := 0) hx hb d_Mo_eventBelow_32 (by decide) ?_
      refine lv_istore (lv' := [(10, .int 0), (8, .long x8), (6, .long x6), (4, .long x4), (0, .ref h0), (1, .int x1), (2, .long x2)]) hx hb d_Mo_eventBelow_33 hl (by decide) rfl (fun ls hl => ?_)
      exact k_Mo_eventBelow_35 C0 hST hA hK hE (fun hf => ih hf) nf hf hP hD hS (lv_sub hl [0, 1, 2, 3, 4, 5, 6] rfl)
set_option maxHeartbeats 400000 in
set_option maxRecDepth 100000 in
theorem k_Mo_eventBelow_0 (C0 : Cx p s m meth c args R b_Mo_eventBelow "ZoneFilesModel" 13 (some .long) 5 121) (hST : ST A s s.heap) (hA : ∀ q, s.heap.size ≤ q → A q) (hK : va_K (dC, dI) classes (moT cA) s) (hE : ∀ (pc : Nat) (ls : Array Slot) (H : Heap) (locs : List Loc), decode b_Mo_eventBelow pc = .ok (.lreturn, 1) → va_P (dC, dI) classes (moW h0 r cA vi vj va vb) H → va_D A (moW h0 r cA vi vj va vb) → va_S A s.heap H locs → W p l e R s m args below meth c H locs 0 0 Q (F0 m pc ls [.long r0])) {x1 : Int32} {x2 : Int64} {si : Nat → Int32} {sj : Nat → Int64} {sa : Nat → Nat → Int32} {sb : Nat → Nat → Int64} (hf : f_Mo_eventBelow_0 nf x1 x2 si sj sa sb = some (r0, vi, vj, va, vb)) {H : Heap} {locs : List Loc} {ls : Array Slot} (hP : va_P (dC, dI) classes (moW h0 r cA si sj sa sb) H) (hD : va_D A (moW h0 r cA si sj sa sb)) (hS : va_S A s.heap H locs) (hl : lv_has ls 13 [(0, .ref h0), (1, .int x1), (2, .long x2)]) : W p l e R s m args below meth c H locs 0 0 Q (F0 m 0 ls []) := by
  obtain ⟨hx, hb, hr, hml, hown, hts, hlocks, hRf, hRl⟩ := id C0
  unfold f_Mo_eventBelow_0 at hf
  refine lv_aload_n hx hb d_Mo_eventBelow_0 rfl (lv_at hl 0 rfl) ?_
  refine lv_lload_n hx hb d_Mo_eventBelow_1 rfl (lv_at hl 2 rfl) ?_
  obtain ⟨⟨z_5, i_1, j_2, a_3, b_4⟩, hc, hf⟩ := ob hf
  have hFc := mo_free hD hS hA
  refine cl_M (v := (some (.long z_5))) (st1 := [.long z_5]) (va_runV (As := [.long x2]) (rest := []) ⟨hx, hb, hml, hown, hts⟩ (c_Mo_about l dC dI h0 r cA H.size nf x2 si sj sa sb hc) (cwV 1 hts (gdV m_7_220 m_7_222 msel_78 m_1_10 m_7_223) rfl rfl rfl (by decide +kernel) ⟨Nat.le_trans (Nat.le_of_ble_eq_true rfl) hRf, Nat.le_trans (Nat.le_of_ble_eq_true rfl) hRl⟩) ((MU.pre hP hK hD (hST.mu hS hFc)).vir (va_recv hK hP (ci := 10) (q0 := 0) rfl rfl)) rfl rfl hl.1 rfl (lv_room (Nat.le_of_ble_eq_true rfl)) d_Mo_eventBelow_2 ⟨Nat.zero_le _, Nat.zero_le _⟩) rfl hS (fun q _ h => hFc q h) hFc (fun t H1 locs ht hvm hB hz1 hk1 hS => ?_)
  obtain ⟨hP, hD⟩ := mo_back ht hD hB
  generalize H1 = H at hP hS ⊢
  refine lv_lstore (lv' := [(4, .long z_5), (0, .ref h0), (1, .int x1), (2, .long x2)]) hx hb d_Mo_eventBelow_5 hl (by decide) rfl (fun ls hl => ?_)
  refine lv_ldc2 (v := (-9223372036854775808)) hx hb hown (hts (.constantLong "ZoneFilesModel" 370 (-9223372036854775808)) m_8_2) d_Mo_eventBelow_7 ?_
  refine lv_lstore (lv' := [(6, .long (-9223372036854775808)), (4, .long z_5), (0, .ref h0), (1, .int x1), (2, .long x2)]) hx hb d_Mo_eventBelow_10 hl (by decide) rfl (fun ls hl => ?_)
  refine lv_lload hx hb d_Mo_eventBelow_12 (lv_at hl 1 rfl) ?_
  refine lv_ldc2 (v := 3) hx hb hown (hts (.constantLong "ZoneFilesModel" 439 3) m_8_83) d_Mo_eventBelow_14 ?_
  refine lv_lsub hx hb d_Mo_eventBelow_17 ?_
  refine lv_lstore (lv' := [(8, .long (z_5 - 3)), (6, .long (-9223372036854775808)), (4, .long z_5), (0, .ref h0), (1, .int x1), (2, .long x2)]) hx hb d_Mo_eventBelow_18 hl (by decide) rfl (fun ls hl => ?_)
  exact k_Mo_eventBelow_20 C0 hST hA hK hE nf hf hP hD hS (lv_sub hl [0, 1, 2, 3, 4, 5] rfl)
end
set_option maxHeartbeats 400000 in
set_option maxRecDepth 100000 in
theorem c_Mo_eventBelow (l : Launch) (dC : Nat → ClassId) (dI : Nat → Nat → Nat) (h0 : Nat) (r : Nat → Nat) (cA : Nat → ClassId) (sz : Nat) (nf : Nat) (p0 : Int32) (p1 : Int64) (si : Nat → Int32) (sj : Nat → Int64) (sa : Nat → Nat → Int32) (sb : Nat → Nat → Int64) {r0 : Int64} {vi : Nat → Int32} {vj : Nat → Int64} {va : Nat → Nat → Int32} {vb : Nat → Nat → Int64} (hf : f_Mo_eventBelow nf p0 p1 si sj sa sb = some (r0, vi, vj, va, vb)) : Met l y_Mo_eventBelow (wd y_Mo_eventBelow b_Mo_eventBelow 13 (some .long)) ({ frames := 5, cells := 0, slots := 0, locals := 121 }) (MU dC dI (moW h0 r cA si sj sa sb) (moT cA) sz [.ref h0, .int p0, .long p1]) (MV (some (.long r0)) (fun t => va_P (dC, dI) classes (moW h0 r cA vi vj va vb) t.heap) (va_A (moW h0 r cA si sj sa sb) sz)) 0 0 (va_A (moW h0 r cA si sj sa sb) sz) :=
  met_M (plainFor_of_name (by decide)) (Nat.le_of_ble_eq_true rfl) (fun p e R s m args below meth c ls hRc hRs hsz hin C0 hST hK hP hD hl => by
    obtain ⟨hx, hb, hr, hml, hown, hts, hlocks, hRf, hRl⟩ := id C0
    subst hsz
    have hA : ∀ q : Nat, s.heap.size ≤ q → va_A (moW h0 r cA si sj sa sb) s.heap.size q := fun q h => Or.inr h
    have hS : va_S (va_A (moW h0 r cA si sj sa sb) s.heap.size) s.heap s.heap [] := va_S.rf
    unfold f_Mo_eventBelow at hf
    exact k_Mo_eventBelow_0 C0 hST hA hK (fun pc ls H locs hd hP hD hS => W.lret hx hb hr (fun t ht hW => ⟨⟨rfl, mo_end ht hP⟩, hS.F ht⟩) hS.2.2 hd) hf hP hD hS (lv_sub hl [0, 1, 2] rfl))
-- ZoneFilesModel.next(IJ)J
def f_Mo_next_169 (nf : Nat) (si : Nat → Int32) (sj : Nat → Int64) (sa : Nat → Nat → Int32) (sb : Nat → Nat → Int64) : Option (Int64 × (Nat → Int32) × (Nat → Int64) × (Nat → Nat → Int32) × (Nat → Nat → Int64)) :=
  some ((-9223372036854775808), si, sj, sa, sb)
def f_Mo_next_115 (nf : Nat) : Nat → Int32 → Int64 → Int32 → (Nat → Int32) → (Nat → Int64) → (Nat → Nat → Int32) → (Nat → Nat → Int64) → Option (Int64 × (Nat → Int32) × (Nat → Int64) × (Nat → Nat → Int32) × (Nat → Nat → Int64))
  | 0, _, _, _, _, _, _, _ => none
  | n + 1, x6, x4, x1, si, sj, sa, sb =>
    if (820 : Int32) ≤ x6 then
    f_Mo_next_169 nf si sj sa sb
    else
    if x1 < 0 ∨ 5 ≤ x1.toNatClampNeg then none else
      if (sa 23 x1.toNatClampNeg) = (2 : Int32) then
      (f_Mo_isInstant nf x4).bind fun r_11 =>
        if r_11 = 0 then
        f_Mo_next_169 nf si sj sa sb
        else
        (f_Mo_eventAbove nf x1 x4 si sj sa sb).bind fun (z_17, i_13, j_14, a_15, b_16) =>
          (f_Mo_isStep nf x1 z_17 i_13 j_14 a_15 b_16).bind fun (z_22, i_18, j_19, a_20, b_21) =>
          if z_22 = 0 then
          f_Mo_next_115 nf n (x6 + 1) z_17 x1 i_18 j_19 a_20 b_21
          else
          some (z_17, i_18, j_19, a_20, b_21)
      else
      f_Mo_next_169 nf si sj sa sb
def f_Mo_next_104 (nf : Nat) (K43 : Int32 → Int64 → Int32 → Int64 → (Nat → Int32) → (Nat → Int64) → (Nat → Nat → Int32) → (Nat → Nat → Int64) → Option (Int64 × (Nat → Int32) × (Nat → Int64) × (Nat → Nat → Int32) × (Nat → Nat → Int64))) (x6 : Int32) (x1 : Int32) (x2 : Int64) (s0 : Int64) (si : Nat → Int32) (sj : Nat → Int64) (sa : Nat → Nat → Int32) (sb : Nat → Nat → Int64) : Option (Int64 × (Nat → Int32) × (Nat → Int64) × (Nat → Nat → Int32) × (Nat → Nat → Int64)) :=
  K43 (x6 + 1) s0 x1 x2 si sj sa sb
def f_Mo_next_89 (nf : Nat) (K43 : Int32 → Int64 → Int32 → Int64 → (Nat → Int32) → (Nat → Int64) → (Nat → Nat → Int32) → (Nat → Nat → Int64) → Option (Int64 × (Nat → Int32) × (Nat → Int64) × (Nat → Nat → Int32) × (Nat → Nat → Int64))) (x7 : Int64) (x6 : Int32) (x4 : Int64) (x1 : Int32) (x2 : Int64) (si : Nat → Int32) (sj : Nat → Int64) (sa : Nat → Nat → Int32) (sb : Nat → Nat → Int64) : Option (Int64 × (Nat → Int32) × (Nat → Int64) × (Nat → Nat → Int32) × (Nat → Nat → Int64)) :=
  if x7 ≤ x4 then
  f_Mo_next_104 nf K43 x6 x1 x2 x4 si sj sa sb
  else
  f_Mo_next_104 nf K43 x6 x1 x2 x7 si sj sa sb
def f_Mo_next_43 (nf : Nat) : Nat → Int32 → Int64 → Int32 → Int64 → (Nat → Int32) → (Nat → Int64) → (Nat → Nat → Int32) → (Nat → Nat → Int64) → Option (Int64 × (Nat → Int32) × (Nat → Int64) × (Nat → Nat → Int32) × (Nat → Nat → Int64))
  | 0, _, _, _, _, _, _, _, _ => none
  | n + 1, x6, x4, x1, x2, si, sj, sa, sb =>
    if x1 < 0 ∨ 5 ≤ x1.toNatClampNeg then none else
    if (sa 5 x1.toNatClampNeg) ≤ x6 then
    f_Mo_next_115 nf nf 0 x4 x1 si sj sa sb
    else
    if ((200 * x1) + x6) < 0 ∨ 1000 ≤ ((200 * x1) + x6).toNatClampNeg then none else
      if (sb 12 ((200 * x1) + x6).toNatClampNeg) ≤ x2 then
      f_Mo_next_89 nf (f_Mo_next_43 nf n) (sb 12 ((200 * x1) + x6).toNatClampNeg) x6 x4 x1 x2 si sj sa sb
      else
      (f_Mo_isStep nf x1 (sb 12 ((200 * x1) + x6).toNatClampNeg) si sj sa sb).bind fun (z_31, i_27, j_28, a_29, b_30) =>
        if z_31 = 0 then
        f_Mo_next_89 nf (f_Mo_next_43 nf n) (sb 12 ((200 * x1) + x6).toNatClampNeg) x6 x4 x1 x2 i_27 j_28 a_29 b_30
        else
        some (sb 12 ((200 * x1) + x6).toNatClampNeg, i_27, j_28, a_29, b_30)
def f_Mo_next_25 (nf : Nat) (x1 : Int32) (x2 : Int64) (s0 : Int32) (si : Nat → Int32) (sj : Nat → Int64) (sa : Nat → Nat → Int32) (sb : Nat → Nat → Int64) : Option (Int64 × (Nat → Int32) × (Nat → Int64) × (Nat → Nat → Int32) × (Nat → Nat → Int64)) :=
  if s0 ≤ 0 then
  f_Mo_next_43 nf nf 0 x2 x1 x2 (va_up si 3 s0) sj sa sb
  else
  some (0, va_up si 3 s0, sj, sa, sb)
def f_Mo_next_0 (nf : Nat) (x1 : Int32) (x2 : Int64) (si : Nat → Int32) (sj : Nat → Int64) (sa : Nat → Nat → Int32) (sb : Nat → Nat → Int64) : Option (Int64 × (Nat → Int32) × (Nat → Int64) × (Nat → Nat → Int32) × (Nat → Nat → Int64)) :=
  (f_Mo_noZone nf x1 si sj sa sb).bind fun r_1 =>
  if r_1 = 0 then
  (f_Mo_isInstant nf x2).bind fun r_3 =>
    if r_3 = 0 then
    f_Mo_next_25 nf x1 x2 2 si sj sa sb
    else
    f_Mo_next_25 nf x1 x2 0 si sj sa sb
  else
  f_Mo_next_25 nf x1 x2 1 si sj sa sb
def f_Mo_next (nf : Nat) (p0 : Int32) (p1 : Int64) (si : Nat → Int32) (sj : Nat → Int64) (sa : Nat → Nat → Int32) (sb : Nat → Nat → Int64) : Option (Int64 × (Nat → Int32) × (Nat → Int64) × (Nat → Nat → Int32) × (Nat → Nat → Int64)) :=
  f_Mo_next_0 nf p0 p1 si sj sa sb
section
variable {p : Program} {l : Launch} {e : Env} {R : Room} {s : State} {m : MethodId} {args : Array Value} {below : List Frame} {meth : Method} {c : Code} {Q : State → Prop} {dC : Nat → ClassId} {dI : Nat → Nat → Nat} {nf : Nat} {A : Nat → Prop} {h0 : Nat} {r : Nat → Nat} {cA : Nat → ClassId}
variable {r0 : Int64} {vi : Nat → Int32} {vj : Nat → Int64} {va : Nat → Nat → Int32} {vb : Nat → Nat → Int64}
set_option maxHeartbeats 400000 in
set_option maxRecDepth 100000 in
theorem k_Mo_next_169 (C0 : Cx p s m meth c args R b_Mo_next "ZoneFilesModel" 9 (some .long) 9 227) (hST : ST A s s.heap) (hA : ∀ q, s.heap.size ≤ q → A q) (hK : va_K (dC, dI) classes (moT cA) s) (hE : ∀ (pc : Nat) (ls : Array Slot) (H : Heap) (locs : List Loc), decode b_Mo_next pc = .ok (.lreturn, 1) → va_P (dC, dI) classes (moW h0 r cA vi vj va vb) H → va_D A (moW h0 r cA vi vj va vb) → va_S A s.heap H locs → W p l e R s m args below meth c H locs 0 0 Q (F0 m pc ls [.long r0])) {si : Nat → Int32} {sj : Nat → Int64} {sa : Nat → Nat → Int32} {sb : Nat → Nat → Int64} (hf : f_Mo_next_169 nf si sj sa sb = some (r0, vi, vj, va, vb)) {H : Heap} {locs : List Loc} {ls : Array Slot} (hP : va_P (dC, dI) classes (moW h0 r cA si sj sa sb) H) (hD : va_D A (moW h0 r cA si sj sa sb)) (hS : va_S A s.heap H locs) (hl : lv_has ls 9 []) : W p l e R s m args below meth c H locs 0 0 Q (F0 m 169 ls []) := by
  obtain ⟨hx, hb, hr, hml, hown, hts, hlocks, hRf, hRl⟩ := id C0
  unfold f_Mo_next_169 at hf
  refine lv_ldc2 (v := (-9223372036854775808)) hx hb hown (hts (.constantLong "ZoneFilesModel" 370 (-9223372036854775808)) m_8_2) d_Mo_next_169 ?_
  cases rs hf
  exact hE _ _ _ _ d_Mo_next_172 hP hD hS
set_option maxHeartbeats 400000 in
set_option maxRecDepth 100000 in
theorem k_Mo_next_115 (C0 : Cx p s m meth c args R b_Mo_next "ZoneFilesModel" 9 (some .long) 9 227) (hST : ST A s s.heap) (hA : ∀ q, s.heap.size ≤ q → A q) (hK : va_K (dC, dI) classes (moT cA) s) (hE : ∀ (pc : Nat) (ls : Array Slot) (H : Heap) (locs : List Loc), decode b_Mo_next pc = .ok (.lreturn, 1) → va_P (dC, dI) classes (moW h0 r cA vi vj va vb) H → va_D A (moW h0 r cA vi vj va vb) → va_S A s.heap H locs → W p l e R s m args below meth c H locs 0 0 Q (F0 m pc ls [.long r0])) : ∀ (n : Nat) {x6 : Int32} {x4 : Int64} {x1 : Int32} {si : Nat → Int32} {sj : Nat → Int64} {sa : Nat → Nat → Int32} {sb : Nat → Nat → Int64}, f_Mo_next_115 nf n x6 x4 x1 si sj sa sb = some (r0, vi, vj, va, vb) → ∀ {H : Heap} {locs : List Loc} {ls : Array Slot}, va_P (dC, dI) classes (moW h0 r cA si sj sa sb) H → va_D A (moW h0 r cA si sj sa sb) → va_S A s.heap H locs → lv_has ls 9 [(6, .int x6), (4, .long x4), (0, .ref h0), (1, .int x1)] → W p l e R s m args below meth c H locs 0 0 Q (F0 m 115 ls []) := by
  obtain ⟨hx, hb, hr, hml, hown, hts, hlocks, hRf, hRl⟩ := id C0
  intro n
  induction n with
  | zero =>
    intro x6 x4 x1 si sj sa sb hf
    exact absurd hf (by simp [f_Mo_next_115])
  | succ n ih =>
    intro x6 x4 x1 si sj sa sb hf H locs ls hP hD hS hl
    unfold f_Mo_next_115 at hf
    refine lv_iload hx hb d_Mo_next_115 (lv_at hl 0 rfl) ?_
    refine lv_sipush (v := 820) hx hb d_Mo_next_117 (by decide) ?_
    refine lv_icmp_ge (tgt := 169) hx hb d_Mo_next_120 (by decide) (fun c_8 => ?_) (fun c_8 => ?_)
    · have hf := it_t c_8 hf
      exact k_Mo_next_169 C0 hST hA hK hE hf hP hD hS (lv_sub hl [] rfl)
    · have hf := it_f c_8 hf
      refine lv_aload_n hx hb d_Mo_next_123 rfl (lv_at hl 2 rfl) ?_
      refine mg_23 hx hb hts hown hK hP d_Mo_next_124 ?_
      refine lv_iload_n hx hb d_Mo_next_127 rfl (lv_at hl 3 rfl) ?_
      obtain ⟨c_9, hf⟩ := it_n hf
      refine ma_23 (v := sa 23 x1.toNatClampNeg) hx hb hK hP c_9 rfl d_Mo_next_128 ?_
      refine lv_iconst (v := 2) hx hb d_Mo_next_129 (by decide) ?_
      refine lv_icmp_ne (tgt := 169) hx hb d_Mo_next_130 (by decide) (fun c_10 => ?_) (fun c_10 => ?_)
      · have hf := it_f c_10 hf
        exact k_Mo_next_169 C0 hST hA hK hE hf hP hD hS (lv_sub hl [] rfl)
      · have hf := it_t c_10 hf
        refine lv_lload hx hb d_Mo_next_133 (lv_at hl 1 rfl) ?_
        obtain ⟨r_11, hc, hf⟩ := ob hf
        refine cl_S (v := (some (.int r_11))) (st1 := [.int r_11]) (va_runS (As := [.long x4]) (rest := []) ⟨hx, hb, hml, hown, hts⟩ (c_Mo_isInstant l dC dI nf x4 hc) (va_cwS 1 hts (gdS m_7_159 m_7_160 m_1_10 m_7_161) rfl rfl rfl (by decide +kernel) ⟨Nat.le_trans (Nat.le_of_ble_eq_true rfl) hRf, Nat.le_trans (Nat.le_of_ble_eq_true rfl) hRl⟩) (RO.pre0 hK (hST.ro hS)).sta rfl rfl hl.1 rfl (lv_room (Nat.le_of_ble_eq_true rfl)) d_Mo_next_135 ⟨Nat.zero_le _, Nat.zero_le _⟩) rfl ?_
        refine lv_if_eq (tgt := 169) hx hb d_Mo_next_138 (by decide) (fun c_12 => ?_) (fun c_12 => ?_)
        · have hf := it_t c_12 hf
          exact k_Mo_next_169 C0 hST hA hK hE hf hP hD hS (lv_sub hl [] rfl)
        · have hf := it_f c_12 hf
          refine lv_aload_n hx hb d_Mo_next_141 rfl (lv_at hl 2 rfl) ?_
          refine lv_iload_n hx hb d_Mo_next_142 rfl (lv_at hl 3 rfl) ?_
          refine lv_lload hx hb d_Mo_next_143 (lv_at hl 1 rfl) ?_
          obtain ⟨⟨z_17, i_13, j_14, a_15, b_16⟩, hc, hf⟩ := ob hf
          have hFc := mo_free hD hS hA
          refine cl_M (v := (some (.long z_17))) (st1 := [.long z_17]) (va_runV (As := [.int x1, .long x4]) (rest := []) ⟨hx, hb, hml, hown, hts⟩ (c_Mo_eventAbove l dC dI h0 r cA H.size nf x1 x4 si sj sa sb hc) (cwV 2 hts (gdV m_8_78 m_8_80 msel_87 m_1_10 m_8_81) rfl rfl rfl (by decide +kernel) ⟨Nat.le_trans (Nat.le_of_ble_eq_true rfl) hRf, Nat.le_trans (Nat.le_of_ble_eq_true rfl) hRl⟩) ((MU.pre hP hK hD (hST.mu hS hFc)).vir (va_recv hK hP (ci := 10) (q0 := 0) rfl rfl)) rfl rfl hl.1 rfl (lv_room (Nat.le_of_ble_eq_true rfl)) d_Mo_next_145 ⟨Nat.zero_le _, Nat.zero_le _⟩) rfl hS (fun q _ h => hFc q h) hFc (fun t H1 locs ht hvm hB hz1 hk1 hS => ?_)
          obtain ⟨hP, hD⟩ := mo_back ht hD hB
          generalize H1 = H at hP hS ⊢
          refine lv_lstore (lv' := [(4, .long z_17), (6, .int x6), (0, .ref h0), (1, .int x1)]) hx hb d_Mo_next_148 hl (by decide) rfl (fun ls hl => ?_)
          refine lv_aload_n hx hb d_Mo_next_150 rfl (lv_at hl 2 rfl) ?_
          refine lv_iload_n hx hb d_Mo_next_151 rfl (lv_at hl 3 rfl) ?_
          refine lv_lload hx hb d_Mo_next_152 (lv_at hl 0 rfl) ?_
          obtain ⟨⟨z_22, i_18, j_19, a_20, b_21⟩, hc, hf⟩ := ob hf
          have hFc := mo_free hD hS hA
          refine cl_M (v := (some (.int z_22))) (st1 := [.int z_22]) (va_runV (As := [.int x1, .long z_17]) (rest := []) ⟨hx, hb, hml, hown, hts⟩ (c_Mo_isStep l dC dI h0 r cA H.size nf x1 z_17 i_13 j_14 a_15 b_16 hc) (cwV 2 hts (gdV m_8_74 m_8_76 msel_86 m_1_10 m_8_77) rfl rfl rfl (by decide +kernel) ⟨Nat.le_trans (Nat.le_of_ble_eq_true rfl) hRf, Nat.le_trans (Nat.le_of_ble_eq_true rfl) hRl⟩) ((MU.pre hP hK hD (hST.mu hS hFc)).vir (va_recv hK hP (ci := 10) (q0 := 0) rfl rfl)) rfl rfl hl.1 rfl (lv_room (Nat.le_of_ble_eq_true rfl)) d_Mo_next_154 ⟨Nat.zero_le _, Nat.zero_le _⟩) rfl hS (fun q _ h => hFc q h) hFc (fun t H1 locs ht hvm hB hz1 hk1 hS => ?_)
          obtain ⟨hP, hD⟩ := mo_back ht hD hB
          generalize H1 = H at hP hS ⊢
          refine lv_if_eq (tgt := 163) hx hb d_Mo_next_157 (by decide) (fun c_23 => ?_) (fun c_23 => ?_)
          · have hf := it_t c_23 hf
            refine lv_iinc (v := x6 + 1) (lv' := [(6, .int (x6 + 1)), (4, .long z_17), (0, .ref h0), (1, .int x1)]) hx hb d_Mo_next_163 hl (k := 1) rfl rfl (by decide) rfl (fun ls hl => ?_)
            refine lv_goto (tgt := 115) hx hb d_Mo_next_166 (by decide) ?_
            exact ih hf hP hD hS (lv_sub hl [0, 1, 2, 3] rfl)
          · have hf := it_f c_23 hf
            refine lv_lload hx hb d_Mo_next_160 (lv_at hl 0 rfl) ?_
            cases rs hf
            exact hE _ _ _ _ d_Mo_next_162 hP hD hS
set_option maxHeartbeats 400000 in
set_option maxRecDepth 100000 in
theorem k_Mo_next_104 (C0 : Cx p s m meth c args R b_Mo_next "ZoneFilesModel" 9 (some .long) 9 227) (hST : ST A s s.heap) (hA : ∀ q, s.heap.size ≤ q → A q) (hK : va_K (dC, dI) classes (moT cA) s) (hE : ∀ (pc : Nat) (ls : Array Slot) (H : Heap) (locs : List Loc), decode b_Mo_next pc = .ok (.lreturn, 1) → va_P (dC, dI) classes (moW h0 r cA vi vj va vb) H → va_D A (moW h0 r cA vi vj va vb) → va_S A s.heap H locs → W p l e R s m args below meth c H locs 0 0 Q (F0 m pc ls [.long r0])) {K43 : Int32 → Int64 → Int32 → Int64 → (Nat → Int32) → (Nat → Int64) → (Nat → Nat → Int32) → (Nat → Nat → Int64) → Option (Int64 × (Nat → Int32) × (Nat → Int64) × (Nat → Nat → Int32) × (Nat → Nat → Int64))} (hK43 : ∀ {x6 : Int32} {x4 : Int64} {x1 : Int32} {x2 : Int64} {si : Nat → Int32} {sj : Nat → Int64} {sa : Nat → Nat → Int32} {sb : Nat → Nat → Int64}, K43 x6 x4 x1 x2 si sj sa sb = some (r0, vi, vj, va, vb) → ∀ {H : Heap} {locs : List Loc} {ls : Array Slot}, va_P (dC, dI) classes (moW h0 r cA si sj sa sb) H → va_D A (moW h0 r cA si sj sa sb) → va_S A s.heap H locs → lv_has ls 9 [(6, .int x6), (4, .long x4), (0, .ref h0), (1, .int x1), (2, .long x2)] → W p l e R s m args below meth c H locs 0 0 Q (F0 m 43 ls [])) {x6 : Int32} {x1 : Int32} {x2 : Int64} {s0 : Int64} {si : Nat → Int32} {sj : Nat → Int64} {sa : Nat → Nat → Int32} {sb : Nat → Nat → Int64} (hf : f_Mo_next_104 nf K43 x6 x1 x2 s0 si sj sa sb = some (r0, vi, vj, va, vb)) {H : Heap} {locs : List Loc} {ls : Array Slot} (hP : va_P (dC, dI) classes (moW h0 r cA si sj sa sb) H) (hD : va_D A (moW h0 r cA si sj sa sb)) (hS : va_S A s.heap H locs) (hl : lv_has ls 9 [(6, .int x6), (0, .ref h0), (1, .int x1), (2, .long x2)]) : W p l e R s m args below meth c H locs 0 0 Q (F0 m 104 ls [.long s0]) := by
  obtain ⟨hx, hb, hr, hml, hown, hts, hlocks, hRf, hRl⟩ := id C0
  unfold f_Mo_next_104 at hf
  refine lv_lstore (lv' := [(4, .long s0), (6, .int x6), (0, .ref h0), (1, .int x1), (2, .long x2)]) hx hb d_Mo_next_104 hl (by decide) rfl (fun ls hl => ?_)
  refine lv_iinc (v := x6 + 1) (lv' := [(6, .int (x6 + 1)), (4, .long s0), (0, .ref h0), (1, .int x1), (2, .long x2)]) hx hb d_Mo_next_106 hl (k := 1) rfl rfl (by decide) rfl (fun ls hl => ?_)
  refine lv_goto (tgt := 43) hx hb d_Mo_next_109 (by decide) ?_
  exact hK43 hf hP hD hS (lv_sub hl [0, 1, 2, 3, 4] rfl)
set_option maxHeartbeats 400000 in
set_option maxRecDepth 100000 in
theorem k_Mo_next_89 (C0 : Cx p s m meth c args R b_Mo_next "ZoneFilesModel" 9 (some .long) 9 227) (hST : ST A s s.heap) (hA : ∀ q, s.heap.size ≤ q → A q) (hK : va_K (dC, dI) classes (moT cA) s) (hE : ∀ (pc : Nat) (ls : Array Slot) (H : Heap) (locs : List Loc), decode b_Mo_next pc = .ok (.lreturn, 1) → va_P (dC, dI) classes (moW h0 r cA vi vj va vb) H → va_D A (moW h0 r cA vi vj va vb) → va_S A s.heap H locs → W p l e R s m args below meth c H locs 0 0 Q (F0 m pc ls [.long r0])) {K43 : Int32 → Int64 → Int32 → Int64 → (Nat → Int32) → (Nat → Int64) → (Nat → Nat → Int32) → (Nat → Nat → Int64) → Option (Int64 × (Nat → Int32) × (Nat → Int64) × (Nat → Nat → Int32) × (Nat → Nat → Int64))} (hK43 : ∀ {x6 : Int32} {x4 : Int64} {x1 : Int32} {x2 : Int64} {si : Nat → Int32} {sj : Nat → Int64} {sa : Nat → Nat → Int32} {sb : Nat → Nat → Int64}, K43 x6 x4 x1 x2 si sj sa sb = some (r0, vi, vj, va, vb) → ∀ {H : Heap} {locs : List Loc} {ls : Array Slot}, va_P (dC, dI) classes (moW h0 r cA si sj sa sb) H → va_D A (moW h0 r cA si sj sa sb) → va_S A s.heap H locs → lv_has ls 9 [(6, .int x6), (4, .long x4), (0, .ref h0), (1, .int x1), (2, .long x2)] → W p l e R s m args below meth c H locs 0 0 Q (F0 m 43 ls [])) {x7 : Int64} {x6 : Int32} {x4 : Int64} {x1 : Int32} {x2 : Int64} {si : Nat → Int32} {sj : Nat → Int64} {sa : Nat → Nat → Int32} {sb : Nat → Nat → Int64} (hf : f_Mo_next_89 nf K43 x7 x6 x4 x1 x2 si sj sa sb = some (r0, vi, vj, va, vb)) {H : Heap} {locs : List Loc} {ls : Array Slot} (hP : va_P (dC, dI) classes (moW h0 r cA si sj sa sb) H) (hD : va_D A (moW h0 r cA si sj sa sb)) (hS : va_S A s.heap H locs) (hl : lv_has ls 9 [(7, .long x7), (6, .int x6), (4, .long x4), (0, .ref h0), (1, .int x1), (2, .long x2)]) : W p l e R s m args below meth c H locs 0 0 Q (F0 m 89 ls []) := by
  obtain ⟨hx, hb, hr, hml, hown, hts, hlocks, hRf, hRl⟩ := id C0
  unfold f_Mo_next_89 at hf
  refine lv_lload hx hb d_Mo_next_89 (lv_at hl 0 rfl) ?_
  refine lv_lload hx hb d_Mo_next_91 (lv_at hl 2 rfl) ?_
  refine lc_le (tgt := 102) hx hb d_Mo_next_93 d_Mo_next_94 (by decide) (fun c_26 => ?_) (fun c_26 => ?_)
  · have hf := it_t c_26 hf
    refine lv_lload hx hb d_Mo_next_102 (lv_at hl 2 rfl) ?_
    exact k_Mo_next_104 C0 hST hA hK hE hK43 hf hP hD hS (lv_sub hl [1, 3, 4, 5] rfl)
  · have hf := it_f c_26 hf
    refine lv_lload hx hb d_Mo_next_97 (lv_at hl 0 rfl) ?_
    refine lv_goto (tgt := 104) hx hb d_Mo_next_99 (by decide) ?_
    exact k_Mo_next_104 C0 hST hA hK hE hK43 hf hP hD hS (lv_sub hl [1, 3, 4, 5] rfl)
set_option maxHeartbeats 400000 in
set_option maxRecDepth 100000 in
theorem k_Mo_next_43 (C0 : Cx p s m meth c args R b_Mo_next "ZoneFilesModel" 9 (some .long) 9 227) (hST : ST A s s.heap) (hA : ∀ q, s.heap.size ≤ q → A q) (hK : va_K (dC, dI) classes (moT cA) s) (hE : ∀ (pc : Nat) (ls : Array Slot) (H : Heap) (locs : List Loc), decode b_Mo_next pc = .ok (.lreturn, 1) → va_P (dC, dI) classes (moW h0 r cA vi vj va vb) H → va_D A (moW h0 r cA vi vj va vb) → va_S A s.heap H locs → W p l e R s m args below meth c H locs 0 0 Q (F0 m pc ls [.long r0])) : ∀ (n : Nat) {x6 : Int32} {x4 : Int64} {x1 : Int32} {x2 : Int64} {si : Nat → Int32} {sj : Nat → Int64} {sa : Nat → Nat → Int32} {sb : Nat → Nat → Int64}, f_Mo_next_43 nf n x6 x4 x1 x2 si sj sa sb = some (r0, vi, vj, va, vb) → ∀ {H : Heap} {locs : List Loc} {ls : Array Slot}, va_P (dC, dI) classes (moW h0 r cA si sj sa sb) H → va_D A (moW h0 r cA si sj sa sb) → va_S A s.heap H locs → lv_has ls 9 [(6, .int x6), (4, .long x4), (0, .ref h0), (1, .int x1), (2, .long x2)] → W p l e R s m args below meth c H locs 0 0 Q (F0 m 43 ls []) := by
  obtain ⟨hx, hb, hr, hml, hown, hts, hlocks, hRf, hRl⟩ := id C0
  intro n
  induction n with
  | zero =>
    intro x6 x4 x1 x2 si sj sa sb hf
    exact absurd hf (by simp [f_Mo_next_43])
  | succ n ih =>
    intro x6 x4 x1 x2 si sj sa sb hf H locs ls hP hD hS hl
    unfold f_Mo_next_43 at hf
    refine lv_iload hx hb d_Mo_next_43 (lv_at hl 0 rfl) ?_
    refine lv_aload_n hx hb d_Mo_next_45 rfl (lv_at hl 2 rfl) ?_
    refine mg_5 hx hb hts hown hK hP d_Mo_next_46 ?_
    refine lv_iload_n hx hb d_Mo_next_49 rfl (lv_at hl 3 rfl) ?_
    obtain ⟨c_6, hf⟩ := it_n hf
    refine ma_5 (v := sa 5 x1.toNatClampNeg) hx hb hK hP c_6 rfl d_Mo_next_50 ?_
    refine lv_icmp_ge (tgt := 112) hx hb d_Mo_next_51 (by decide) (fun c_7 => ?_) (fun c_7 => ?_)
    · have hf := it_t c_7 hf
      refine lv_iconst (v := 0) hx hb d_Mo_next_112 (by decide) ?_
      refine lv_istore (lv' := [(6, .int 0), (4, .long x4), (0, .ref h0), (1, .int x1), (2, .long x2)]) hx hb d_Mo_next_113 hl (by decide) rfl (fun ls hl => ?_)
      exact k_Mo_next_115 C0 hST hA hK hE nf hf hP hD hS (lv_sub hl [0, 1, 2, 3] rfl)
    · have hf := it_f c_7 hf
      refine lv_aload_n hx hb d_Mo_next_54 rfl (lv_at hl 2 rfl) ?_
      refine mg_12 hx hb hts hown hK hP d_Mo_next_55 ?_
      refine lv_sipush (v := 200) hx hb d_Mo_next_58 (by decide) ?_
      refine lv_iload_n hx hb d_Mo_next_61 rfl (lv_at hl 3 rfl) ?_
      refine lv_imul hx hb d_Mo_next_62 ?_
      refine lv_iload hx hb d_Mo_next_63 (lv_at hl 0 rfl) ?_
      refine lv_iadd hx hb d_Mo_next_65 ?_
      obtain ⟨c_24, hf⟩ := it_n hf
      refine ma_12 (v := sb 12 ((200 * x1) + x6).toNatClampNeg) hx hb hK hP c_24 rfl d_Mo_next_66 ?_
      refine lv_lstore (lv' := [(7, .long (sb 12 ((200 * x1) + x6).toNatClampNeg)), (6, .int x6), (4, .long x4), (0, .ref h0), (1, .int x1), (2, .long x2)]) hx hb d_Mo_next_67 hl (by decide) rfl (fun ls hl => ?_)
      refine lv_lload hx hb d_Mo_next_69 (lv_at hl 0 rfl) ?_
      refine lv_lload_n hx hb d_Mo_next_71 rfl (lv_at hl 5 rfl) ?_
      refine lc_le (tgt := 89) hx hb d_Mo_next_72 d_Mo_next_73 (by decide) (fun c_25 => ?_) (fun c_25 => ?_)
      · have hf := it_t c_25 hf
        exact k_Mo_next_89 C0 hST hA hK hE (fun hf => ih hf) hf hP hD hS (lv_sub hl [0, 1, 2, 3, 4, 5] rfl)
      · have hf := it_f c_25 hf
        refine lv_aload_n hx hb d_Mo_next_76 rfl (lv_at hl 3 rfl) ?_
        refine lv_iload_n hx hb d_Mo_next_77 rfl (lv_at hl 4 rfl) ?_
        refine lv_lload hx hb d_Mo_next_78 (lv_at hl 0 rfl) ?_
        obtain ⟨⟨z_31, i_27, j_28, a_29, b_30⟩, hc, hf⟩ := ob hf
        have hFc := mo_free hD hS hA
        refine cl_M (v := (some (.int z_31))) (st1 := [.int z_31]) (va_runV (As := [.int x1, .long (sb 12 ((200 * x1) + x6).toNatClampNeg)]) (rest := []) ⟨hx, hb, hml, hown, hts⟩ (c_Mo_isStep l dC dI h0 r cA H.size nf x1 (sb 12 ((200 * x1) + x6).toNatClampNeg) si sj sa sb hc) (cwV 2 hts (gdV m_8_74 m_8_76 msel_86 m_1_10 m_8_77) rfl rfl rfl (by decide +kernel) ⟨Nat.le_trans (Nat.le_of_ble_eq_true rfl) hRf, Nat.le_trans (Nat.le_of_ble_eq_true rfl) hRl⟩) ((MU.pre hP hK hD (hST.mu hS hFc)).vir (va_recv hK hP (ci := 10) (q0 := 0) rfl rfl)) rfl rfl hl.1 rfl (lv_room (Nat.le_of_ble_eq_true rfl)) d_Mo_next_80 ⟨Nat.zero_le _, Nat.zero_le _⟩) rfl hS (fun q _ h => hFc q h) hFc (fun t H1 locs ht hvm hB hz1 hk1 hS => ?_)
        obtain ⟨hP, hD⟩ := mo_back ht hD hB
        generalize H1 = H at hP hS ⊢
        refine lv_if_eq (tgt := 89) hx hb d_Mo_next_83 (by decide) (fun c_32 => ?_) (fun c_32 => ?_)
        · have hf := it_t c_32 hf
          exact k_Mo_next_89 C0 hST hA hK hE (fun hf => ih hf) hf hP hD hS (lv_sub hl [0, 1, 2, 3, 4, 5] rfl)
        · have hf := it_f c_32 hf
          refine lv_lload hx hb d_Mo_next_86 (lv_at hl 0 rfl) ?_
          cases rs hf
          exact hE _ _ _ _ d_Mo_next_88 hP hD hS
set_option maxHeartbeats 400000 in
set_option maxRecDepth 100000 in
theorem k_Mo_next_25 (C0 : Cx p s m meth c args R b_Mo_next "ZoneFilesModel" 9 (some .long) 9 227) (hST : ST A s s.heap) (hA : ∀ q, s.heap.size ≤ q → A q) (hK : va_K (dC, dI) classes (moT cA) s) (hE : ∀ (pc : Nat) (ls : Array Slot) (H : Heap) (locs : List Loc), decode b_Mo_next pc = .ok (.lreturn, 1) → va_P (dC, dI) classes (moW h0 r cA vi vj va vb) H → va_D A (moW h0 r cA vi vj va vb) → va_S A s.heap H locs → W p l e R s m args below meth c H locs 0 0 Q (F0 m pc ls [.long r0])) {x1 : Int32} {x2 : Int64} {s0 : Int32} {si : Nat → Int32} {sj : Nat → Int64} {sa : Nat → Nat → Int32} {sb : Nat → Nat → Int64} (hf : f_Mo_next_25 nf x1 x2 s0 si sj sa sb = some (r0, vi, vj, va, vb)) {H : Heap} {locs : List Loc} {ls : Array Slot} (hP : va_P (dC, dI) classes (moW h0 r cA si sj sa sb) H) (hD : va_D A (moW h0 r cA si sj sa sb)) (hS : va_S A s.heap H locs) (hl : lv_has ls 9 [(0, .ref h0), (1, .int x1), (2, .long x2)]) : W p l e R s m args below meth c H locs 0 0 Q (F0 m 25 ls [.int s0, .ref h0]) := by
  obtain ⟨hx, hb, hr, hml, hown, hts, hlocks, hRf, hRl⟩ := id C0
  unfold f_Mo_next_25 at hf
  refine mp_3 hx hb hts hown hK hP hD hS d_Mo_next_25 (fun H locs hP hD hS => ?_)
  refine lv_aload_n hx hb d_Mo_next_28 rfl (lv_at hl 0 rfl) ?_
  refine mg_3 (v := s0) hx hb hts hown hK hP rfl d_Mo_next_29 ?_
  refine lv_if_le (tgt := 37) hx hb d_Mo_next_32 (by decide) (fun c_5 => ?_) (fun c_5 => ?_)
  · have hf := it_t c_5 hf
    refine lv_lload_n hx hb d_Mo_next_37 rfl (lv_at hl 2 rfl) ?_
    refine lv_lstore (lv' := [(4, .long x2), (0, .ref h0), (1, .int x1), (2, .long x2)]) hx hb d_Mo_next_38 hl (by decide) rfl (fun ls hl => ?_)
    refine lv_iconst (v := 0) hx hb d_Mo_next_40 (by decide) ?_
    refine lv_istore (lv' := [(6, .int 0), (4, .long x2), (0, .ref h0), (1, .int x1), (2, .long x2)]) hx hb d_Mo_next_41 hl (by decide) rfl (fun ls hl => ?_)
    exact k_Mo_next_43 C0 hST hA hK hE nf hf hP hD hS (lv_sub hl [0, 1, 2, 3, 4] rfl)
  · have hf := it_f c_5 hf
    refine lv_lconst (v := 0) hx hb d_Mo_next_35 (by decide) ?_
    cases rs hf
    exact hE _ _ _ _ d_Mo_next_36 hP hD hS
set_option maxHeartbeats 400000 in
set_option maxRecDepth 100000 in
theorem k_Mo_next_0 (C0 : Cx p s m meth c args R b_Mo_next "ZoneFilesModel" 9 (some .long) 9 227) (hST : ST A s s.heap) (hA : ∀ q, s.heap.size ≤ q → A q) (hK : va_K (dC, dI) classes (moT cA) s) (hE : ∀ (pc : Nat) (ls : Array Slot) (H : Heap) (locs : List Loc), decode b_Mo_next pc = .ok (.lreturn, 1) → va_P (dC, dI) classes (moW h0 r cA vi vj va vb) H → va_D A (moW h0 r cA vi vj va vb) → va_S A s.heap H locs → W p l e R s m args below meth c H locs 0 0 Q (F0 m pc ls [.long r0])) {x1 : Int32} {x2 : Int64} {si : Nat → Int32} {sj : Nat → Int64} {sa : Nat → Nat → Int32} {sb : Nat → Nat → Int64} (hf : f_Mo_next_0 nf x1 x2 si sj sa sb = some (r0, vi, vj, va, vb)) {H : Heap} {locs : List Loc} {ls : Array Slot} (hP : va_P (dC, dI) classes (moW h0 r cA si sj sa sb) H) (hD : va_D A (moW h0 r cA si sj sa sb)) (hS : va_S A s.heap H locs) (hl : lv_has ls 9 [(0, .ref h0), (1, .int x1), (2, .long x2)]) : W p l e R s m args below meth c H locs 0 0 Q (F0 m 0 ls []) := by
  obtain ⟨hx, hb, hr, hml, hown, hts, hlocks, hRf, hRl⟩ := id C0
  unfold f_Mo_next_0 at hf
  refine lv_aload_n hx hb d_Mo_next_0 rfl (lv_at hl 0 rfl) ?_
  refine lv_aload_n hx hb d_Mo_next_1 rfl (lv_at hl 0 rfl) ?_
  refine lv_iload_n hx hb d_Mo_next_2 rfl (lv_at hl 1 rfl) ?_
  obtain ⟨r_1, hc, hf⟩ := ob hf
  refine cl_S (v := (some (.int r_1))) (st1 := [.int r_1, .ref h0]) (va_runV (As := [.int x1]) (rest := [.ref h0]) ⟨hx, hb, hml, hown, hts⟩ (c_Mo_noZone l dC dI h0 r cA nf x1 si sj sa sb hc) (cwV 1 hts (gdV m_8_45 m_8_47 msel_83 m_1_10 m_8_48) rfl rfl rfl (by decide +kernel) ⟨Nat.le_trans (Nat.le_of_ble_eq_true rfl) hRf, Nat.le_trans (Nat.le_of_ble_eq_true rfl) hRl⟩) ((RO.pre hP hK (hST.ro hS)).vir (va_recv hK hP (ci := 10) (q0 := 0) rfl rfl)) rfl rfl hl.1 rfl (lv_room (Nat.le_of_ble_eq_true rfl)) d_Mo_next_3 ⟨Nat.zero_le _, Nat.zero_le _⟩) rfl ?_
  refine lv_if_eq (tgt := 13) hx hb d_Mo_next_6 (by decide) (fun c_2 => ?_) (fun c_2 => ?_)
  · have hf := it_t c_2 hf
    refine lv_lload_n hx hb d_Mo_next_13 rfl (lv_at hl 2 rfl) ?_
    obtain ⟨r_3, hc, hf⟩ := ob hf
    refine cl_S (v := (some (.int r_3))) (st1 := [.int r_3, .ref h0]) (va_runS (As := [.long x2]) (rest := [.ref h0]) ⟨hx, hb, hml, hown, hts⟩ (c_Mo_isInstant l dC dI nf x2 hc) (va_cwS 1 hts (gdS m_7_159 m_7_160 m_1_10 m_7_161) rfl rfl rfl (by decide +kernel) ⟨Nat.le_trans (Nat.le_of_ble_eq_true rfl) hRf, Nat.le_trans (Nat.le_of_ble_eq_true rfl) hRl⟩) (RO.pre0 hK (hST.ro hS)).sta rfl rfl hl.1 rfl (lv_room (Nat.le_of_ble_eq_true rfl)) d_Mo_next_14 ⟨Nat.zero_le _, Nat.zero_le _⟩) rfl ?_
    refine lv_if_ne (tgt := 24) hx hb d_Mo_next_17 (by decide) (fun c_4 => ?_) (fun c_4 => ?_)
    · have hf := it_f c_4 hf
      refine lv_iconst (v := 0) hx hb d_Mo_next_24 (by decide) ?_
      exact k_Mo_next_25 C0 hST hA hK hE hf hP hD hS (lv_sub hl [0, 1, 2] rfl)
    · have hf := it_t c_4 hf
      refine lv_iconst (v := 2) hx hb d_Mo_next_20 (by decide) ?_
      refine lv_goto (tgt := 25) hx hb d_Mo_next_21 (by decide) ?_
      exact k_Mo_next_25 C0 hST hA hK hE hf hP hD hS (lv_sub hl [0, 1, 2] rfl)
  · have hf := it_f c_2 hf
    refine lv_iconst (v := 1) hx hb d_Mo_next_9 (by decide) ?_
    refine lv_goto (tgt := 25) hx hb d_Mo_next_10 (by decide) ?_
    exact k_Mo_next_25 C0 hST hA hK hE hf hP hD hS (lv_sub hl [0, 1, 2] rfl)
end
set_option maxHeartbeats 400000 in
set_option maxRecDepth 100000 in
theorem c_Mo_next (l : Launch) (dC : Nat → ClassId) (dI : Nat → Nat → Nat) (h0 : Nat) (r : Nat → Nat) (cA : Nat → ClassId) (sz : Nat) (nf : Nat) (p0 : Int32) (p1 : Int64) (si : Nat → Int32) (sj : Nat → Int64) (sa : Nat → Nat → Int32) (sb : Nat → Nat → Int64) {r0 : Int64} {vi : Nat → Int32} {vj : Nat → Int64} {va : Nat → Nat → Int32} {vb : Nat → Nat → Int64} (hf : f_Mo_next nf p0 p1 si sj sa sb = some (r0, vi, vj, va, vb)) : Met l y_Mo_next (wd y_Mo_next b_Mo_next 9 (some .long)) ({ frames := 9, cells := 0, slots := 0, locals := 227 }) (MU dC dI (moW h0 r cA si sj sa sb) (moT cA) sz [.ref h0, .int p0, .long p1]) (MV (some (.long r0)) (fun t => va_P (dC, dI) classes (moW h0 r cA vi vj va vb) t.heap) (va_A (moW h0 r cA si sj sa sb) sz)) 0 0 (va_A (moW h0 r cA si sj sa sb) sz) :=
  met_M (plainFor_of_name (by decide)) (Nat.le_of_ble_eq_true rfl) (fun p e R s m args below meth c ls hRc hRs hsz hin C0 hST hK hP hD hl => by
    obtain ⟨hx, hb, hr, hml, hown, hts, hlocks, hRf, hRl⟩ := id C0
    subst hsz
    have hA : ∀ q : Nat, s.heap.size ≤ q → va_A (moW h0 r cA si sj sa sb) s.heap.size q := fun q h => Or.inr h
    have hS : va_S (va_A (moW h0 r cA si sj sa sb) s.heap.size) s.heap s.heap [] := va_S.rf
    unfold f_Mo_next at hf
    exact k_Mo_next_0 C0 hST hA hK (fun pc ls H locs hd hP hD hS => W.lret hx hb hr (fun t ht hW => ⟨⟨rfl, mo_end ht hP⟩, hS.F ht⟩) hS.2.2 hd) hf hP hD hS (lv_sub hl [0, 1, 2] rfl))
-- ZoneFilesModel.last(IJ)J
def f_Mo_last_195 (nf : Nat) (K155 : Int32 → Int32 → Int64 → (Nat → Int32) → (Nat → Int64) → (Nat → Nat → Int32) → (Nat → Nat → Int64) → Option (Int64 × (Nat → Int32) × (Nat → Int64) × (Nat → Nat → Int32) × (Nat → Nat → Int64))) (x9 : Int32) (x1 : Int32) (x2 : Int64) (si : Nat → Int32) (sj : Nat → Int64) (sa : Nat → Nat → Int32) (sb : Nat → Nat → Int64) : Option (Int64 × (Nat → Int32) × (Nat → Int64) × (Nat → Nat → Int32) × (Nat → Nat → Int64)) :=
  K155 (x9 + (-1)) x1 x2 si sj sa sb
def f_Mo_last_155 (nf : Nat) : Nat → Int32 → Int32 → Int64 → (Nat → Int32) → (Nat → Int64) → (Nat → Nat → Int32) → (Nat → Nat → Int64) → Option (Int64 × (Nat → Int32) × (Nat → Int64) × (Nat → Nat → Int32) × (Nat → Nat → Int64))
  | 0, _, _, _, _, _, _, _ => none
  | n + 1, x9, x1, x2, si, sj, sa, sb =>
    if x9 < 0 then
    some ((-9223372036854775808), si, sj, sa, sb)
    else
    if ((200 * x1) + x9) < 0 ∨ 1000 ≤ ((200 * x1) + x9).toNatClampNeg then none else
      if x2 ≤ (sb 12 ((200 * x1) + x9).toNatClampNeg) then
      f_Mo_last_195 nf (f_Mo_last_155 nf n) x9 x1 x2 si sj sa sb
      else
      (f_Mo_isStep nf x1 (sb 12 ((200 * x1) + x9).toNatClampNeg) si sj sa sb).bind fun (z_17, i_13, j_14, a_15, b_16) =>
        if z_17 = 0 then
        f_Mo_last_195 nf (f_Mo_last_155 nf n) x9 x1 x2 i_13 j_14 a_15 b_16
        else
        some (sb 12 ((200 * x1) + x9).toNatClampNeg, i_13, j_14, a_15, b_16)
def f_Mo_last_149 (nf : Nat) (x4 : Int32) (x1 : Int32) (x2 : Int64) (si : Nat → Int32) (sj : Nat → Int64) (sa : Nat → Nat → Int32) (sb : Nat → Nat → Int64) : Option (Int64 × (Nat → Int32) × (Nat → Int64) × (Nat → Nat → Int32) × (Nat → Nat → Int64)) :=
  f_Mo_last_155 nf nf (x4 - 1) x1 x2 si sj sa sb
def f_Mo_last_143 (nf : Nat) (K79 : Int32 → Int64 → Int64 → Int32 → Int32 → Int64 → (Nat → Int32) → (Nat → Int64) → (Nat → Nat → Int32) → (Nat → Nat → Int64) → Option (Int64 × (Nat → Int32) × (Nat → Int64) × (Nat → Nat → Int32) × (Nat → Nat → Int64))) (x7 : Int64) (x9 : Int32) (x5 : Int64) (x4 : Int32) (x1 : Int32) (x2 : Int64) (si : Nat → Int32) (sj : Nat → Int64) (sa : Nat → Nat → Int32) (sb : Nat → Nat → Int64) : Option (Int64 × (Nat → Int32) × (Nat → Int64) × (Nat → Nat → Int32) × (Nat → Nat → Int64)) :=
  K79 (x9 + 1) x7 x5 x4 x1 x2 si sj sa sb
def f_Mo_last_79 (nf : Nat) : Nat → Int32 → Int64 → Int64 → Int32 → Int32 → Int64 → (Nat → Int32) → (Nat → Int64) → (Nat → Nat → Int32) → (Nat → Nat → Int64) → Option (Int64 × (Nat → Int32) × (Nat → Int64) × (Nat → Nat → Int32) × (Nat → Nat → Int64))
  | 0, _, _, _, _, _, _, _, _, _, _ => none
  | n + 1, x9, x7, x5, x4, x1, x2, si, sj, sa, sb =>
    if (820 : Int32) ≤ x9 then
    f_Mo_last_149 nf x4 x1 x2 si sj sa sb
    else
    if x1 < 0 ∨ 5 ≤ x1.toNatClampNeg then none else
      if (sa 23 x1.toNatClampNeg) = (2 : Int32) then
      (f_Mo_isInstant nf x7).bind fun r_21 =>
        if r_21 = 0 then
        f_Mo_last_149 nf x4 x1 x2 si sj sa sb
        else
        if x7 ≤ x5 then
          f_Mo_last_149 nf x4 x1 x2 si sj sa sb
          else
          (f_Mo_eventBelow nf x1 x7 si sj sa sb).bind fun (z_28, i_24, j_25, a_26, b_27) =>
            if z_28 ≤ x5 then
            f_Mo_last_143 nf (f_Mo_last_79 nf n) z_28 x9 x5 x4 x1 x2 i_24 j_25 a_26 b_27
            else
            (f_Mo_isStep nf x1 z_28 i_24 j_25 a_26 b_27).bind fun (z_34, i_30, j_31, a_32, b_33) =>
              if z_34 = 0 then
              f_Mo_last_143 nf (f_Mo_last_79 nf n) z_28 x9 x5 x4 x1 x2 i_30 j_31 a_32 b_33
              else
              some (z_28, i_30, j_31, a_32, b_33)
      else
      f_Mo_last_149 nf x4 x1 x2 si sj sa sb
def f_Mo_last_71 (nf : Nat) (x4 : Int32) (x1 : Int32) (x2 : Int64) (s0 : Int64) (si : Nat → Int32) (sj : Nat → Int64) (sa : Nat → Nat → Int32) (sb : Nat → Nat → Int64) : Option (Int64 × (Nat → Int32) × (Nat → Int64) × (Nat → Nat → Int32) × (Nat → Nat → Int64)) :=
  f_Mo_last_79 nf nf 0 x2 s0 x4 x1 x2 si sj sa sb
def f_Mo_last_25 (nf : Nat) (x1 : Int32) (x2 : Int64) (s0 : Int32) (si : Nat → Int32) (sj : Nat → Int64) (sa : Nat → Nat → Int32) (sb : Nat → Nat → Int64) : Option (Int64 × (Nat → Int32) × (Nat → Int64) × (Nat → Nat → Int32) × (Nat → Nat → Int64)) :=
  if s0 ≤ 0 then
  if x1 < 0 ∨ 5 ≤ x1.toNatClampNeg then none else
    if (sa 5 x1.toNatClampNeg) = 0 then
    f_Mo_last_71 nf (sa 5 x1.toNatClampNeg) x1 x2 (-9223372036854775808) (va_up si 3 s0) sj sa sb
    else
    if (((200 * x1) + (sa 5 x1.toNatClampNeg)) - 1) < 0 ∨ 1000 ≤ (((200 * x1) + (sa 5 x1.toNatClampNeg)) - 1).toNatClampNeg then none else
      f_Mo_last_71 nf (sa 5 x1.toNatClampNeg) x1 x2 (sb 12 (((200 * x1) + (sa 5 x1.toNatClampNeg)) - 1).toNatClampNeg) (va_up si 3 s0) sj sa sb
  else
  some (0, va_up si 3 s0, sj, sa, sb)
def f_Mo_last_0 (nf : Nat) (x1 : Int32) (x2 : Int64) (si : Nat → Int32) (sj : Nat → Int64) (sa : Nat → Nat → Int32) (sb : Nat → Nat → Int64) : Option (Int64 × (Nat → Int32) × (Nat → Int64) × (Nat → Nat → Int32) × (Nat → Nat → Int64)) :=
  (f_Mo_noZone nf x1 si sj sa sb).bind fun r_1 =>
  if r_1 = 0 then
  (f_Mo_isInstant nf x2).bind fun r_3 =>
    if r_3 = 0 then
    f_Mo_last_25 nf x1 x2 2 si sj sa sb
    else
    f_Mo_last_25 nf x1 x2 0 si sj sa sb
  else
  f_Mo_last_25 nf x1 x2 1 si sj sa sb
def f_Mo_last (nf : Nat) (p0 : Int32) (p1 : Int64) (si : Nat → Int32) (sj : Nat → Int64) (sa : Nat → Nat → Int32) (sb : Nat → Nat → Int64) : Option (Int64 × (Nat → Int32) × (Nat → Int64) × (Nat → Nat → Int32) × (Nat → Nat → Int64)) :=
  f_Mo_last_0 nf p0 p1 si sj sa sb
section
variable {p : Program} {l : Launch} {e : Env} {R : Room} {s : State} {m : MethodId} {args : Array Value} {below : List Frame} {meth : Method} {c : Code} {Q : State → Prop} {dC : Nat → ClassId} {dI : Nat → Nat → Nat} {nf : Nat} {A : Nat → Prop} {h0 : Nat} {r : Nat → Nat} {cA : Nat → ClassId}
variable {r0 : Int64} {vi : Nat → Int32} {vj : Nat → Int64} {va : Nat → Nat → Int32} {vb : Nat → Nat → Int64}
set_option maxHeartbeats 400000 in
set_option maxRecDepth 100000 in
theorem k_Mo_last_195 (C0 : Cx p s m meth c args R b_Mo_last "ZoneFilesModel" 12 (some .long) 9 227) (hST : ST A s s.heap) (hA : ∀ q, s.heap.size ≤ q → A q) (hK : va_K (dC, dI) classes (moT cA) s) (hE : ∀ (pc : Nat) (ls : Array Slot) (H : Heap) (locs : List Loc), decode b_Mo_last pc = .ok (.lreturn, 1) → va_P (dC, dI) classes (moW h0 r cA vi vj va vb) H → va_D A (moW h0 r cA vi vj va vb) → va_S A s.heap H locs → W p l e R s m args below meth c H locs 0 0 Q (F0 m pc ls [.long r0])) {K155 : Int32 → Int32 → Int64 → (Nat → Int32) → (Nat → Int64) → (Nat → Nat → Int32) → (Nat → Nat → Int64) → Option (Int64 × (Nat → Int32) × (Nat → Int64) × (Nat → Nat → Int32) × (Nat → Nat → Int64))} (hK155 : ∀ {x9 : Int32} {x1 : Int32} {x2 : Int64} {si : Nat → Int32} {sj : Nat → Int64} {sa : Nat → Nat → Int32} {sb : Nat → Nat → Int64}, K155 x9 x1 x2 si sj sa sb = some (r0, vi, vj, va, vb) → ∀ {H : Heap} {locs : List Loc} {ls : Array Slot}, va_P (dC, dI) classes (moW h0 r cA si sj sa sb) H → va_D A (moW h0 r cA si sj sa sb) → va_S A s.heap H locs → lv_has ls 12 [(9, .int x9), (0, .ref h0), (1, .int x1), (2, .long x2)] → W p l e R s m args below meth c H locs 0 0 Q (F0 m 155 ls [])) {x9 : Int32} {x1 : Int32} {x2 : Int64} {si : Nat → Int32} {sj : Nat → Int64} {sa : Nat → Nat → Int32} {sb : Nat → Nat → Int64} (hf : f_Mo_last_195 nf K155 x9 x1 x2 si sj sa sb = some (r0, vi, vj, va, vb)) {H : Heap} {locs : List Loc} {ls : Array Slot} (hP : va_P (dC, dI) classes (moW h0 r cA si sj sa sb) H) (hD : va_D A (moW h0 r cA si sj sa sb)) (hS : va_S A s.heap H locs) (hl : lv_has ls 12 [(9, .int x9), (0, .ref h0), (1, .int x1), (2, .long x2)]) : W p l e R s m args below meth c H locs 0 0 Q (F0 m 195 ls []) := by
  obtain ⟨hx, hb, hr, hml, hown, hts, hlocks, hRf, hRl⟩ := id C0
  unfold f_Mo_last_195 at hf
  refine lv_iinc (v := x9 + (-1)) (lv' := [(9, .int (x9 + (-1))), (0, .ref h0), (1, .int x1), (2, .long x2)]) hx hb d_Mo_last_195 hl (k := 0) rfl rfl (by decide) rfl (fun ls hl => ?_)
  refine lv_goto (tgt := 155) hx hb d_Mo_last_198 (by decide) ?_
  exact hK155 hf hP hD hS (lv_sub hl [0, 1, 2, 3] rfl)
set_option maxHeartbeats 400000 in
set_option maxRecDepth 100000 in
theorem k_Mo_last_155 (C0 : Cx p s m meth c args R b_Mo_last "ZoneFilesModel" 12 (some .long) 9 227) (hST : ST A s s.heap) (hA : ∀ q, s.heap.size ≤ q → A q) (hK : va_K (dC, dI) classes (moT cA) s) (hE : ∀ (pc : Nat) (ls : Array Slot) (H : Heap) (locs : List Loc), decode b_Mo_last pc = .ok (.lreturn, 1) → va_P (dC, dI) classes (moW h0 r cA vi vj va vb) H → va_D A (moW h0 r cA vi vj va vb) → va_S A s.heap H locs → W p l e R s m args below meth c H locs 0 0 Q (F0 m pc ls [.long r0])) : ∀ (n : Nat) {x9 : Int32} {x1 : Int32} {x2 : Int64} {si : Nat → Int32} {sj : Nat → Int64} {sa : Nat → Nat → Int32} {sb : Nat → Nat → Int64}, f_Mo_last_155 nf n x9 x1 x2 si sj sa sb = some (r0, vi, vj, va, vb) → ∀ {H : Heap} {locs : List Loc} {ls : Array Slot}, va_P (dC, dI) classes (moW h0 r cA si sj sa sb) H → va_D A (moW h0 r cA si sj sa sb) → va_S A s.heap H locs → lv_has ls 12 [(9, .int x9), (0, .ref h0), (1, .int x1), (2, .long x2)] → W p l e R s m args below meth c H locs 0 0 Q (F0 m 155 ls []) := by
  obtain ⟨hx, hb, hr, hml, hown, hts, hlocks, hRf, hRl⟩ := id C0
  intro n
  induction n with
  | zero =>
    intro x9 x1 x2 si sj sa sb hf
    exact absurd hf (by simp [f_Mo_last_155])
  | succ n ih =>
    intro x9 x1 x2 si sj sa sb hf H locs ls hP hD hS hl
    unfold f_Mo_last_155 at hf
    refine lv_iload hx hb d_Mo_last_155 (lv_at hl 0 rfl) ?_
    refine lv_if_lt (tgt := 201) hx hb d_Mo_last_157 (by decide) (fun c_10 => ?_) (fun c_10 => ?_)
    · have hf := it_t c_10 hf
      refine lv_ldc2 (v := (-9223372036854775808)) hx hb hown (hts (.constantLong "ZoneFilesModel" 370 (-9223372036854775808)) m_8_2) d_Mo_last_201 ?_
      cases rs hf
      exact hE _ _ _ _ d_Mo_last_204 hP hD hS
    · have hf := it_f c_10 hf
      refine lv_aload_n hx hb d_Mo_last_160 rfl (lv_at hl 1 rfl) ?_
      refine mg_12 hx hb hts hown hK hP d_Mo_last_161 ?_
      refine lv_sipush (v := 200) hx hb d_Mo_last_164 (by decide) ?_
      refine lv_iload_n hx hb d_Mo_last_167 rfl (lv_at hl 2 rfl) ?_
      refine lv_imul hx hb d_Mo_last_168 ?_
      refine lv_iload hx hb d_Mo_last_169 (lv_at hl 0 rfl) ?_
      refine lv_iadd hx hb d_Mo_last_171 ?_
      obtain ⟨c_11, hf⟩ := it_n hf
      refine ma_12 (v := sb 12 ((200 * x1) + x9).toNatClampNeg) hx hb hK hP c_11 rfl d_Mo_last_172 ?_
      refine lv_lstore (lv' := [(10, .long (sb 12 ((200 * x1) + x9).toNatClampNeg)), (9, .int x9), (0, .ref h0), (1, .int x1), (2, .long x2)]) hx hb d_Mo_last_173 hl (by decide) rfl (fun ls hl => ?_)
      refine lv_lload hx hb d_Mo_last_175 (lv_at hl 0 rfl) ?_
      refine lv_lload_n hx hb d_Mo_last_177 rfl (lv_at hl 4 rfl) ?_
      refine lc_ge (tgt := 195) hx hb d_Mo_last_178 d_Mo_last_179 (by decide) (fun c_12 => ?_) (fun c_12 => ?_)
      · have hf := it_t c_12 hf
        exact k_Mo_last_195 C0 hST hA hK hE (fun hf => ih hf) hf hP hD hS (lv_sub hl [1, 2, 3, 4] rfl)
      · have hf := it_f c_12 hf
        refine lv_aload_n hx hb d_Mo_last_182 rfl (lv_at hl 2 rfl) ?_
        refine lv_iload_n hx hb d_Mo_last_183 rfl (lv_at hl 3 rfl) ?_
        refine lv_lload hx hb d_Mo_last_184 (lv_at hl 0 rfl) ?_
        obtain ⟨⟨z_17, i_13, j_14, a_15, b_16⟩, hc, hf⟩ := ob hf
        have hFc := mo_free hD hS hA
        refine cl_M (v := (some (.int z_17))) (st1 := [.int z_17]) (va_runV (As := [.int x1, .long (sb 12 ((200 * x1) + x9).toNatClampNeg)]) (rest := []) ⟨hx, hb, hml, hown, hts⟩ (c_Mo_isStep l dC dI h0 r cA H.size nf x1 (sb 12 ((200 * x1) + x9).toNatClampNeg) si sj sa sb hc) (cwV 2 hts (gdV m_8_74 m_8_76 msel_86 m_1_10 m_8_77) rfl rfl rfl (by decide +kernel) ⟨Nat.le_trans (Nat.le_of_ble_eq_true rfl) hRf, Nat.le_trans (Nat.le_of_ble_eq_true rfl) hRl⟩) ((MU.pre hP hK hD (hST.mu hS hFc)).vir (va_recv hK hP (ci := 10) (q0 := 0) rfl rfl)) rfl rfl hl.1 rfl (lv_room (Nat.le_of_ble_eq_true rfl)) d_Mo_last_186 ⟨Nat.zero_le _, Nat.zero_le _⟩) rfl hS (fun q _ h => hFc q h) hFc (fun t H1 locs ht hvm hB hz1 hk1 hS => ?_)
        obtain ⟨hP, hD⟩ := mo_back ht hD hB
        generalize H1 = H at hP hS ⊢
        refine lv_if_eq (tgt := 195) hx hb d_Mo_last_189 (by decide) (fun c_18 => ?_) (fun c_18 => ?_)
        · have hf := it_t c_18 hf
          exact k_Mo_last_195 C0 hST hA hK hE (fun hf => ih hf) hf hP hD hS (lv_sub hl [1, 2, 3, 4] rfl)
        · have hf := it_f c_18 hf
          refine lv_lload hx hb d_Mo_last_192 (lv_at hl 0 rfl) ?_
          cases rs hf
          exact hE _ _ _ _ d_Mo_last_194 hP hD hS
set_option maxHeartbeats 400000 in
set_option maxRecDepth 100000 in
theorem k_Mo_last_149 (C0 : Cx p s m meth c args R b_Mo_last "ZoneFilesModel" 12 (some .long) 9 227) (hST : ST A s s.heap) (hA : ∀ q, s.heap.size ≤ q → A q) (hK : va_K (dC, dI) classes (moT cA) s) (hE : ∀ (pc : Nat) (ls : Array Slot) (H : Heap) (locs : List Loc), decode b_Mo_last pc = .ok (.lreturn, 1) → va_P (dC, dI) classes (moW h0 r cA vi vj va vb) H → va_D A (moW h0 r cA vi vj va vb) → va_S A s.heap H locs → W p l e R s m args below meth c H locs 0 0 Q (F0 m pc ls [.long r0])) {x4 : Int32} {x1 : Int32} {x2 : Int64} {si : Nat → Int32} {sj : Nat → Int64} {sa : Nat → Nat → Int32} {sb : Nat → Nat → Int64} (hf : f_Mo_last_149 nf x4 x1 x2 si sj sa sb = some (r0, vi, vj, va, vb)) {H : Heap} {locs : List Loc} {ls : Array Slot} (hP : va_P (dC, dI) classes (moW h0 r cA si sj sa sb) H) (hD : va_D A (moW h0 r cA si sj sa sb)) (hS : va_S A s.heap H locs) (hl : lv_has ls 12 [(4, .int x4), (0, .ref h0), (1, .int x1), (2, .long x2)]) : W p l e R s m args below meth c H locs 0 0 Q (F0 m 149 ls []) := by
  obtain ⟨hx, hb, hr, hml, hown, hts, hlocks, hRf, hRl⟩ := id C0
  unfold f_Mo_last_149 at hf
  refine lv_iload hx hb d_Mo_last_149 (lv_at hl 0 rfl) ?_
  refine lv_iconst (v := 1) hx hb d_Mo_last_151 (by decide) ?_
  refine lv_isub hx hb d_Mo_last_152 ?_
  refine lv_istore (lv' := [(9, .int (x4 - 1)), (4, .int x4), (0, .ref h0), (1, .int x1), (2, .long x2)]) hx hb d_Mo_last_153 hl (by decide) rfl (fun ls hl => ?_)
  exact k_Mo_last_155 C0 hST hA hK hE nf hf hP hD hS (lv_sub hl [0, 2, 3, 4] rfl)
set_option maxHeartbeats 400000 in
set_option maxRecDepth 100000 in
theorem k_Mo_last_143 (C0 : Cx p s m meth c args R b_Mo_last "ZoneFilesModel" 12 (some .long) 9 227) (hST : ST A s s.heap) (hA : ∀ q, s.heap.size ≤ q → A q) (hK : va_K (dC, dI) classes (moT cA) s) (hE : ∀ (pc : Nat) (ls : Array Slot) (H : Heap) (locs : List Loc), decode b_Mo_last pc = .ok (.lreturn, 1) → va_P (dC, dI) classes (moW h0 r cA vi vj va vb) H → va_D A (moW h0 r cA vi vj va vb) → va_S A s.heap H locs → W p l e R s m args below meth c H locs 0 0 Q (F0 m pc ls [.long r0])) {K79 : Int32 → Int64 → Int64 → Int32 → Int32 → Int64 → (Nat → Int32) → (Nat → Int64) → (Nat → Nat → Int32) → (Nat → Nat → Int64) → Option (Int64 × (Nat → Int32) × (Nat → Int64) × (Nat → Nat → Int32) × (Nat → Nat → Int64))} (hK79 : ∀ {x9 : Int32} {x7 : Int64} {x5 : Int64} {x4 : Int32} {x1 : Int32} {x2 : Int64} {si : Nat → Int32} {sj : Nat → Int64} {sa : Nat → Nat → Int32} {sb : Nat → Nat → Int64}, K79 x9 x7 x5 x4 x1 x2 si sj sa sb = some (r0, vi, vj, va, vb) → ∀ {H : Heap} {locs : List Loc} {ls : Array Slot}, va_P (dC, dI) classes (moW h0 r cA si sj sa sb) H → va_D A (moW h0 r cA si sj sa sb) → va_S A s.heap H locs → lv_has ls 12 [(9, .int x9), (7, .long x7), (5, .long x5), (4, .int x4), (0, .ref h0), (1, .int x1), (2, .long x2)] → W p l e R s m args below meth c H locs 0 0 Q (F0 m 79 ls [])) {x7 : Int64} {x9 : Int32} {x5 : Int64} {x4 : Int32} {x1 : Int32} {x2 : Int64} {si : Nat → Int32} {sj : Nat → Int64} {sa : Nat → Nat → Int32} {sb : Nat → Nat → Int64} (hf : f_Mo_last_143 nf K79 x7 x9 x5 x4 x1 x2 si sj sa sb = some (r0, vi, vj, va, vb)) {H : Heap} {locs : List Loc} {ls : Array Slot} (hP : va_P (dC, dI) classes (moW h0 r cA si sj sa sb) H) (hD : va_D A (moW h0 r cA si sj sa sb)) (hS : va_S A s.heap H locs) (hl : lv_has ls 12 [(7, .long x7), (9, .int x9), (5, .long x5), (4, .int x4), (0, .ref h0), (1, .int x1), (2, .long x2)]) : W p l e R s m args below meth c H locs 0 0 Q (F0 m 143 ls []) := by
  obtain ⟨hx, hb, hr, hml, hown, hts, hlocks, hRf, hRl⟩ := id C0
  unfold f_Mo_last_143 at hf
  refine lv_iinc (v := x9 + 1) (lv' := [(9, .int (x9 + 1)), (7, .long x7), (5, .long x5), (4, .int x4), (0, .ref h0), (1, .int x1), (2, .long x2)]) hx hb d_Mo_last_143 hl (k := 1) rfl rfl (by decide) rfl (fun ls hl => ?_)
  refine lv_goto (tgt := 79) hx hb d_Mo_last_146 (by decide) ?_
  exact hK79 hf hP hD hS (lv_sub hl [0, 1, 2, 3, 4, 5, 6] rfl)
set_option maxHeartbeats 400000 in
set_option maxRecDepth 100000 in
theorem k_Mo_last_79 (C0 : Cx p s m meth c args R b_Mo_last "ZoneFilesModel" 12 (some .long) 9 227) (hST : ST A s s.heap) (hA : ∀ q, s.heap.size ≤ q → A q) (hK : va_K (dC, dI) classes (moT cA) s) (hE : ∀ (pc : Nat) (ls : Array Slot) (H : Heap) (locs : List Loc), decode b_Mo_last pc = .ok (.lreturn, 1) → va_P (dC, dI) classes (moW h0 r cA vi vj va vb) H → va_D A (moW h0 r cA vi vj va vb) → va_S A s.heap H locs → W p l e R s m args below meth c H locs 0 0 Q (F0 m pc ls [.long r0])) : ∀ (n : Nat) {x9 : Int32} {x7 : Int64} {x5 : Int64} {x4 : Int32} {x1 : Int32} {x2 : Int64} {si : Nat → Int32} {sj : Nat → Int64} {sa : Nat → Nat → Int32} {sb : Nat → Nat → Int64}, f_Mo_last_79 nf n x9 x7 x5 x4 x1 x2 si sj sa sb = some (r0, vi, vj, va, vb) → ∀ {H : Heap} {locs : List Loc} {ls : Array Slot}, va_P (dC, dI) classes (moW h0 r cA si sj sa sb) H → va_D A (moW h0 r cA si sj sa sb) → va_S A s.heap H locs → lv_has ls 12 [(9, .int x9), (7, .long x7), (5, .long x5), (4, .int x4), (0, .ref h0), (1, .int x1), (2, .long x2)] → W p l e R s m args below meth c H locs 0 0 Q (F0 m 79 ls []) := by
  obtain ⟨hx, hb, hr, hml, hown, hts, hlocks, hRf, hRl⟩ := id C0
  intro n
  induction n with
  | zero =>
    intro x9 x7 x5 x4 x1 x2 si sj sa sb hf
    exact absurd hf (by simp [f_Mo_last_79])
  | succ n ih =>
    intro x9 x7 x5 x4 x1 x2 si sj sa sb hf H locs ls hP hD hS hl
    unfold f_Mo_last_79 at hf
    refine lv_iload hx hb d_Mo_last_79 (lv_at hl 0 rfl) ?_
    refine lv_sipush (v := 820) hx hb d_Mo_last_81 (by decide) ?_
    refine lv_icmp_ge (tgt := 149) hx hb d_Mo_last_84 (by decide) (fun c_9 => ?_) (fun c_9 => ?_)
    · have hf := it_t c_9 hf
      exact k_Mo_last_149 C0 hST hA hK hE hf hP hD hS (lv_sub hl [3, 4, 5, 6] rfl)
    · have hf := it_f c_9 hf
      refine lv_aload_n hx hb d_Mo_last_87 rfl (lv_at hl 4 rfl) ?_
      refine mg_23 hx hb hts hown hK hP d_Mo_last_88 ?_
      refine lv_iload_n hx hb d_Mo_last_91 rfl (lv_at hl 5 rfl) ?_
      obtain ⟨c_19, hf⟩ := it_n hf
      refine ma_23 (v := sa 23 x1.toNatClampNeg) hx hb hK hP c_19 rfl d_Mo_last_92 ?_
      refine lv_iconst (v := 2) hx hb d_Mo_last_93 (by decide) ?_
      refine lv_icmp_ne (tgt := 149) hx hb d_Mo_last_94 (by decide) (fun c_20 => ?_) (fun c_20 => ?_)
      · have hf := it_f c_20 hf
        exact k_Mo_last_149 C0 hST hA hK hE hf hP hD hS (lv_sub hl [3, 4, 5, 6] rfl)
      · have hf := it_t c_20 hf
        refine lv_lload hx hb d_Mo_last_97 (lv_at hl 1 rfl) ?_
        obtain ⟨r_21, hc, hf⟩ := ob hf
        refine cl_S (v := (some (.int r_21))) (st1 := [.int r_21]) (va_runS (As := [.long x7]) (rest := []) ⟨hx, hb, hml, hown, hts⟩ (c_Mo_isInstant l dC dI nf x7 hc) (va_cwS 1 hts (gdS m_7_159 m_7_160 m_1_10 m_7_161) rfl rfl rfl (by decide +kernel) ⟨Nat.le_trans (Nat.le_of_ble_eq_true rfl) hRf, Nat.le_trans (Nat.le_of_ble_eq_true rfl) hRl⟩) (RO.pre0 hK (hST.ro hS)).sta rfl rfl hl.1 rfl (lv_room (Nat.le_of_ble_eq_true rfl)) d_Mo_last_99 ⟨Nat.zero_le _, Nat.zero_le _⟩) rfl ?_
        refine lv_if_eq (tgt := 149) hx hb d_Mo_last_102 (by decide) (fun c_22 => ?_) (fun c_22 => ?_)
        · have hf := it_t c_22 hf
          exact k_Mo_last_149 C0 hST hA hK hE hf hP hD hS (lv_sub hl [3, 4, 5, 6] rfl)
        · have hf := it_f c_22 hf
          refine lv_lload hx hb d_Mo_last_105 (lv_at hl 1 rfl) ?_
          refine lv_lload hx hb d_Mo_last_107 (lv_at hl 2 rfl) ?_
          refine lc_le (tgt := 149) hx hb d_Mo_last_109 d_Mo_last_110 (by decide) (fun c_23 => ?_) (fun c_23 => ?_)
          · have hf := it_t c_23 hf
            exact k_Mo_last_149 C0 hST hA hK hE hf hP hD hS (lv_sub hl [3, 4, 5, 6] rfl)
          · have hf := it_f c_23 hf
            refine lv_aload_n hx hb d_Mo_last_113 rfl (lv_at hl 4 rfl) ?_
            refine lv_iload_n hx hb d_Mo_last_114 rfl (lv_at hl 5 rfl) ?_
            refine lv_lload hx hb d_Mo_last_115 (lv_at hl 1 rfl) ?_
            obtain ⟨⟨z_28, i_24, j_25, a_26, b_27⟩, hc, hf⟩ := ob hf
            have hFc := mo_free hD hS hA
            refine cl_M (v := (some (.long z_28))) (st1 := [.long z_28]) (va_runV (As := [.int x1, .long x7]) (rest := []) ⟨hx, hb, hml, hown, hts⟩ (c_Mo_eventBelow l dC dI h0 r cA H.size nf x1 x7 si sj sa sb hc) (cwV 2 hts (gdV m_8_88 m_8_90 msel_88 m_1_10 m_8_91) rfl rfl rfl (by decide +kernel) ⟨Nat.le_trans (Nat.le_of_ble_eq_true rfl) hRf, Nat.le_trans (Nat.le_of_ble_eq_true rfl) hRl⟩) ((MU.pre hP hK hD (hST.mu hS hFc)).vir (va_recv hK hP (ci := 10) (q0 := 0) rfl rfl)) rfl rfl hl.1 rfl (lv_room (Nat.le_of_ble_eq_true rfl)) d_Mo_last_117 ⟨Nat.zero_le _, Nat.zero_le _⟩) rfl hS (fun q _ h => hFc q h) hFc (fun t H1 locs ht hvm hB hz1 hk1 hS => ?_)
            obtain ⟨hP, hD⟩ := mo_back ht hD hB
            generalize H1 = H at hP hS ⊢
            refine lv_lstore (lv' := [(7, .long z_28), (9, .int x9), (5, .long x5), (4, .int x4), (0, .ref h0), (1, .int x1), (2, .long x2)]) hx hb d_Mo_last_120 hl (by decide) rfl (fun ls hl => ?_)
            refine lv_lload hx hb d_Mo_last_122 (lv_at hl 0 rfl) ?_
            refine lv_lload hx hb d_Mo_last_124 (lv_at hl 2 rfl) ?_
            refine lc_le (tgt := 143) hx hb d_Mo_last_126 d_Mo_last_127 (by decide) (fun c_29 => ?_) (fun c_29 => ?_)
            · have hf := it_t c_29 hf
              exact k_Mo_last_143 C0 hST hA hK hE (fun hf => ih hf) hf hP hD hS (lv_sub hl [0, 1, 2, 3, 4, 5, 6] rfl)
            · have hf := it_f c_29 hf
              refine lv_aload_n hx hb d_Mo_last_130 rfl (lv_at hl 4 rfl) ?_
              refine lv_iload_n hx hb d_Mo_last_131 rfl (lv_at hl 5 rfl) ?_
              refine lv_lload hx hb d_Mo_last_132 (lv_at hl 0 rfl) ?_
              obtain ⟨⟨z_34, i_30, j_31, a_32, b_33⟩, hc, hf⟩ := ob hf
              have hFc := mo_free hD hS hA
              refine cl_M (v := (some (.int z_34))) (st1 := [.int z_34]) (va_runV (As := [.int x1, .long z_28]) (rest := []) ⟨hx, hb, hml, hown, hts⟩ (c_Mo_isStep l dC dI h0 r cA H.size nf x1 z_28 i_24 j_25 a_26 b_27 hc) (cwV 2 hts (gdV m_8_74 m_8_76 msel_86 m_1_10 m_8_77) rfl rfl rfl (by decide +kernel) ⟨Nat.le_trans (Nat.le_of_ble_eq_true rfl) hRf, Nat.le_trans (Nat.le_of_ble_eq_true rfl) hRl⟩) ((MU.pre hP hK hD (hST.mu hS hFc)).vir (va_recv hK hP (ci := 10) (q0 := 0) rfl rfl)) rfl rfl hl.1 rfl (lv_room (Nat.le_of_ble_eq_true rfl)) d_Mo_last_134 ⟨Nat.zero_le _, Nat.zero_le _⟩) rfl hS (fun q _ h => hFc q h) hFc (fun t H1 locs ht hvm hB hz1 hk1 hS => ?_)
              obtain ⟨hP, hD⟩ := mo_back ht hD hB
              generalize H1 = H at hP hS ⊢
              refine lv_if_eq (tgt := 143) hx hb d_Mo_last_137 (by decide) (fun c_35 => ?_) (fun c_35 => ?_)
              · have hf := it_t c_35 hf
                exact k_Mo_last_143 C0 hST hA hK hE (fun hf => ih hf) hf hP hD hS (lv_sub hl [0, 1, 2, 3, 4, 5, 6] rfl)
              · have hf := it_f c_35 hf
                refine lv_lload hx hb d_Mo_last_140 (lv_at hl 0 rfl) ?_
                cases rs hf
                exact hE _ _ _ _ d_Mo_last_142 hP hD hS
set_option maxHeartbeats 400000 in
set_option maxRecDepth 100000 in
theorem k_Mo_last_71 (C0 : Cx p s m meth c args R b_Mo_last "ZoneFilesModel" 12 (some .long) 9 227) (hST : ST A s s.heap) (hA : ∀ q, s.heap.size ≤ q → A q) (hK : va_K (dC, dI) classes (moT cA) s) (hE : ∀ (pc : Nat) (ls : Array Slot) (H : Heap) (locs : List Loc), decode b_Mo_last pc = .ok (.lreturn, 1) → va_P (dC, dI) classes (moW h0 r cA vi vj va vb) H → va_D A (moW h0 r cA vi vj va vb) → va_S A s.heap H locs → W p l e R s m args below meth c H locs 0 0 Q (F0 m pc ls [.long r0])) {x4 : Int32} {x1 : Int32} {x2 : Int64} {s0 : Int64} {si : Nat → Int32} {sj : Nat → Int64} {sa : Nat → Nat → Int32} {sb : Nat → Nat → Int64} (hf : f_Mo_last_71 nf x4 x1 x2 s0 si sj sa sb = some (r0, vi, vj, va, vb)) {H : Heap} {locs : List Loc} {ls : Array Slot} (hP : va_P (dC, dI) classes (moW h0 r cA si sj sa sb) H) (hD : va_D A (moW h0 r cA si sj sa sb)) (hS : va_S A s.heap H locs) (hl : lv_has ls 12 [(4, .int x4), (0, .ref h0), (1, .int x1), (2, .long x2)]) : W p l e R s m args below meth c H locs 0 0 Q (F0 m 71 ls [.long s0]) := by
  obtain ⟨hx, hb, hr, hml, hown, hts, hlocks, hRf, hRl⟩ := id C0
  unfold f_Mo_last_71 at hf
  refine lv_lstore (lv' := [(5, .long s0), (4, .int x4), (0, .ref h0), (1, .int x1), (2, .long x2)]) hx hb d_Mo_last_71 hl (by decide) rfl (fun ls hl => ?_)
  refine lv_lload_n hx hb d_Mo_last_73 rfl (lv_at hl 4 rfl) ?_
  refine lv_lstore (lv' := [(7, .long x2), (5, .long s0), (4, .int x4), (0, .ref h0), (1, .int x1), (2, .long x2)]) hx hb d_Mo_last_74 hl (by decide) rfl (fun ls hl => ?_)
  refine lv_iconst (v := 0) hx hb d_Mo_last_76 (by decide) ?_
  refine lv_istore (lv' := [(9, .int 0), (7, .long x2), (5, .long s0), (4, .int x4), (0, .ref h0), (1, .int x1), (2, .long x2)]) hx hb d_Mo_last_77 hl (by decide) rfl (fun ls hl => ?_)
  exact k_Mo_last_79 C0 hST hA hK hE nf hf hP hD hS (lv_sub hl [0, 1, 2, 3, 4, 5, 6] rfl)
set_option maxHeartbeats 400000 in
set_option maxRecDepth 100000 in
theorem k_Mo_last_25 (C0 : Cx p s m meth c args R b_Mo_last "ZoneFilesModel" 12 (some .long) 9 227) (hST : ST A s s.heap) (hA : ∀ q, s.heap.size ≤ q → A q) (hK : va_K (dC, dI) classes (moT cA) s) (hE : ∀ (pc : Nat) (ls : Array Slot) (H : Heap) (locs : List Loc), decode b_Mo_last pc = .ok (.lreturn, 1) → va_P (dC, dI) classes (moW h0 r cA vi vj va vb) H → va_D A (moW h0 r cA vi vj va vb) → va_S A s.heap H locs → W p l e R s m args below meth c H locs 0 0 Q (F0 m pc ls [.long r0])) {x1 : Int32} {x2 : Int64} {s0 : Int32} {si : Nat → Int32} {sj : Nat → Int64} {sa : Nat → Nat → Int32} {sb : Nat → Nat → Int64} (hf : f_Mo_last_25 nf x1 x2 s0 si sj sa sb = some (r0, vi, vj, va, vb)) {H : Heap} {locs : List Loc} {ls : Array Slot} (hP : va_P (dC, dI) classes (moW h0 r cA si sj sa sb) H) (hD : va_D A (moW h0 r cA si sj sa sb)) (hS : va_S A s.heap H locs) (hl : lv_has ls 12 [(0, .ref h0), (1, .int x1), (2, .long x2)]) : W p l e R s m args below meth c H locs 0 0 Q (F0 m 25 ls [.int s0, .ref h0]) := by
  obtain ⟨hx, hb, hr, hml, hown, hts, hlocks, hRf, hRl⟩ := id C0
  unfold f_Mo_last_25 at hf
  refine mp_3 hx hb hts hown hK hP hD hS d_Mo_last_25 (fun H locs hP hD hS => ?_)
  refine lv_aload_n hx hb d_Mo_last_28 rfl (lv_at hl 0 rfl) ?_
  refine mg_3 (v := s0) hx hb hts hown hK hP rfl d_Mo_last_29 ?_
  refine lv_if_le (tgt := 37) hx hb d_Mo_last_32 (by decide) (fun c_5 => ?_) (fun c_5 => ?_)
  · have hf := it_t c_5 hf
    refine lv_aload_n hx hb d_Mo_last_37 rfl (lv_at hl 0 rfl) ?_
    refine mg_5 hx hb hts hown hK hP d_Mo_last_38 ?_
    refine lv_iload_n hx hb d_Mo_last_41 rfl (lv_at hl 1 rfl) ?_
    obtain ⟨c_6, hf⟩ := it_n hf
    refine ma_5 (v := sa 5 x1.toNatClampNeg) hx hb hK hP c_6 rfl d_Mo_last_42 ?_
    refine lv_istore (lv' := [(4, .int (sa 5 x1.toNatClampNeg)), (0, .ref h0), (1, .int x1), (2, .long x2)]) hx hb d_Mo_last_43 hl (by decide) rfl (fun ls hl => ?_)
    refine lv_iload hx hb d_Mo_last_45 (lv_at hl 0 rfl) ?_
    refine lv_if_ne (tgt := 56) hx hb d_Mo_last_47 (by decide) (fun c_7 => ?_) (fun c_7 => ?_)
    · have hf := it_f c_7 hf
      refine lv_aload_n hx hb d_Mo_last_56 rfl (lv_at hl 1 rfl) ?_
      refine mg_12 hx hb hts hown hK hP d_Mo_last_57 ?_
      refine lv_sipush (v := 200) hx hb d_Mo_last_60 (by decide) ?_
      refine lv_iload_n hx hb d_Mo_last_63 rfl (lv_at hl 2 rfl) ?_
      refine lv_imul hx hb d_Mo_last_64 ?_
      refine lv_iload hx hb d_Mo_last_65 (lv_at hl 0 rfl) ?_
      refine lv_iadd hx hb d_Mo_last_67 ?_
      refine lv_iconst (v := 1) hx hb d_Mo_last_68 (by decide) ?_
      refine lv_isub hx hb d_Mo_last_69 ?_
      obtain ⟨c_8, hf⟩ := it_n hf
      refine ma_12 (v := sb 12 (((200 * x1) + (sa 5 x1.toNatClampNeg)) - 1).toNatClampNeg) hx hb hK hP c_8 rfl d_Mo_last_70 ?_
      exact k_Mo_last_71 C0 hST hA hK hE hf hP hD hS (lv_sub hl [0, 1, 2, 3] rfl)
    · have hf := it_t c_7 hf
      refine lv_ldc2 (v := (-9223372036854775808)) hx hb hown (hts (.constantLong "ZoneFilesModel" 370 (-9223372036854775808)) m_8_2) d_Mo_last_50 ?_
      refine lv_goto (tgt := 71) hx hb d_Mo_last_53 (by decide) ?_
      exact k_Mo_last_71 C0 hST hA hK hE hf hP hD hS (lv_sub hl [0, 1, 2, 3] rfl)
  · have hf := it_f c_5 hf
    refine lv_lconst (v := 0) hx hb d_Mo_last_35 (by decide) ?_
    cases rs hf
    exact hE _ _ _ _ d_Mo_last_36 hP hD hS
set_option maxHeartbeats 400000 in
set_option maxRecDepth 100000 in
theorem k_Mo_last_0 (C0 : Cx p s m meth c args R b_Mo_last "ZoneFilesModel" 12 (some .long) 9 227) (hST : ST A s s.heap) (hA : ∀ q, s.heap.size ≤ q → A q) (hK : va_K (dC, dI) classes (moT cA) s) (hE : ∀ (pc : Nat) (ls : Array Slot) (H : Heap) (locs : List Loc), decode b_Mo_last pc = .ok (.lreturn, 1) → va_P (dC, dI) classes (moW h0 r cA vi vj va vb) H → va_D A (moW h0 r cA vi vj va vb) → va_S A s.heap H locs → W p l e R s m args below meth c H locs 0 0 Q (F0 m pc ls [.long r0])) {x1 : Int32} {x2 : Int64} {si : Nat → Int32} {sj : Nat → Int64} {sa : Nat → Nat → Int32} {sb : Nat → Nat → Int64} (hf : f_Mo_last_0 nf x1 x2 si sj sa sb = some (r0, vi, vj, va, vb)) {H : Heap} {locs : List Loc} {ls : Array Slot} (hP : va_P (dC, dI) classes (moW h0 r cA si sj sa sb) H) (hD : va_D A (moW h0 r cA si sj sa sb)) (hS : va_S A s.heap H locs) (hl : lv_has ls 12 [(0, .ref h0), (1, .int x1), (2, .long x2)]) : W p l e R s m args below meth c H locs 0 0 Q (F0 m 0 ls []) := by
  obtain ⟨hx, hb, hr, hml, hown, hts, hlocks, hRf, hRl⟩ := id C0
  unfold f_Mo_last_0 at hf
  refine lv_aload_n hx hb d_Mo_last_0 rfl (lv_at hl 0 rfl) ?_
  refine lv_aload_n hx hb d_Mo_last_1 rfl (lv_at hl 0 rfl) ?_
  refine lv_iload_n hx hb d_Mo_last_2 rfl (lv_at hl 1 rfl) ?_
  obtain ⟨r_1, hc, hf⟩ := ob hf
  refine cl_S (v := (some (.int r_1))) (st1 := [.int r_1, .ref h0]) (va_runV (As := [.int x1]) (rest := [.ref h0]) ⟨hx, hb, hml, hown, hts⟩ (c_Mo_noZone l dC dI h0 r cA nf x1 si sj sa sb hc) (cwV 1 hts (gdV m_8_45 m_8_47 msel_83 m_1_10 m_8_48) rfl rfl rfl (by decide +kernel) ⟨Nat.le_trans (Nat.le_of_ble_eq_true rfl) hRf, Nat.le_trans (Nat.le_of_ble_eq_true rfl) hRl⟩) ((RO.pre hP hK (hST.ro hS)).vir (va_recv hK hP (ci := 10) (q0 := 0) rfl rfl)) rfl rfl hl.1 rfl (lv_room (Nat.le_of_ble_eq_true rfl)) d_Mo_last_3 ⟨Nat.zero_le _, Nat.zero_le _⟩) rfl ?_
  refine lv_if_eq (tgt := 13) hx hb d_Mo_last_6 (by decide) (fun c_2 => ?_) (fun c_2 => ?_)
  · have hf := it_t c_2 hf
    refine lv_lload_n hx hb d_Mo_last_13 rfl (lv_at hl 2 rfl) ?_
    obtain ⟨r_3, hc, hf⟩ := ob hf
    refine cl_S (v := (some (.int r_3))) (st1 := [.int r_3, .ref h0]) (va_runS (As := [.long x2]) (rest := [.ref h0]) ⟨hx, hb, hml, hown, hts⟩ (c_Mo_isInstant l dC dI nf x2 hc) (va_cwS 1 hts (gdS m_7_159 m_7_160 m_1_10 m_7_161) rfl rfl rfl (by decide +kernel) ⟨Nat.le_trans (Nat.le_of_ble_eq_true rfl) hRf, Nat.le_trans (Nat.le_of_ble_eq_true rfl) hRl⟩) (RO.pre0 hK (hST.ro hS)).sta rfl rfl hl.1 rfl (lv_room (Nat.le_of_ble_eq_true rfl)) d_Mo_last_14 ⟨Nat.zero_le _, Nat.zero_le _⟩) rfl ?_
    refine lv_if_ne (tgt := 24) hx hb d_Mo_last_17 (by decide) (fun c_4 => ?_) (fun c_4 => ?_)
    · have hf := it_f c_4 hf
      refine lv_iconst (v := 0) hx hb d_Mo_last_24 (by decide) ?_
      exact k_Mo_last_25 C0 hST hA hK hE hf hP hD hS (lv_sub hl [0, 1, 2] rfl)
    · have hf := it_t c_4 hf
      refine lv_iconst (v := 2) hx hb d_Mo_last_20 (by decide) ?_
      refine lv_goto (tgt := 25) hx hb d_Mo_last_21 (by decide) ?_
      exact k_Mo_last_25 C0 hST hA hK hE hf hP hD hS (lv_sub hl [0, 1, 2] rfl)
  · have hf := it_f c_2 hf
    refine lv_iconst (v := 1) hx hb d_Mo_last_9 (by decide) ?_
    refine lv_goto (tgt := 25) hx hb d_Mo_last_10 (by decide) ?_
    exact k_Mo_last_25 C0 hST hA hK hE hf hP hD hS (lv_sub hl [0, 1, 2] rfl)
end
set_option maxHeartbeats 400000 in
set_option maxRecDepth 100000 in
theorem c_Mo_last (l : Launch) (dC : Nat → ClassId) (dI : Nat → Nat → Nat) (h0 : Nat) (r : Nat → Nat) (cA : Nat → ClassId) (sz : Nat) (nf : Nat) (p0 : Int32) (p1 : Int64) (si : Nat → Int32) (sj : Nat → Int64) (sa : Nat → Nat → Int32) (sb : Nat → Nat → Int64) {r0 : Int64} {vi : Nat → Int32} {vj : Nat → Int64} {va : Nat → Nat → Int32} {vb : Nat → Nat → Int64} (hf : f_Mo_last nf p0 p1 si sj sa sb = some (r0, vi, vj, va, vb)) : Met l y_Mo_last (wd y_Mo_last b_Mo_last 12 (some .long)) ({ frames := 9, cells := 0, slots := 0, locals := 227 }) (MU dC dI (moW h0 r cA si sj sa sb) (moT cA) sz [.ref h0, .int p0, .long p1]) (MV (some (.long r0)) (fun t => va_P (dC, dI) classes (moW h0 r cA vi vj va vb) t.heap) (va_A (moW h0 r cA si sj sa sb) sz)) 0 0 (va_A (moW h0 r cA si sj sa sb) sz) :=
  met_M (plainFor_of_name (by decide)) (Nat.le_of_ble_eq_true rfl) (fun p e R s m args below meth c ls hRc hRs hsz hin C0 hST hK hP hD hl => by
    obtain ⟨hx, hb, hr, hml, hown, hts, hlocks, hRf, hRl⟩ := id C0
    subst hsz
    have hA : ∀ q : Nat, s.heap.size ≤ q → va_A (moW h0 r cA si sj sa sb) s.heap.size q := fun q h => Or.inr h
    have hS : va_S (va_A (moW h0 r cA si sj sa sb) s.heap.size) s.heap s.heap [] := va_S.rf
    unfold f_Mo_last at hf
    exact k_Mo_last_0 C0 hST hA hK (fun pc ls H locs hd hP hD hS => W.lret hx hb hr (fun t ht hW => ⟨⟨rfl, mo_end ht hP⟩, hS.F ht⟩) hS.2.2 hd) hf hP hD hS (lv_sub hl [0, 1, 2] rfl))
-- ZoneFilesModel.typeLike(I)I
def f_Mo_typeLike_126 (nf : Nat) (K4 : Int32 → Int32 → Int32 → (Nat → Int32) → (Nat → Int64) → (Nat → Nat → Int32) → (Nat → Nat → Int64) → Option (Int32 × (Nat → Int32) × (Nat → Int64) × (Nat → Nat → Int32) × (Nat → Nat → Int64))) (x4 : Int32) (x3 : Int32) (x2 : Int32) (x1 : Int32) (si : Nat → Int32) (sj : Nat → Int64) (sa : Nat → Nat → Int32) (sb : Nat → Nat → Int64) : Option (Int32 × (Nat → Int32) × (Nat → Int64) × (Nat → Nat → Int32) × (Nat → Nat → Int64)) :=
  if x4 = 0 then
  K4 (x3 + 1) x2 x1 si sj sa sb
  else
  some (x3, si, sj, sa, sb)
def f_Mo_typeLike_118 (nf : Nat) (K4 : Int32 → Int32 → Int32 → (Nat → Int32) → (Nat → Int64) → (Nat → Nat → Int32) → (Nat → Nat → Int64) → Option (Int32 × (Nat → Int32) × (Nat → Int64) × (Nat → Nat → Int32) × (Nat → Nat → Int64))) (K72 : Int32 → Int32 → Int32 → Int32 → Int32 → (Nat → Int32) → (Nat → Int64) → (Nat → Nat → Int32) → (Nat → Nat → Int64) → Option (Int32 × (Nat → Int32) × (Nat → Int64) × (Nat → Nat → Int32) × (Nat → Nat → Int64))) (x5 : Int32) (x3 : Int32) (x2 : Int32) (x1 : Int32) (s0 : Int32) (si : Nat → Int32) (sj : Nat → Int64) (sa : Nat → Nat → Int32) (sb : Nat → Nat → Int64) : Option (Int32 × (Nat → Int32) × (Nat → Int64) × (Nat → Nat → Int32) × (Nat → Nat → Int64)) :=
  K72 (x5 + 1) s0 x3 x2 x1 si sj sa sb
def f_Mo_typeLike_72 (nf : Nat) (K4 : Int32 → Int32 → Int32 → (Nat → Int32) → (Nat → Int64) → (Nat → Nat → Int32) → (Nat → Nat → Int64) → Option (Int32 × (Nat → Int32) × (Nat → Int64) × (Nat → Nat → Int32) × (Nat → Nat → Int64))) : Nat → Int32 → Int32 → Int32 → Int32 → Int32 → (Nat → Int32) → (Nat → Int64) → (Nat → Nat → Int32) → (Nat → Nat → Int64) → Option (Int32 × (Nat → Int32) × (Nat → Int64) × (Nat → Nat → Int32) × (Nat → Nat → Int64))
  | 0, _, _, _, _, _, _, _, _, _ => none
  | n + 1, x5, x4, x3, x2, x1, si, sj, sa, sb =>
    if (si 47) ≤ x5 then
    f_Mo_typeLike_126 nf K4 x4 x3 x2 x1 si sj sa sb
    else
    if x4 = 0 then
      f_Mo_typeLike_126 nf K4 x4 x3 x2 x1 si sj sa sb
      else
      if x5 < 0 ∨ 10 ≤ x5.toNatClampNeg then none else
        if (((20 * x2) + (10 * x1)) + x5) < 0 ∨ 100 ≤ (((20 * x2) + (10 * x1)) + x5).toNatClampNeg then none else
        if (sa 48 x5.toNatClampNeg) = (sa 26 (((20 * x2) + (10 * x1)) + x5).toNatClampNeg) then
        f_Mo_typeLike_118 nf K4 (f_Mo_typeLike_72 nf K4 n) x5 x3 x2 x1 1 si sj sa sb
        else
        f_Mo_typeLike_118 nf K4 (f_Mo_typeLike_72 nf K4 n) x5 x3 x2 x1 0 si sj sa sb
def f_Mo_typeLike_67 (nf : Nat) (K4 : Int32 → Int32 → Int32 → (Nat → Int32) → (Nat → Int64) → (Nat → Nat → Int32) → (Nat → Nat → Int64) → Option (Int32 × (Nat → Int32) × (Nat → Int64) × (Nat → Nat → Int32) × (Nat → Nat → Int64))) (x3 : Int32) (x2 : Int32) (x1 : Int32) (s0 : Int32) (si : Nat → Int32) (sj : Nat → Int64) (sa : Nat → Nat → Int32) (sb : Nat → Nat → Int64) : Option (Int32 × (Nat → Int32) × (Nat → Int64) × (Nat → Nat → Int32) × (Nat → Nat → Int64)) :=
  f_Mo_typeLike_72 nf K4 nf 0 s0 x3 x2 x1 si sj sa sb
def f_Mo_typeLike_66 (nf : Nat) (K4 : Int32 → Int32 → Int32 → (Nat → Int32) → (Nat → Int64) → (Nat → Nat → Int32) → (Nat → Nat → Int64) → Option (Int32 × (Nat → Int32) × (Nat → Int64) × (Nat → Nat → Int32) × (Nat → Nat → Int64))) (x3 : Int32) (x2 : Int32) (x1 : Int32) (si : Nat → Int32) (sj : Nat → Int64) (sa : Nat → Nat → Int32) (sb : Nat → Nat → Int64) : Option (Int32 × (Nat → Int32) × (Nat → Int64) × (Nat → Nat → Int32) × (Nat → Nat → Int64)) :=
  f_Mo_typeLike_67 nf K4 x3 x2 x1 0 si sj sa sb
def f_Mo_typeLike_4 (nf : Nat) : Nat → Int32 → Int32 → Int32 → (Nat → Int32) → (Nat → Int64) → (Nat → Nat → Int32) → (Nat → Nat → Int64) → Option (Int32 × (Nat → Int32) × (Nat → Int64) × (Nat → Nat → Int32) × (Nat → Nat → Int64))
  | 0, _, _, _, _, _, _, _ => none
  | n + 1, x3, x2, x1, si, sj, sa, sb =>
    if x2 < 0 ∨ 5 ≤ x2.toNatClampNeg then none else
    if (sa 6 x2.toNatClampNeg) ≤ x3 then
    some ((-1), si, sj, sa, sb)
    else
    (f_Mo_byType nf x2 x3 si sj sa sb).bind fun (i_3, j_4, a_5, b_6) =>
      if ((2 * x2) + x1) < 0 ∨ 10 ≤ ((2 * x2) + x1).toNatClampNeg then none else
      if (i_3 45) = (a_5 24 ((2 * x2) + x1).toNatClampNeg) then
      if (i_3 46) = x1 then
        if ((2 * x2) + x1) < 0 ∨ 10 ≤ ((2 * x2) + x1).toNatClampNeg then none else
          if (i_3 47) = (a_5 25 ((2 * x2) + x1).toNatClampNeg) then
          f_Mo_typeLike_67 nf (f_Mo_typeLike_4 nf n) x3 x2 x1 1 i_3 j_4 a_5 b_6
          else
          f_Mo_typeLike_66 nf (f_Mo_typeLike_4 nf n) x3 x2 x1 i_3 j_4 a_5 b_6
        else
        f_Mo_typeLike_66 nf (f_Mo_typeLike_4 nf n) x3 x2 x1 i_3 j_4 a_5 b_6
      else
      f_Mo_typeLike_66 nf (f_Mo_typeLike_4 nf n) x3 x2 x1 i_3 j_4 a_5 b_6
def f_Mo_typeLike_0 (nf : Nat) (x1 : Int32) (si : Nat → Int32) (sj : Nat → Int64) (sa : Nat → Nat → Int32) (sb : Nat → Nat → Int64) : Option (Int32 × (Nat → Int32) × (Nat → Int64) × (Nat → Nat → Int32) × (Nat → Nat → Int64)) :=
  f_Mo_typeLike_4 nf nf 0 4 x1 si sj sa sb
def f_Mo_typeLike (nf : Nat) (p0 : Int32) (si : Nat → Int32) (sj : Nat → Int64) (sa : Nat → Nat → Int32) (sb : Nat → Nat → Int64) : Option (Int32 × (Nat → Int32) × (Nat → Int64) × (Nat → Nat → Int32) × (Nat → Nat → Int64)) :=
  f_Mo_typeLike_0 nf p0 si sj sa sb
section
variable {p : Program} {l : Launch} {e : Env} {R : Room} {s : State} {m : MethodId} {args : Array Value} {below : List Frame} {meth : Method} {c : Code} {Q : State → Prop} {dC : Nat → ClassId} {dI : Nat → Nat → Nat} {nf : Nat} {A : Nat → Prop} {h0 : Nat} {r : Nat → Nat} {cA : Nat → ClassId}
variable {r0 : Int32} {vi : Nat → Int32} {vj : Nat → Int64} {va : Nat → Nat → Int32} {vb : Nat → Nat → Int64}
set_option maxHeartbeats 400000 in
set_option maxRecDepth 100000 in
theorem k_Mo_typeLike_126 (C0 : Cx p s m meth c args R b_Mo_typeLike "ZoneFilesModel" 6 (some .int) 2 47) (hST : ST A s s.heap) (hA : ∀ q, s.heap.size ≤ q → A q) (hK : va_K (dC, dI) classes (moT cA) s) (hE : ∀ (pc : Nat) (ls : Array Slot) (H : Heap) (locs : List Loc), decode b_Mo_typeLike pc = .ok (.ireturn, 1) → narrow .int (.int r0) = .int r0 → va_P (dC, dI) classes (moW h0 r cA vi vj va vb) H → va_D A (moW h0 r cA vi vj va vb) → va_S A s.heap H locs → W p l e R s m args below meth c H locs 0 0 Q (F0 m pc ls [.int r0])) {K4 : Int32 → Int32 → Int32 → (Nat → Int32) → (Nat → Int64) → (Nat → Nat → Int32) → (Nat → Nat → Int64) → Option (Int32 × (Nat → Int32) × (Nat → Int64) × (Nat → Nat → Int32) × (Nat → Nat → Int64))} (hK4 : ∀ {x3 : Int32} {x2 : Int32} {x1 : Int32} {si : Nat → Int32} {sj : Nat → Int64} {sa : Nat → Nat → Int32} {sb : Nat → Nat → Int64}, K4 x3 x2 x1 si sj sa sb = some (r0, vi, vj, va, vb) → ∀ {H : Heap} {locs : List Loc} {ls : Array Slot}, va_P (dC, dI) classes (moW h0 r cA si sj sa sb) H → va_D A (moW h0 r cA si sj sa sb) → va_S A s.heap H locs → lv_has ls 6 [(3, .int x3), (2, .int x2), (0, .ref h0), (1, .int x1)] → W p l e R s m args below meth c H locs 0 0 Q (F0 m 4 ls [])) {x4 : Int32} {x3 : Int32} {x2 : Int32} {x1 : Int32} {si : Nat → Int32} {sj : Nat → Int64} {sa : Nat → Nat → Int32} {sb : Nat → Nat → Int64} (hf : f_Mo_typeLike_126 nf K4 x4 x3 x2 x1 si sj sa sb = some (r0, vi, vj, va, vb)) {H : Heap} {locs : List Loc} {ls : Array Slot} (hP : va_P (dC, dI) classes (moW h0 r cA si sj sa sb) H) (hD : va_D A (moW h0 r cA si sj sa sb)) (hS : va_S A s.heap H locs) (hl : lv_has ls 6 [(4, .int x4), (3, .int x3), (2, .int x2), (0, .ref h0), (1, .int x1)]) : W p l e R s m args below meth c H locs 0 0 Q (F0 m 126 ls []) := by
  obtain ⟨hx, hb, hr, hml, hown, hts, hlocks, hRf, hRl⟩ := id C0
  unfold f_Mo_typeLike_126 at hf
  refine lv_iload hx hb d_Mo_typeLike_126 (lv_at hl 0 rfl) ?_
  refine lv_if_eq (tgt := 133) hx hb d_Mo_typeLike_128 (by decide) (fun c_10 => ?_) (fun c_10 => ?_)
  · have hf := it_t c_10 hf
    refine lv_iinc (v := x3 + 1) (lv' := [(3, .int (x3 + 1)), (4, .int x4), (2, .int x2), (0, .ref h0), (1, .int x1)]) hx hb d_Mo_typeLike_133 hl (k := 1) rfl rfl (by decide) rfl (fun ls hl => ?_)
    refine lv_goto (tgt := 4) hx hb d_Mo_typeLike_136 (by decide) ?_
    exact hK4 hf hP hD hS (lv_sub hl [0, 2, 3, 4] rfl)
  · have hf := it_f c_10 hf
    refine lv_iload_n hx hb d_Mo_typeLike_131 rfl (lv_at hl 1 rfl) ?_
    cases rs hf
    exact hE _ _ _ _ d_Mo_typeLike_132 rfl hP hD hS
set_option maxHeartbeats 400000 in
set_option maxRecDepth 100000 in
theorem k_Mo_typeLike_118 (C0 : Cx p s m meth c args R b_Mo_typeLike "ZoneFilesModel" 6 (some .int) 2 47) (hST : ST A s s.heap) (hA : ∀ q, s.heap.size ≤ q → A q) (hK : va_K (dC, dI) classes (moT cA) s) (hE : ∀ (pc : Nat) (ls : Array Slot) (H : Heap) (locs : List Loc), decode b_Mo_typeLike pc = .ok (.ireturn, 1) → narrow .int (.int r0) = .int r0 → va_P (dC, dI) classes (moW h0 r cA vi vj va vb) H → va_D A (moW h0 r cA vi vj va vb) → va_S A s.heap H locs → W p l e R s m args below meth c H locs 0 0 Q (F0 m pc ls [.int r0])) {K4 : Int32 → Int32 → Int32 → (Nat → Int32) → (Nat → Int64) → (Nat → Nat → Int32) → (Nat → Nat → Int64) → Option (Int32 × (Nat → Int32) × (Nat → Int64) × (Nat → Nat → Int32) × (Nat → Nat → Int64))} (hK4 : ∀ {x3 : Int32} {x2 : Int32} {x1 : Int32} {si : Nat → Int32} {sj : Nat → Int64} {sa : Nat → Nat → Int32} {sb : Nat → Nat → Int64}, K4 x3 x2 x1 si sj sa sb = some (r0, vi, vj, va, vb) → ∀ {H : Heap} {locs : List Loc} {ls : Array Slot}, va_P (dC, dI) classes (moW h0 r cA si sj sa sb) H → va_D A (moW h0 r cA si sj sa sb) → va_S A s.heap H locs → lv_has ls 6 [(3, .int x3), (2, .int x2), (0, .ref h0), (1, .int x1)] → W p l e R s m args below meth c H locs 0 0 Q (F0 m 4 ls [])) {K72 : Int32 → Int32 → Int32 → Int32 → Int32 → (Nat → Int32) → (Nat → Int64) → (Nat → Nat → Int32) → (Nat → Nat → Int64) → Option (Int32 × (Nat → Int32) × (Nat → Int64) × (Nat → Nat → Int32) × (Nat → Nat → Int64))} (hK72 : ∀ {x5 : Int32} {x4 : Int32} {x3 : Int32} {x2 : Int32} {x1 : Int32} {si : Nat → Int32} {sj : Nat → Int64} {sa : Nat → Nat → Int32} {sb : Nat → Nat → Int64}, K72 x5 x4 x3 x2 x1 si sj sa sb = some (r0, vi, vj, va, vb) → ∀ {H : Heap} {locs : List Loc} {ls : Array Slot}, va_P (dC, dI) classes (moW h0 r cA si sj sa sb) H → va_D A (moW h0 r cA si sj sa sb) → va_S A s.heap H locs → lv_has ls 6 [(5, .int x5), (4, .int x4), (3, .int x3), (2, .int x2), (0, .ref h0), (1, .int x1)] → W p l e R s m args below meth c H locs 0 0 Q (F0 m 72 ls [])) {x5 : Int32} {x3 : Int32} {x2 : Int32} {x1 : Int32} {s0 : Int32} {si : Nat → Int32} {sj : Nat → Int64} {sa : Nat → Nat → Int32} {sb : Nat → Nat → Int64} (hf : f_Mo_typeLike_118 nf K4 K72 x5 x3 x2 x1 s0 si sj sa sb = some (r0, vi, vj, va, vb)) {H : Heap} {locs : List Loc} {ls : Array Slot} (hP : va_P (dC, dI) classes (moW h0 r cA si sj sa sb) H) (hD : va_D A (moW h0 r cA si sj sa sb)) (hS : va_S A s.heap H locs) (hl : lv_has ls 6 [(5, .int x5), (3, .int x3), (2, .int x2), (0, .ref h0), (1, .int x1)]) : W p l e R s m args below meth c H locs 0 0 Q (F0 m 118 ls [.int s0]) := by
  obtain ⟨hx, hb, hr, hml, hown, hts, hlocks, hRf, hRl⟩ := id C0
  unfold f_Mo_typeLike_118 at hf
  refine lv_istore (lv' := [(4, .int s0), (5, .int x5), (3, .int x3), (2, .int x2), (0, .ref h0), (1, .int x1)]) hx hb d_Mo_typeLike_118 hl (by decide) rfl (fun ls hl => ?_)
  refine lv_iinc (v := x5 + 1) (lv' := [(5, .int (x5 + 1)), (4, .int s0), (3, .int x3), (2, .int x2), (0, .ref h0), (1, .int x1)]) hx hb d_Mo_typeLike_120 hl (k := 1) rfl rfl (by decide) rfl (fun ls hl => ?_)
  refine lv_goto (tgt := 72) hx hb d_Mo_typeLike_123 (by decide) ?_
  exact hK72 hf hP hD hS (lv_sub hl [0, 1, 2, 3, 4, 5] rfl)
set_option maxHeartbeats 400000 in
set_option maxRecDepth 100000 in
theorem k_Mo_typeLike_72 (C0 : Cx p s m meth c args R b_Mo_typeLike "ZoneFilesModel" 6 (some .int) 2 47) (hST : ST A s s.heap) (hA : ∀ q, s.heap.size ≤ q → A q) (hK : va_K (dC, dI) classes (moT cA) s) (hE : ∀ (pc : Nat) (ls : Array Slot) (H : Heap) (locs : List Loc), decode b_Mo_typeLike pc = .ok (.ireturn, 1) → narrow .int (.int r0) = .int r0 → va_P (dC, dI) classes (moW h0 r cA vi vj va vb) H → va_D A (moW h0 r cA vi vj va vb) → va_S A s.heap H locs → W p l e R s m args below meth c H locs 0 0 Q (F0 m pc ls [.int r0])) {K4 : Int32 → Int32 → Int32 → (Nat → Int32) → (Nat → Int64) → (Nat → Nat → Int32) → (Nat → Nat → Int64) → Option (Int32 × (Nat → Int32) × (Nat → Int64) × (Nat → Nat → Int32) × (Nat → Nat → Int64))} (hK4 : ∀ {x3 : Int32} {x2 : Int32} {x1 : Int32} {si : Nat → Int32} {sj : Nat → Int64} {sa : Nat → Nat → Int32} {sb : Nat → Nat → Int64}, K4 x3 x2 x1 si sj sa sb = some (r0, vi, vj, va, vb) → ∀ {H : Heap} {locs : List Loc} {ls : Array Slot}, va_P (dC, dI) classes (moW h0 r cA si sj sa sb) H → va_D A (moW h0 r cA si sj sa sb) → va_S A s.heap H locs → lv_has ls 6 [(3, .int x3), (2, .int x2), (0, .ref h0), (1, .int x1)] → W p l e R s m args below meth c H locs 0 0 Q (F0 m 4 ls [])) : ∀ (n : Nat) {x5 : Int32} {x4 : Int32} {x3 : Int32} {x2 : Int32} {x1 : Int32} {si : Nat → Int32} {sj : Nat → Int64} {sa : Nat → Nat → Int32} {sb : Nat → Nat → Int64}, f_Mo_typeLike_72 nf K4 n x5 x4 x3 x2 x1 si sj sa sb = some (r0, vi, vj, va, vb) → ∀ {H : Heap} {locs : List Loc} {ls : Array Slot}, va_P (dC, dI) classes (moW h0 r cA si sj sa sb) H → va_D A (moW h0 r cA si sj sa sb) → va_S A s.heap H locs → lv_has ls 6 [(5, .int x5), (4, .int x4), (3, .int x3), (2, .int x2), (0, .ref h0), (1, .int x1)] → W p l e R s m args below meth c H locs 0 0 Q (F0 m 72 ls []) := by
  obtain ⟨hx, hb, hr, hml, hown, hts, hlocks, hRf, hRl⟩ := id C0
  intro n
  induction n with
  | zero =>
    intro x5 x4 x3 x2 x1 si sj sa sb hf
    exact absurd hf (by simp [f_Mo_typeLike_72])
  | succ n ih =>
    intro x5 x4 x3 x2 x1 si sj sa sb hf H locs ls hP hD hS hl
    unfold f_Mo_typeLike_72 at hf
    refine lv_iload hx hb d_Mo_typeLike_72 (lv_at hl 0 rfl) ?_
    refine lv_aload_n hx hb d_Mo_typeLike_74 rfl (lv_at hl 4 rfl) ?_
    refine mg_47 (v := si 47) hx hb hts hown hK hP rfl d_Mo_typeLike_75 ?_
    refine lv_icmp_ge (tgt := 126) hx hb d_Mo_typeLike_78 (by decide) (fun c_9 => ?_) (fun c_9 => ?_)
    · have hf := it_t c_9 hf
      exact k_Mo_typeLike_126 C0 hST hA hK hE hK4 hf hP hD hS (lv_sub hl [1, 2, 3, 4, 5] rfl)
    · have hf := it_f c_9 hf
      refine lv_iload hx hb d_Mo_typeLike_81 (lv_at hl 1 rfl) ?_
      refine lv_if_eq (tgt := 126) hx hb d_Mo_typeLike_83 (by decide) (fun c_11 => ?_) (fun c_11 => ?_)
      · have hf := it_t c_11 hf
        exact k_Mo_typeLike_126 C0 hST hA hK hE hK4 hf hP hD hS (lv_sub hl [1, 2, 3, 4, 5] rfl)
      · have hf := it_f c_11 hf
        refine lv_aload_n hx hb d_Mo_typeLike_86 rfl (lv_at hl 4 rfl) ?_
        refine mg_48 hx hb hts hown hK hP d_Mo_typeLike_87 ?_
        refine lv_iload hx hb d_Mo_typeLike_90 (lv_at hl 0 rfl) ?_
        obtain ⟨c_12, hf⟩ := it_n hf
        refine ma_48 (v := sa 48 x5.toNatClampNeg) hx hb hK hP c_12 rfl d_Mo_typeLike_92 ?_
        refine lv_aload_n hx hb d_Mo_typeLike_93 rfl (lv_at hl 4 rfl) ?_
        refine mg_26 hx hb hts hown hK hP d_Mo_typeLike_94 ?_
        refine lv_bipush (v := 20) hx hb d_Mo_typeLike_97 (by decide) ?_
        refine lv_iload_n hx hb d_Mo_typeLike_99 rfl (lv_at hl 3 rfl) ?_
        refine lv_imul hx hb d_Mo_typeLike_100 ?_
        refine lv_bipush (v := 10) hx hb d_Mo_typeLike_101 (by decide) ?_
        refine lv_iload_n hx hb d_Mo_typeLike_103 rfl (lv_at hl 5 rfl) ?_
        refine lv_imul hx hb d_Mo_typeLike_104 ?_
        refine lv_iadd hx hb d_Mo_typeLike_105 ?_
        refine lv_iload hx hb d_Mo_typeLike_106 (lv_at hl 0 rfl) ?_
        refine lv_iadd hx hb d_Mo_typeLike_108 ?_
        obtain ⟨c_13, hf⟩ := it_n hf
        refine ma_26 (v := sa 26 (((20 * x2) + (10 * x1)) + x5).toNatClampNeg) hx hb hK hP c_13 rfl d_Mo_typeLike_109 ?_
        refine lv_icmp_ne (tgt := 117) hx hb d_Mo_typeLike_110 (by decide) (fun c_14 => ?_) (fun c_14 => ?_)
        · have hf := it_f c_14 hf
          refine lv_iconst (v := 0) hx hb d_Mo_typeLike_117 (by decide) ?_
          exact k_Mo_typeLike_118 C0 hST hA hK hE hK4 (fun hf => ih hf) hf hP hD hS (lv_sub hl [0, 2, 3, 4, 5] rfl)
        · have hf := it_t c_14 hf
          refine lv_iconst (v := 1) hx hb d_Mo_typeLike_113 (by decide) ?_
          refine lv_goto (tgt := 118) hx hb d_Mo_typeLike_114 (by decide) ?_
          exact k_Mo_typeLike_118 C0 hST hA hK hE hK4 (fun hf => ih hf) hf hP hD hS (lv_sub hl [0, 2, 3, 4, 5] rfl)
set_option maxHeartbeats 400000 in
set_option maxRecDepth 100000 in
theorem k_Mo_typeLike_67 (C0 : Cx p s m meth c args R b_Mo_typeLike "ZoneFilesModel" 6 (some .int) 2 47) (hST : ST A s s.heap) (hA : ∀ q, s.heap.size ≤ q → A q) (hK : va_K (dC, dI) classes (moT cA) s) (hE : ∀ (pc : Nat) (ls : Array Slot) (H : Heap) (locs : List Loc), decode b_Mo_typeLike pc = .ok (.ireturn, 1) → narrow .int (.int r0) = .int r0 → va_P (dC, dI) classes (moW h0 r cA vi vj va vb) H → va_D A (moW h0 r cA vi vj va vb) → va_S A s.heap H locs → W p l e R s m args below meth c H locs 0 0 Q (F0 m pc ls [.int r0])) {K4 : Int32 → Int32 → Int32 → (Nat → Int32) → (Nat → Int64) → (Nat → Nat → Int32) → (Nat → Nat → Int64) → Option (Int32 × (Nat → Int32) × (Nat → Int64) × (Nat → Nat → Int32) × (Nat → Nat → Int64))} (hK4 : ∀ {x3 : Int32} {x2 : Int32} {x1 : Int32} {si : Nat → Int32} {sj : Nat → Int64} {sa : Nat → Nat → Int32} {sb : Nat → Nat → Int64}, K4 x3 x2 x1 si sj sa sb = some (r0, vi, vj, va, vb) → ∀ {H : Heap} {locs : List Loc} {ls : Array Slot}, va_P (dC, dI) classes (moW h0 r cA si sj sa sb) H → va_D A (moW h0 r cA si sj sa sb) → va_S A s.heap H locs → lv_has ls 6 [(3, .int x3), (2, .int x2), (0, .ref h0), (1, .int x1)] → W p l e R s m args below meth c H locs 0 0 Q (F0 m 4 ls [])) {x3 : Int32} {x2 : Int32} {x1 : Int32} {s0 : Int32} {si : Nat → Int32} {sj : Nat → Int64} {sa : Nat → Nat → Int32} {sb : Nat → Nat → Int64} (hf : f_Mo_typeLike_67 nf K4 x3 x2 x1 s0 si sj sa sb = some (r0, vi, vj, va, vb)) {H : Heap} {locs : List Loc} {ls : Array Slot} (hP : va_P (dC, dI) classes (moW h0 r cA si sj sa sb) H) (hD : va_D A (moW h0 r cA si sj sa sb)) (hS : va_S A s.heap H locs) (hl : lv_has ls 6 [(3, .int x3), (2, .int x2), (0, .ref h0), (1, .int x1)]) : W p l e R s m args below meth c H locs 0 0 Q (F0 m 67 ls [.int s0]) := by
  obtain ⟨hx, hb, hr, hml, hown, hts, hlocks, hRf, hRl⟩ := id C0
  unfold f_Mo_typeLike_67 at hf
  refine lv_istore (lv' := [(4, .int s0), (3, .int x3), (2, .int x2), (0, .ref h0), (1, .int x1)]) hx hb d_Mo_typeLike_67 hl (by decide) rfl (fun ls hl => ?_)
  refine lv_iconst (v := 0) hx hb d_Mo_typeLike_69 (by decide) ?_
  refine lv_istore (lv' := [(5, .int 0), (4, .int s0), (3, .int x3), (2, .int x2), (0, .ref h0), (1, .int x1)]) hx hb d_Mo_typeLike_70 hl (by decide) rfl (fun ls hl => ?_)
  exact k_Mo_typeLike_72 C0 hST hA hK hE hK4 nf hf hP hD hS (lv_sub hl [0, 1, 2, 3, 4, 5] rfl)
set_option maxHeartbeats 400000 in
set_option maxRecDepth 100000 in
theorem k_Mo_typeLike_66 (C0 : Cx p s m meth c args R b_Mo_typeLike "ZoneFilesModel" 6 (some .int) 2 47) (hST : ST A s s.heap) (hA : ∀ q, s.heap.size ≤ q → A q) (hK : va_K (dC, dI) classes (moT cA) s) (hE : ∀ (pc : Nat) (ls : Array Slot) (H : Heap) (locs : List Loc), decode b_Mo_typeLike pc = .ok (.ireturn, 1) → narrow .int (.int r0) = .int r0 → va_P (dC, dI) classes (moW h0 r cA vi vj va vb) H → va_D A (moW h0 r cA vi vj va vb) → va_S A s.heap H locs → W p l e R s m args below meth c H locs 0 0 Q (F0 m pc ls [.int r0])) {K4 : Int32 → Int32 → Int32 → (Nat → Int32) → (Nat → Int64) → (Nat → Nat → Int32) → (Nat → Nat → Int64) → Option (Int32 × (Nat → Int32) × (Nat → Int64) × (Nat → Nat → Int32) × (Nat → Nat → Int64))} (hK4 : ∀ {x3 : Int32} {x2 : Int32} {x1 : Int32} {si : Nat → Int32} {sj : Nat → Int64} {sa : Nat → Nat → Int32} {sb : Nat → Nat → Int64}, K4 x3 x2 x1 si sj sa sb = some (r0, vi, vj, va, vb) → ∀ {H : Heap} {locs : List Loc} {ls : Array Slot}, va_P (dC, dI) classes (moW h0 r cA si sj sa sb) H → va_D A (moW h0 r cA si sj sa sb) → va_S A s.heap H locs → lv_has ls 6 [(3, .int x3), (2, .int x2), (0, .ref h0), (1, .int x1)] → W p l e R s m args below meth c H locs 0 0 Q (F0 m 4 ls [])) {x3 : Int32} {x2 : Int32} {x1 : Int32} {si : Nat → Int32} {sj : Nat → Int64} {sa : Nat → Nat → Int32} {sb : Nat → Nat → Int64} (hf : f_Mo_typeLike_66 nf K4 x3 x2 x1 si sj sa sb = some (r0, vi, vj, va, vb)) {H : Heap} {locs : List Loc} {ls : Array Slot} (hP : va_P (dC, dI) classes (moW h0 r cA si sj sa sb) H) (hD : va_D A (moW h0 r cA si sj sa sb)) (hS : va_S A s.heap H locs) (hl : lv_has ls 6 [(3, .int x3), (2, .int x2), (0, .ref h0), (1, .int x1)]) : W p l e R s m args below meth c H locs 0 0 Q (F0 m 66 ls []) := by
  obtain ⟨hx, hb, hr, hml, hown, hts, hlocks, hRf, hRl⟩ := id C0
  unfold f_Mo_typeLike_66 at hf
  refine lv_iconst (v := 0) hx hb d_Mo_typeLike_66 (by decide) ?_
  exact k_Mo_typeLike_67 C0 hST hA hK hE hK4 hf hP hD hS (lv_sub hl [0, 1, 2, 3] rfl)
set_option maxHeartbeats 400000 in
set_option maxRecDepth 100000 in
theorem k_Mo_typeLike_4 (C0 : Cx p s m meth c args R b_Mo_typeLike "ZoneFilesModel" 6 (some .int) 2 47) (hST : ST A s s.heap) (hA : ∀ q, s.heap.size ≤ q → A q) (hK : va_K (dC, dI) classes (moT cA) s) (hE : ∀ (pc : Nat) (ls : Array Slot) (H : Heap) (locs : List Loc), decode b_Mo_typeLike pc = .ok (.ireturn, 1) → narrow .int (.int r0) = .int r0 → va_P (dC, dI) classes (moW h0 r cA vi vj va vb) H → va_D A (moW h0 r cA vi vj va vb) → va_S A s.heap H locs → W p l e R s m args below meth c H locs 0 0 Q (F0 m pc ls [.int r0])) : ∀ (n : Nat) {x3 : Int32} {x2 : Int32} {x1 : Int32} {si : Nat → Int32} {sj : Nat → Int64} {sa : Nat → Nat → Int32} {sb : Nat → Nat → Int64}, f_Mo_typeLike_4 nf n x3 x2 x1 si sj sa sb = some (r0, vi, vj, va, vb) → ∀ {H : Heap} {locs : List Loc} {ls : Array Slot}, va_P (dC, dI) classes (moW h0 r cA si sj sa sb) H → va_D A (moW h0 r cA si sj sa sb) → va_S A s.heap H locs → lv_has ls 6 [(3, .int x3), (2, .int x2), (0, .ref h0), (1, .int x1)] → W p l e R s m args below meth c H locs 0 0 Q (F0 m 4 ls []) := by
  obtain ⟨hx, hb, hr, hml, hown, hts, hlocks, hRf, hRl⟩ := id C0
  intro n
  induction n with
  | zero =>
    intro x3 x2 x1 si sj sa sb hf
    exact absurd hf (by simp [f_Mo_typeLike_4])
  | succ n ih =>
    intro x3 x2 x1 si sj sa sb hf H locs ls hP hD hS hl
    unfold f_Mo_typeLike_4 at hf
    refine lv_iload_n hx hb d_Mo_typeLike_4 rfl (lv_at hl 0 rfl) ?_
    refine lv_aload_n hx hb d_Mo_typeLike_5 rfl (lv_at hl 2 rfl) ?_
    refine mg_6 hx hb hts hown hK hP d_Mo_typeLike_6 ?_
    refine lv_iload_n hx hb d_Mo_typeLike_9 rfl (lv_at hl 1 rfl) ?_
    obtain ⟨c_1, hf⟩ := it_n hf
    refine ma_6 (v := sa 6 x2.toNatClampNeg) hx hb hK hP c_1 rfl d_Mo_typeLike_10 ?_
    refine lv_icmp_ge (tgt := 139) hx hb d_Mo_typeLike_11 (by decide) (fun c_2 => ?_) (fun c_2 => ?_)
    · have hf := it_t c_2 hf
      refine lv_iconst (v := -1) hx hb d_Mo_typeLike_139 (by decide) ?_
      cases rs hf
      exact hE _ _ _ _ d_Mo_typeLike_140 rfl hP hD hS
    · have hf := it_f c_2 hf
      refine lv_aload_n hx hb d_Mo_typeLike_14 rfl (lv_at hl 2 rfl) ?_
      refine lv_iload_n hx hb d_Mo_typeLike_15 rfl (lv_at hl 1 rfl) ?_
      refine lv_iload_n hx hb d_Mo_typeLike_16 rfl (lv_at hl 0 rfl) ?_
      obtain ⟨⟨i_3, j_4, a_5, b_6⟩, hc, hf⟩ := ob hf
      have hFc := mo_free hD hS hA
      refine cl_M (v := none) (st1 := []) (va_runV (As := [.int x2, .int x3]) (rest := []) ⟨hx, hb, hml, hown, hts⟩ (c_Mo_byType l dC dI h0 r cA H.size nf x2 x3 si sj sa sb hc) (cwV 2 hts (gdV m_7_200 m_7_202 msel_73 m_1_10 m_7_203) rfl rfl rfl (by decide +kernel) ⟨Nat.le_trans (Nat.le_of_ble_eq_true rfl) hRf, Nat.le_trans (Nat.le_of_ble_eq_true rfl) hRl⟩) ((MU.pre hP hK hD (hST.mu hS hFc)).vir (va_recv hK hP (ci := 10) (q0 := 0) rfl rfl)) rfl rfl hl.1 rfl (lv_room (Nat.le_of_ble_eq_true rfl)) d_Mo_typeLike_17 ⟨Nat.zero_le _, Nat.zero_le _⟩) rfl hS (fun q _ h => hFc q h) hFc (fun t H1 locs ht hvm hB hz1 hk1 hS => ?_)
      obtain ⟨hP, hD⟩ := mo_back ht hD hB
      generalize H1 = H at hP hS ⊢
      refine lv_aload_n hx hb d_Mo_typeLike_20 rfl (lv_at hl 2 rfl) ?_
      refine mg_45 (v := i_3 45) hx hb hts hown hK hP rfl d_Mo_typeLike_21 ?_
      refine lv_aload_n hx hb d_Mo_typeLike_24 rfl (lv_at hl 2 rfl) ?_
      refine mg_24 hx hb hts hown hK hP d_Mo_typeLike_25 ?_
      refine lv_iconst (v := 2) hx hb d_Mo_typeLike_28 (by decide) ?_
      refine lv_iload_n hx hb d_Mo_typeLike_29 rfl (lv_at hl 1 rfl) ?_
      refine lv_imul hx hb d_Mo_typeLike_30 ?_
      refine lv_iload_n hx hb d_Mo_typeLike_31 rfl (lv_at hl 3 rfl) ?_
      refine lv_iadd hx hb d_Mo_typeLike_32 ?_
      obtain ⟨c_7, hf⟩ := it_n hf
      refine ma_24 (v := a_5 24 ((2 * x2) + x1).toNatClampNeg) hx hb hK hP c_7 rfl d_Mo_typeLike_33 ?_
      refine lv_icmp_ne (tgt := 66) hx hb d_Mo_typeLike_34 (by decide) (fun c_8 => ?_) (fun c_8 => ?_)
      · have hf := it_f c_8 hf
        exact k_Mo_typeLike_66 C0 hST hA hK hE (fun hf => ih hf) hf hP hD hS (lv_sub hl [0, 1, 2, 3] rfl)
      · have hf := it_t c_8 hf
        refine lv_aload_n hx hb d_Mo_typeLike_37 rfl (lv_at hl 2 rfl) ?_
        refine mg_46 (v := i_3 46) hx hb hts hown hK hP rfl d_Mo_typeLike_38 ?_
        refine lv_iload_n hx hb d_Mo_typeLike_41 rfl (lv_at hl 3 rfl) ?_
        refine lv_icmp_ne (tgt := 66) hx hb d_Mo_typeLike_42 (by decide) (fun c_15 => ?_) (fun c_15 => ?_)
        · have hf := it_f c_15 hf
          exact k_Mo_typeLike_66 C0 hST hA hK hE (fun hf => ih hf) hf hP hD hS (lv_sub hl [0, 1, 2, 3] rfl)
        · have hf := it_t c_15 hf
          refine lv_aload_n hx hb d_Mo_typeLike_45 rfl (lv_at hl 2 rfl) ?_
          refine mg_47 (v := i_3 47) hx hb hts hown hK hP rfl d_Mo_typeLike_46 ?_
          refine lv_aload_n hx hb d_Mo_typeLike_49 rfl (lv_at hl 2 rfl) ?_
          refine mg_25 hx hb hts hown hK hP d_Mo_typeLike_50 ?_
          refine lv_iconst (v := 2) hx hb d_Mo_typeLike_53 (by decide) ?_
          refine lv_iload_n hx hb d_Mo_typeLike_54 rfl (lv_at hl 1 rfl) ?_
          refine lv_imul hx hb d_Mo_typeLike_55 ?_
          refine lv_iload_n hx hb d_Mo_typeLike_56 rfl (lv_at hl 3 rfl) ?_
          refine lv_iadd hx hb d_Mo_typeLike_57 ?_
          obtain ⟨c_16, hf⟩ := it_n hf
          refine ma_25 (v := a_5 25 ((2 * x2) + x1).toNatClampNeg) hx hb hK hP c_16 rfl d_Mo_typeLike_58 ?_
          refine lv_icmp_ne (tgt := 66) hx hb d_Mo_typeLike_59 (by decide) (fun c_17 => ?_) (fun c_17 => ?_)
          · have hf := it_f c_17 hf
            exact k_Mo_typeLike_66 C0 hST hA hK hE (fun hf => ih hf) hf hP hD hS (lv_sub hl [0, 1, 2, 3] rfl)
          · have hf := it_t c_17 hf
            refine lv_iconst (v := 1) hx hb d_Mo_typeLike_62 (by decide) ?_
            refine lv_goto (tgt := 67) hx hb d_Mo_typeLike_63 (by decide) ?_
            exact k_Mo_typeLike_67 C0 hST hA hK hE (fun hf => ih hf) hf hP hD hS (lv_sub hl [0, 1, 2, 3] rfl)
set_option maxHeartbeats 400000 in
set_option maxRecDepth 100000 in
theorem k_Mo_typeLike_0 (C0 : Cx p s m meth c args R b_Mo_typeLike "ZoneFilesModel" 6 (some .int) 2 47) (hST : ST A s s.heap) (hA : ∀ q, s.heap.size ≤ q → A q) (hK : va_K (dC, dI) classes (moT cA) s) (hE : ∀ (pc : Nat) (ls : Array Slot) (H : Heap) (locs : List Loc), decode b_Mo_typeLike pc = .ok (.ireturn, 1) → narrow .int (.int r0) = .int r0 → va_P (dC, dI) classes (moW h0 r cA vi vj va vb) H → va_D A (moW h0 r cA vi vj va vb) → va_S A s.heap H locs → W p l e R s m args below meth c H locs 0 0 Q (F0 m pc ls [.int r0])) {x1 : Int32} {si : Nat → Int32} {sj : Nat → Int64} {sa : Nat → Nat → Int32} {sb : Nat → Nat → Int64} (hf : f_Mo_typeLike_0 nf x1 si sj sa sb = some (r0, vi, vj, va, vb)) {H : Heap} {locs : List Loc} {ls : Array Slot} (hP : va_P (dC, dI) classes (moW h0 r cA si sj sa sb) H) (hD : va_D A (moW h0 r cA si sj sa sb)) (hS : va_S A s.heap H locs) (hl : lv_has ls 6 [(0, .ref h0), (1, .int x1)]) : W p l e R s m args below meth c H locs 0 0 Q (F0 m 0 ls []) := by
  obtain ⟨hx, hb, hr, hml, hown, hts, hlocks, hRf, hRl⟩ := id C0
  unfold f_Mo_typeLike_0 at hf
  refine lv_iconst (v := 4) hx hb d_Mo_typeLike_0 (by decide) ?_
  refine lv_istore_n (lv' := [(2, .int 4), (0, .ref h0), (1, .int x1)]) hx hb d_Mo_typeLike_1 rfl hl (by decide) rfl (fun ls hl => ?_)
  refine lv_iconst (v := 0) hx hb d_Mo_typeLike_2 (by decide) ?_
  refine lv_istore_n (lv' := [(3, .int 0), (2, .int 4), (0, .ref h0), (1, .int x1)]) hx hb d_Mo_typeLike_3 rfl hl (by decide) rfl (fun ls hl => ?_)
  exact k_Mo_typeLike_4 C0 hST hA hK hE nf hf hP hD hS (lv_sub hl [0, 1, 2, 3] rfl)
end
set_option maxHeartbeats 400000 in
set_option maxRecDepth 100000 in
theorem c_Mo_typeLike (l : Launch) (dC : Nat → ClassId) (dI : Nat → Nat → Nat) (h0 : Nat) (r : Nat → Nat) (cA : Nat → ClassId) (sz : Nat) (nf : Nat) (p0 : Int32) (si : Nat → Int32) (sj : Nat → Int64) (sa : Nat → Nat → Int32) (sb : Nat → Nat → Int64) {r0 : Int32} {vi : Nat → Int32} {vj : Nat → Int64} {va : Nat → Nat → Int32} {vb : Nat → Nat → Int64} (hf : f_Mo_typeLike nf p0 si sj sa sb = some (r0, vi, vj, va, vb)) : Met l y_Mo_typeLike (wd y_Mo_typeLike b_Mo_typeLike 6 (some .int)) ({ frames := 2, cells := 0, slots := 0, locals := 47 }) (MU dC dI (moW h0 r cA si sj sa sb) (moT cA) sz [.ref h0, .int p0]) (MV (some (.int r0)) (fun t => va_P (dC, dI) classes (moW h0 r cA vi vj va vb) t.heap) (va_A (moW h0 r cA si sj sa sb) sz)) 0 0 (va_A (moW h0 r cA si sj sa sb) sz) :=
  met_M (plainFor_of_name (by decide)) (Nat.le_of_ble_eq_true rfl) (fun p e R s m args below meth c ls hRc hRs hsz hin C0 hST hK hP hD hl => by
    obtain ⟨hx, hb, hr, hml, hown, hts, hlocks, hRf, hRl⟩ := id C0
    subst hsz
    have hA : ∀ q : Nat, s.heap.size ≤ q → va_A (moW h0 r cA si sj sa sb) s.heap.size q := fun q h => Or.inr h
    have hS : va_S (va_A (moW h0 r cA si sj sa sb) s.heap.size) s.heap s.heap [] := va_S.rf
    unfold f_Mo_typeLike at hf
    exact k_Mo_typeLike_0 C0 hST hA hK (fun pc ls H locs hd hn hP hD hS => W.zret hx hb hr hn (fun t ht hW => ⟨⟨rfl, mo_end ht hP⟩, hS.F ht⟩) hS.2.2 hd) hf hP hD hS (lv_sub hl [0, 1] rfl))
-- ZoneFilesModel.lettersLike(I)I
def f_Mo_lettersLike_117 (nf : Nat) (K16 : Int32 → Int32 → Int32 → Int32 → Option (Int32)) (x5 : Int32) (x4 : Int32) (x3 : Int32) (x2 : Int32) (x1 : Int32) : Option (Int32) :=
  if x5 = 0 then
  K16 (x4 + 1) x3 x2 x1
  else
  some x4
def f_Mo_lettersLike_109 (nf : Nat) (K16 : Int32 → Int32 → Int32 → Int32 → Option (Int32)) (K57 : Int32 → Int32 → Int32 → Int32 → Int32 → Int32 → Option (Int32)) (x6 : Int32) (x4 : Int32) (x3 : Int32) (x2 : Int32) (x1 : Int32) (s0 : Int32) : Option (Int32) :=
  K57 (x6 + 1) s0 x4 x3 x2 x1
def f_Mo_lettersLike_57 (nf : Nat) (sa : Nat → Nat → Int32) (K16 : Int32 → Int32 → Int32 → Int32 → Option (Int32)) : Nat → Int32 → Int32 → Int32 → Int32 → Int32 → Int32 → Option (Int32)
  | 0, _, _, _, _, _, _ => none
  | n + 1, x6, x5, x4, x3, x2, x1 =>
    if x3 ≤ x6 then
    f_Mo_lettersLike_117 nf K16 x5 x4 x3 x2 x1
    else
    if x5 = 0 then
      f_Mo_lettersLike_117 nf K16 x5 x4 x3 x2 x1
      else
      if (((200 * x2) + x4) + x6) < 0 ∨ 1000 ≤ (((200 * x2) + x4) + x6).toNatClampNeg then none else
        if (((20 * x2) + (10 * x1)) + x6) < 0 ∨ 100 ≤ (((20 * x2) + (10 * x1)) + x6).toNatClampNeg then none else
        if (sa 17 (((200 * x2) + x4) + x6).toNatClampNeg) = (sa 26 (((20 * x2) + (10 * x1)) + x6).toNatClampNeg) then
        f_Mo_lettersLike_109 nf K16 (f_Mo_lettersLike_57 nf sa K16 n) x6 x4 x3 x2 x1 1
        else
        f_Mo_lettersLike_109 nf K16 (f_Mo_lettersLike_57 nf sa K16 n) x6 x4 x3 x2 x1 0
def f_Mo_lettersLike_52 (nf : Nat) (sa : Nat → Nat → Int32) (K16 : Int32 → Int32 → Int32 → Int32 → Option (Int32)) (x4 : Int32) (x3 : Int32) (x2 : Int32) (x1 : Int32) (s0 : Int32) : Option (Int32) :=
  f_Mo_lettersLike_57 nf sa K16 nf 0 s0 x4 x3 x2 x1
def f_Mo_lettersLike_16 (nf : Nat) (sa : Nat → Nat → Int32) : Nat → Int32 → Int32 → Int32 → Int32 → Option (Int32)
  | 0, _, _, _, _ => none
  | n + 1, x4, x3, x2, x1 =>
    if x2 < 0 ∨ 5 ≤ x2.toNatClampNeg then none else
    if (sa 7 x2.toNatClampNeg) ≤ (x4 + x3) then
    some (-1)
    else
    if (((200 * x2) + x4) + x3) < 0 ∨ 1000 ≤ (((200 * x2) + x4) + x3).toNatClampNeg then none else
      if (sa 17 (((200 * x2) + x4) + x3).toNatClampNeg) = 0 then
      f_Mo_lettersLike_52 nf sa (f_Mo_lettersLike_16 nf sa n) x4 x3 x2 x1 1
      else
      f_Mo_lettersLike_52 nf sa (f_Mo_lettersLike_16 nf sa n) x4 x3 x2 x1 0
def f_Mo_lettersLike_0 (nf : Nat) (sa : Nat → Nat → Int32) (x1 : Int32) : Option (Int32) :=
  if ((2 * 4) + x1) < 0 ∨ 10 ≤ ((2 * 4) + x1).toNatClampNeg then none else
  f_Mo_lettersLike_16 nf sa nf 0 (sa 25 ((2 * 4) + x1).toNatClampNeg) 4 x1
def f_Mo_lettersLike (nf : Nat) (p0 : Int32) (si : Nat → Int32) (sj : Nat → Int64) (sa : Nat → Nat → Int32) (sb : Nat → Nat → Int64) : Option (Int32) :=
  f_Mo_lettersLike_0 nf sa p0
section
variable {p : Program} {l : Launch} {e : Env} {R : Room} {s : State} {m : MethodId} {args : Array Value} {below : List Frame} {meth : Method} {c : Code} {Q : State → Prop} {dC : Nat → ClassId} {dI : Nat → Nat → Nat} {nf : Nat} {A : Nat → Prop} {h0 : Nat} {r : Nat → Nat} {cA : Nat → ClassId}
variable {si : Nat → Int32} {sj : Nat → Int64} {sa : Nat → Nat → Int32} {sb : Nat → Nat → Int64} {r0 : Int32}
set_option maxHeartbeats 400000 in
set_option maxRecDepth 100000 in
theorem k_Mo_lettersLike_117 (C0 : Cx p s m meth c args R b_Mo_lettersLike "ZoneFilesModel" 7 (some .int) 0 0) (hST : ST (fun _ => False) s s.heap) (hK : va_K (dC, dI) classes (moT cA) s) (hP : va_P (dC, dI) classes (moW h0 r cA si sj sa sb) s.heap) (hE : ∀ (pc : Nat) (ls : Array Slot), decode b_Mo_lettersLike pc = .ok (.ireturn, 1) → narrow .int (.int r0) = .int r0 → W p l e R s m args below meth c s.heap [] 0 0 Q (F0 m pc ls [.int r0])) {K16 : Int32 → Int32 → Int32 → Int32 → Option (Int32)} (hK16 : ∀ {x4 : Int32} {x3 : Int32} {x2 : Int32} {x1 : Int32}, K16 x4 x3 x2 x1 = some r0 → ∀ {ls : Array Slot}, lv_has ls 7 [(4, .int x4), (3, .int x3), (2, .int x2), (0, .ref h0), (1, .int x1)] → W p l e R s m args below meth c s.heap [] 0 0 Q (F0 m 16 ls [])) {x5 : Int32} {x4 : Int32} {x3 : Int32} {x2 : Int32} {x1 : Int32} (hf : f_Mo_lettersLike_117 nf K16 x5 x4 x3 x2 x1 = some r0) {ls : Array Slot} (hl : lv_has ls 7 [(5, .int x5), (4, .int x4), (3, .int x3), (2, .int x2), (0, .ref h0), (1, .int x1)]) : W p l e R s m args below meth c s.heap [] 0 0 Q (F0 m 117 ls []) := by
  obtain ⟨hx, hb, hr, hml, hown, hts, hlocks, hRf, hRl⟩ := id C0
  obtain ⟨tms, hZms, hTms, tmg, hZmg, hTmg, hNW⟩ := id hST
  unfold f_Mo_lettersLike_117 at hf
  refine lv_iload hx hb d_Mo_lettersLike_117 (lv_at hl 0 rfl) ?_
  refine lv_if_eq (tgt := 125) hx hb d_Mo_lettersLike_119 (by decide) (fun c_7 => ?_) (fun c_7 => ?_)
  · have hf := it_t c_7 hf
    refine lv_iinc (v := x4 + 1) (lv' := [(4, .int (x4 + 1)), (5, .int x5), (3, .int x3), (2, .int x2), (0, .ref h0), (1, .int x1)]) hx hb d_Mo_lettersLike_125 hl (k := 1) rfl rfl (by decide) rfl (fun ls hl => ?_)
    refine lv_goto (tgt := 16) hx hb d_Mo_lettersLike_128 (by decide) ?_
    exact hK16 hf (lv_sub hl [0, 2, 3, 4, 5] rfl)
  · have hf := it_f c_7 hf
    refine lv_iload hx hb d_Mo_lettersLike_122 (lv_at hl 1 rfl) ?_
    cases rs hf
    exact hE _ _ d_Mo_lettersLike_124 rfl
set_option maxHeartbeats 400000 in
set_option maxRecDepth 100000 in
theorem k_Mo_lettersLike_109 (C0 : Cx p s m meth c args R b_Mo_lettersLike "ZoneFilesModel" 7 (some .int) 0 0) (hST : ST (fun _ => False) s s.heap) (hK : va_K (dC, dI) classes (moT cA) s) (hP : va_P (dC, dI) classes (moW h0 r cA si sj sa sb) s.heap) (hE : ∀ (pc : Nat) (ls : Array Slot), decode b_Mo_lettersLike pc = .ok (.ireturn, 1) → narrow .int (.int r0) = .int r0 → W p l e R s m args below meth c s.heap [] 0 0 Q (F0 m pc ls [.int r0])) {K16 : Int32 → Int32 → Int32 → Int32 → Option (Int32)} (hK16 : ∀ {x4 : Int32} {x3 : Int32} {x2 : Int32} {x1 : Int32}, K16 x4 x3 x2 x1 = some r0 → ∀ {ls : Array Slot}, lv_has ls 7 [(4, .int x4), (3, .int x3), (2, .int x2), (0, .ref h0), (1, .int x1)] → W p l e R s m args below meth c s.heap [] 0 0 Q (F0 m 16 ls [])) {K57 : Int32 → Int32 → Int32 → Int32 → Int32 → Int32 → Option (Int32)} (hK57 : ∀ {x6 : Int32} {x5 : Int32} {x4 : Int32} {x3 : Int32} {x2 : Int32} {x1 : Int32}, K57 x6 x5 x4 x3 x2 x1 = some r0 → ∀ {ls : Array Slot}, lv_has ls 7 [(6, .int x6), (5, .int x5), (4, .int x4), (3, .int x3), (2, .int x2), (0, .ref h0), (1, .int x1)] → W p l e R s m args below meth c s.heap [] 0 0 Q (F0 m 57 ls [])) {x6 : Int32} {x4 : Int32} {x3 : Int32} {x2 : Int32} {x1 : Int32} {s0 : Int32} (hf : f_Mo_lettersLike_109 nf K16 K57 x6 x4 x3 x2 x1 s0 = some r0) {ls : Array Slot} (hl : lv_has ls 7 [(6, .int x6), (4, .int x4), (3, .int x3), (2, .int x2), (0, .ref h0), (1, .int x1)]) : W p l e R s m args below meth c s.heap [] 0 0 Q (F0 m 109 ls [.int s0]) := by
  obtain ⟨hx, hb, hr, hml, hown, hts, hlocks, hRf, hRl⟩ := id C0
  obtain ⟨tms, hZms, hTms, tmg, hZmg, hTmg, hNW⟩ := id hST
  unfold f_Mo_lettersLike_109 at hf
  refine lv_istore (lv' := [(5, .int s0), (6, .int x6), (4, .int x4), (3, .int x3), (2, .int x2), (0, .ref h0), (1, .int x1)]) hx hb d_Mo_lettersLike_109 hl (by decide) rfl (fun ls hl => ?_)
  refine lv_iinc (v := x6 + 1) (lv' := [(6, .int (x6 + 1)), (5, .int s0), (4, .int x4), (3, .int x3), (2, .int x2), (0, .ref h0), (1, .int x1)]) hx hb d_Mo_lettersLike_111 hl (k := 1) rfl rfl (by decide) rfl (fun ls hl => ?_)
  refine lv_goto (tgt := 57) hx hb d_Mo_lettersLike_114 (by decide) ?_
  exact hK57 hf (lv_sub hl [0, 1, 2, 3, 4, 5, 6] rfl)
set_option maxHeartbeats 400000 in
set_option maxRecDepth 100000 in
theorem k_Mo_lettersLike_57 (C0 : Cx p s m meth c args R b_Mo_lettersLike "ZoneFilesModel" 7 (some .int) 0 0) (hST : ST (fun _ => False) s s.heap) (hK : va_K (dC, dI) classes (moT cA) s) (hP : va_P (dC, dI) classes (moW h0 r cA si sj sa sb) s.heap) (hE : ∀ (pc : Nat) (ls : Array Slot), decode b_Mo_lettersLike pc = .ok (.ireturn, 1) → narrow .int (.int r0) = .int r0 → W p l e R s m args below meth c s.heap [] 0 0 Q (F0 m pc ls [.int r0])) {K16 : Int32 → Int32 → Int32 → Int32 → Option (Int32)} (hK16 : ∀ {x4 : Int32} {x3 : Int32} {x2 : Int32} {x1 : Int32}, K16 x4 x3 x2 x1 = some r0 → ∀ {ls : Array Slot}, lv_has ls 7 [(4, .int x4), (3, .int x3), (2, .int x2), (0, .ref h0), (1, .int x1)] → W p l e R s m args below meth c s.heap [] 0 0 Q (F0 m 16 ls [])) : ∀ (n : Nat) {x6 : Int32} {x5 : Int32} {x4 : Int32} {x3 : Int32} {x2 : Int32} {x1 : Int32}, f_Mo_lettersLike_57 nf sa K16 n x6 x5 x4 x3 x2 x1 = some r0 → ∀ {ls : Array Slot}, lv_has ls 7 [(6, .int x6), (5, .int x5), (4, .int x4), (3, .int x3), (2, .int x2), (0, .ref h0), (1, .int x1)] → W p l e R s m args below meth c s.heap [] 0 0 Q (F0 m 57 ls []) := by
  obtain ⟨hx, hb, hr, hml, hown, hts, hlocks, hRf, hRl⟩ := id C0
  obtain ⟨tms, hZms, hTms, tmg, hZmg, hTmg, hNW⟩ := id hST
  intro n
  induction n with
  | zero =>
    intro x6 x5 x4 x3 x2 x1 hf
    exact absurd hf (by simp [f_Mo_lettersLike_57])
  | succ n ih =>
    intro x6 x5 x4 x3 x2 x1 hf ls hl
    unfold f_Mo_lettersLike_57 at hf
    refine lv_iload hx hb d_Mo_lettersLike_57 (lv_at hl 0 rfl) ?_
    refine lv_iload_n hx hb d_Mo_lettersLike_59 rfl (lv_at hl 3 rfl) ?_
    refine lv_icmp_ge (tgt := 117) hx hb d_Mo_lettersLike_60 (by decide) (fun c_6 => ?_) (fun c_6 => ?_)
    · have hf := it_t c_6 hf
      exact k_Mo_lettersLike_117 C0 hST hK hP hE hK16 hf (lv_sub hl [1, 2, 3, 4, 5, 6] rfl)
    · have hf := it_f c_6 hf
      refine lv_iload hx hb d_Mo_lettersLike_63 (lv_at hl 1 rfl) ?_
      refine lv_if_eq (tgt := 117) hx hb d_Mo_lettersLike_65 (by decide) (fun c_8 => ?_) (fun c_8 => ?_)
      · have hf := it_t c_8 hf
        exact k_Mo_lettersLike_117 C0 hST hK hP hE hK16 hf (lv_sub hl [1, 2, 3, 4, 5, 6] rfl)
      · have hf := it_f c_8 hf
        refine lv_aload_n hx hb d_Mo_lettersLike_68 rfl (lv_at hl 5 rfl) ?_
        refine mg_17 hx hb hts hown hK hP d_Mo_lettersLike_69 ?_
        refine lv_sipush (v := 200) hx hb d_Mo_lettersLike_72 (by decide) ?_
        refine lv_iload_n hx hb d_Mo_lettersLike_75 rfl (lv_at hl 4 rfl) ?_
        refine lv_imul hx hb d_Mo_lettersLike_76 ?_
        refine lv_iload hx hb d_Mo_lettersLike_77 (lv_at hl 2 rfl) ?_
        refine lv_iadd hx hb d_Mo_lettersLike_79 ?_
        refine lv_iload hx hb d_Mo_lettersLike_80 (lv_at hl 0 rfl) ?_
        refine lv_iadd hx hb d_Mo_lettersLike_82 ?_
        obtain ⟨c_9, hf⟩ := it_n hf
        refine ma_17 (v := sa 17 (((200 * x2) + x4) + x6).toNatClampNeg) hx hb hK hP c_9 rfl d_Mo_lettersLike_83 ?_
        refine lv_aload_n hx hb d_Mo_lettersLike_84 rfl (lv_at hl 5 rfl) ?_
        refine mg_26 hx hb hts hown hK hP d_Mo_lettersLike_85 ?_
        refine lv_bipush (v := 20) hx hb d_Mo_lettersLike_88 (by decide) ?_
        refine lv_iload_n hx hb d_Mo_lettersLike_90 rfl (lv_at hl 4 rfl) ?_
        refine lv_imul hx hb d_Mo_lettersLike_91 ?_
        refine lv_bipush (v := 10) hx hb d_Mo_lettersLike_92 (by decide) ?_
        refine lv_iload_n hx hb d_Mo_lettersLike_94 rfl (lv_at hl 6 rfl) ?_
        refine lv_imul hx hb d_Mo_lettersLike_95 ?_
        refine lv_iadd hx hb d_Mo_lettersLike_96 ?_
        refine lv_iload hx hb d_Mo_lettersLike_97 (lv_at hl 0 rfl) ?_
        refine lv_iadd hx hb d_Mo_lettersLike_99 ?_
        obtain ⟨c_10, hf⟩ := it_n hf
        refine ma_26 (v := sa 26 (((20 * x2) + (10 * x1)) + x6).toNatClampNeg) hx hb hK hP c_10 rfl d_Mo_lettersLike_100 ?_
        refine lv_icmp_ne (tgt := 108) hx hb d_Mo_lettersLike_101 (by decide) (fun c_11 => ?_) (fun c_11 => ?_)
        · have hf := it_f c_11 hf
          refine lv_iconst (v := 0) hx hb d_Mo_lettersLike_108 (by decide) ?_
          exact k_Mo_lettersLike_109 C0 hST hK hP hE hK16 (fun hf => ih hf) hf (lv_sub hl [0, 2, 3, 4, 5, 6] rfl)
        · have hf := it_t c_11 hf
          refine lv_iconst (v := 1) hx hb d_Mo_lettersLike_104 (by decide) ?_
          refine lv_goto (tgt := 109) hx hb d_Mo_lettersLike_105 (by decide) ?_
          exact k_Mo_lettersLike_109 C0 hST hK hP hE hK16 (fun hf => ih hf) hf (lv_sub hl [0, 2, 3, 4, 5, 6] rfl)
set_option maxHeartbeats 400000 in
set_option maxRecDepth 100000 in
theorem k_Mo_lettersLike_52 (C0 : Cx p s m meth c args R b_Mo_lettersLike "ZoneFilesModel" 7 (some .int) 0 0) (hST : ST (fun _ => False) s s.heap) (hK : va_K (dC, dI) classes (moT cA) s) (hP : va_P (dC, dI) classes (moW h0 r cA si sj sa sb) s.heap) (hE : ∀ (pc : Nat) (ls : Array Slot), decode b_Mo_lettersLike pc = .ok (.ireturn, 1) → narrow .int (.int r0) = .int r0 → W p l e R s m args below meth c s.heap [] 0 0 Q (F0 m pc ls [.int r0])) {K16 : Int32 → Int32 → Int32 → Int32 → Option (Int32)} (hK16 : ∀ {x4 : Int32} {x3 : Int32} {x2 : Int32} {x1 : Int32}, K16 x4 x3 x2 x1 = some r0 → ∀ {ls : Array Slot}, lv_has ls 7 [(4, .int x4), (3, .int x3), (2, .int x2), (0, .ref h0), (1, .int x1)] → W p l e R s m args below meth c s.heap [] 0 0 Q (F0 m 16 ls [])) {x4 : Int32} {x3 : Int32} {x2 : Int32} {x1 : Int32} {s0 : Int32} (hf : f_Mo_lettersLike_52 nf sa K16 x4 x3 x2 x1 s0 = some r0) {ls : Array Slot} (hl : lv_has ls 7 [(4, .int x4), (3, .int x3), (2, .int x2), (0, .ref h0), (1, .int x1)]) : W p l e R s m args below meth c s.heap [] 0 0 Q (F0 m 52 ls [.int s0]) := by
  obtain ⟨hx, hb, hr, hml, hown, hts, hlocks, hRf, hRl⟩ := id C0
  obtain ⟨tms, hZms, hTms, tmg, hZmg, hTmg, hNW⟩ := id hST
  unfold f_Mo_lettersLike_52 at hf
  refine lv_istore (lv' := [(5, .int s0), (4, .int x4), (3, .int x3), (2, .int x2), (0, .ref h0), (1, .int x1)]) hx hb d_Mo_lettersLike_52 hl (by decide) rfl (fun ls hl => ?_)
  refine lv_iconst (v := 0) hx hb d_Mo_lettersLike_54 (by decide) ?_
  refine lv_istore (lv' := [(6, .int 0), (5, .int s0), (4, .int x4), (3, .int x3), (2, .int x2), (0, .ref h0), (1, .int x1)]) hx hb d_Mo_lettersLike_55 hl (by decide) rfl (fun ls hl => ?_)
  exact k_Mo_lettersLike_57 C0 hST hK hP hE hK16 nf hf (lv_sub hl [0, 1, 2, 3, 4, 5, 6] rfl)
set_option maxHeartbeats 400000 in
set_option maxRecDepth 100000 in
theorem k_Mo_lettersLike_16 (C0 : Cx p s m meth c args R b_Mo_lettersLike "ZoneFilesModel" 7 (some .int) 0 0) (hST : ST (fun _ => False) s s.heap) (hK : va_K (dC, dI) classes (moT cA) s) (hP : va_P (dC, dI) classes (moW h0 r cA si sj sa sb) s.heap) (hE : ∀ (pc : Nat) (ls : Array Slot), decode b_Mo_lettersLike pc = .ok (.ireturn, 1) → narrow .int (.int r0) = .int r0 → W p l e R s m args below meth c s.heap [] 0 0 Q (F0 m pc ls [.int r0])) : ∀ (n : Nat) {x4 : Int32} {x3 : Int32} {x2 : Int32} {x1 : Int32}, f_Mo_lettersLike_16 nf sa n x4 x3 x2 x1 = some r0 → ∀ {ls : Array Slot}, lv_has ls 7 [(4, .int x4), (3, .int x3), (2, .int x2), (0, .ref h0), (1, .int x1)] → W p l e R s m args below meth c s.heap [] 0 0 Q (F0 m 16 ls []) := by
  obtain ⟨hx, hb, hr, hml, hown, hts, hlocks, hRf, hRl⟩ := id C0
  obtain ⟨tms, hZms, hTms, tmg, hZmg, hTmg, hNW⟩ := id hST
  intro n
  induction n with
  | zero =>
    intro x4 x3 x2 x1 hf
    exact absurd hf (by simp [f_Mo_lettersLike_16])
  | succ n ih =>
    intro x4 x3 x2 x1 hf ls hl
    unfold f_Mo_lettersLike_16 at hf
    refine lv_iload hx hb d_Mo_lettersLike_16 (lv_at hl 0 rfl) ?_
    refine lv_iload_n hx hb d_Mo_lettersLike_18 rfl (lv_at hl 1 rfl) ?_
    refine lv_iadd hx hb d_Mo_lettersLike_19 ?_
    refine lv_aload_n hx hb d_Mo_lettersLike_20 rfl (lv_at hl 3 rfl) ?_
    refine mg_7 hx hb hts hown hK hP d_Mo_lettersLike_21 ?_
    refine lv_iload_n hx hb d_Mo_lettersLike_24 rfl (lv_at hl 2 rfl) ?_
    obtain ⟨c_2, hf⟩ := it_n hf
    refine ma_7 (v := sa 7 x2.toNatClampNeg) hx hb hK hP c_2 rfl d_Mo_lettersLike_25 ?_
    refine lv_icmp_ge (tgt := 131) hx hb d_Mo_lettersLike_26 (by decide) (fun c_3 => ?_) (fun c_3 => ?_)
    · have hf := it_t c_3 hf
      refine lv_iconst (v := -1) hx hb d_Mo_lettersLike_131 (by decide) ?_
      cases rs hf
      exact hE _ _ d_Mo_lettersLike_132 rfl
    · have hf := it_f c_3 hf
      refine lv_aload_n hx hb d_Mo_lettersLike_29 rfl (lv_at hl 3 rfl) ?_
      refine mg_17 hx hb hts hown hK hP d_Mo_lettersLike_30 ?_
      refine lv_sipush (v := 200) hx hb d_Mo_lettersLike_33 (by decide) ?_
      refine lv_iload_n hx hb d_Mo_lettersLike_36 rfl (lv_at hl 2 rfl) ?_
      refine lv_imul hx hb d_Mo_lettersLike_37 ?_
      refine lv_iload hx hb d_Mo_lettersLike_38 (lv_at hl 0 rfl) ?_
      refine lv_iadd hx hb d_Mo_lettersLike_40 ?_
      refine lv_iload_n hx hb d_Mo_lettersLike_41 rfl (lv_at hl 1 rfl) ?_
      refine lv_iadd hx hb d_Mo_lettersLike_42 ?_
      obtain ⟨c_4, hf⟩ := it_n hf
      refine ma_17 (v := sa 17 (((200 * x2) + x4) + x3).toNatClampNeg) hx hb hK hP c_4 rfl d_Mo_lettersLike_43 ?_
      refine lv_if_ne (tgt := 51) hx hb d_Mo_lettersLike_44 (by decide) (fun c_5 => ?_) (fun c_5 => ?_)
      · have hf := it_f c_5 hf
        refine lv_iconst (v := 0) hx hb d_Mo_lettersLike_51 (by decide) ?_
        exact k_Mo_lettersLike_52 C0 hST hK hP hE (fun hf => ih hf) hf (lv_sub hl [0, 1, 2, 3, 4] rfl)
      · have hf := it_t c_5 hf
        refine lv_iconst (v := 1) hx hb d_Mo_lettersLike_47 (by decide) ?_
        refine lv_goto (tgt := 52) hx hb d_Mo_lettersLike_48 (by decide) ?_
        exact k_Mo_lettersLike_52 C0 hST hK hP hE (fun hf => ih hf) hf (lv_sub hl [0, 1, 2, 3, 4] rfl)
set_option maxHeartbeats 400000 in
set_option maxRecDepth 100000 in
theorem k_Mo_lettersLike_0 (C0 : Cx p s m meth c args R b_Mo_lettersLike "ZoneFilesModel" 7 (some .int) 0 0) (hST : ST (fun _ => False) s s.heap) (hK : va_K (dC, dI) classes (moT cA) s) (hP : va_P (dC, dI) classes (moW h0 r cA si sj sa sb) s.heap) (hE : ∀ (pc : Nat) (ls : Array Slot), decode b_Mo_lettersLike pc = .ok (.ireturn, 1) → narrow .int (.int r0) = .int r0 → W p l e R s m args below meth c s.heap [] 0 0 Q (F0 m pc ls [.int r0])) {x1 : Int32} (hf : f_Mo_lettersLike_0 nf sa x1 = some r0) {ls : Array Slot} (hl : lv_has ls 7 [(0, .ref h0), (1, .int x1)]) : W p l e R s m args below meth c s.heap [] 0 0 Q (F0 m 0 ls []) := by
  obtain ⟨hx, hb, hr, hml, hown, hts, hlocks, hRf, hRl⟩ := id C0
  obtain ⟨tms, hZms, hTms, tmg, hZmg, hTmg, hNW⟩ := id hST
  unfold f_Mo_lettersLike_0 at hf
  refine lv_iconst (v := 4) hx hb d_Mo_lettersLike_0 (by decide) ?_
  refine lv_istore_n (lv' := [(2, .int 4), (0, .ref h0), (1, .int x1)]) hx hb d_Mo_lettersLike_1 rfl hl (by decide) rfl (fun ls hl => ?_)
  refine lv_aload_n hx hb d_Mo_lettersLike_2 rfl (lv_at hl 1 rfl) ?_
  refine mg_25 hx hb hts hown hK hP d_Mo_lettersLike_3 ?_
  refine lv_iconst (v := 2) hx hb d_Mo_lettersLike_6 (by decide) ?_
  refine lv_iload_n hx hb d_Mo_lettersLike_7 rfl (lv_at hl 0 rfl) ?_
  refine lv_imul hx hb d_Mo_lettersLike_8 ?_
  refine lv_iload_n hx hb d_Mo_lettersLike_9 rfl (lv_at hl 2 rfl) ?_
  refine lv_iadd hx hb d_Mo_lettersLike_10 ?_
  obtain ⟨c_1, hf⟩ := it_n hf
  refine ma_25 (v := sa 25 ((2 * 4) + x1).toNatClampNeg) hx hb hK hP c_1 rfl d_Mo_lettersLike_11 ?_
  refine lv_istore_n (lv' := [(3, .int (sa 25 ((2 * 4) + x1).toNatClampNeg)), (2, .int 4), (0, .ref h0), (1, .int x1)]) hx hb d_Mo_lettersLike_12 rfl hl (by decide) rfl (fun ls hl => ?_)
  refine lv_iconst (v := 0) hx hb d_Mo_lettersLike_13 (by decide) ?_
  refine lv_istore (lv' := [(4, .int 0), (3, .int (sa 25 ((2 * 4) + x1).toNatClampNeg)), (2, .int 4), (0, .ref h0), (1, .int x1)]) hx hb d_Mo_lettersLike_14 hl (by decide) rfl (fun ls hl => ?_)
  exact k_Mo_lettersLike_16 C0 hST hK hP hE nf hf (lv_sub hl [0, 1, 2, 3, 4] rfl)
end
set_option maxHeartbeats 400000 in
set_option maxRecDepth 100000 in
theorem c_Mo_lettersLike (l : Launch) (dC : Nat → ClassId) (dI : Nat → Nat → Nat) (h0 : Nat) (r : Nat → Nat) (cA : Nat → ClassId) (nf : Nat) (p0 : Int32) (si : Nat → Int32) (sj : Nat → Int64) (sa : Nat → Nat → Int32) (sb : Nat → Nat → Int64) {r0 : Int32} (hf : f_Mo_lettersLike nf p0 si sj sa sb = some r0) : Met l y_Mo_lettersLike (wd y_Mo_lettersLike b_Mo_lettersLike 7 (some .int)) ({ frames := 0, cells := 0, slots := 0, locals := 0 }) (RO dC dI (moW h0 r cA si sj sa sb) (moT cA) [.ref h0, .int p0]) (SV (some (.int r0))) 0 0 (fun _ => False) :=
  met_S (plainFor_of_name (by decide)) (Nat.le_of_ble_eq_true rfl) (fun p e R s m args below meth c ls C0 hST hK hP hl => by
    obtain ⟨hx, hb, hr, hml, hown, hts, hlocks, hRf, hRl⟩ := id C0
    unfold f_Mo_lettersLike at hf
    exact k_Mo_lettersLike_0 C0 hST hK hP (fun pc ls hd hn => W.zret hx hb hr hn (fun t ht hW => ⟨rfl, ht⟩) (fun q h => by cases h) hd) hf (lv_sub hl [0, 1] rfl))
-- ZoneFilesModel.addTime(JI)Z
def f_Mo_addTime_255 (nf : Nat) (x5 : Int32) (x4 : Int32) (x1 : Int64) (si : Nat → Int32) (sj : Nat → Int64) (sa : Nat → Nat → Int32) (sb : Nat → Nat → Int64) : Option (Int32 × (Nat → Int32) × (Nat → Int64) × (Nat → Nat → Int32) × (Nat → Nat → Int64)) :=
  if x4 < 0 ∨ 5 ≤ x4.toNatClampNeg then none else
  if ((200 * x4) + (sa 5 x4.toNatClampNeg)) < 0 ∨ 1000 ≤ ((200 * x4) + (sa 5 x4.toNatClampNeg)).toNatClampNeg then none else
  if x4 < 0 ∨ 5 ≤ x4.toNatClampNeg then none else
  if ((200 * x4) + (sa 5 x4.toNatClampNeg)) < 0 ∨ 1000 ≤ ((200 * x4) + (sa 5 x4.toNatClampNeg)).toNatClampNeg then none else
  if x4 < 0 ∨ 5 ≤ x4.toNatClampNeg then none else
  if x4 < 0 ∨ 5 ≤ x4.toNatClampNeg then none else
  some (1, si, sj, va_up (va_up sa 13 (upd (sa 13) ((200 * x4) + (sa 5 x4.toNatClampNeg)).toNatClampNeg x5)) 5 (upd (sa 5) x4.toNatClampNeg ((sa 5 x4.toNatClampNeg) + 1)), va_up sb 12 (vp_updL (sb 12) ((200 * x4) + (sa 5 x4.toNatClampNeg)).toNatClampNeg x1))
def f_Mo_addTime_81 (nf : Nat) (si : Nat → Int32) (sj : Nat → Int64) (sa : Nat → Nat → Int32) (sb : Nat → Nat → Int64) : Option (Int32 × (Nat → Int32) × (Nat → Int64) × (Nat → Nat → Int32) × (Nat → Nat → Int64)) :=
  some (0, si, sj, sa, sb)
def f_Mo_addTime_253 (nf : Nat) (x5 : Int32) (x4 : Int32) (x1 : Int64) (s0 : Int32) (s1 : Int32) (s2 : Int32) (si : Nat → Int32) (sj : Nat → Int64) (sa : Nat → Nat → Int32) (sb : Nat → Nat → Int64) : Option (Int32 × (Nat → Int32) × (Nat → Int64) × (Nat → Nat → Int32) × (Nat → Nat → Int64)) :=
  if s2 < 0 ∨ 5 ≤ s2.toNatClampNeg then none else
  f_Mo_addTime_255 nf x5 x4 x1 si sj (va_up sa 10 (upd (sa 10) s2.toNatClampNeg (s1 + s0))) sb
def f_Mo_addTime_228 (nf : Nat) (x5 : Int32) (x4 : Int32) (x1 : Int64) (s0 : Int32) (s1 : Int32) (s2 : Int32) (si : Nat → Int32) (sj : Nat → Int64) (sa : Nat → Nat → Int32) (sb : Nat → Nat → Int64) : Option (Int32 × (Nat → Int32) × (Nat → Int64) × (Nat → Nat → Int32) × (Nat → Nat → Int64)) :=
  if s2 < 0 ∨ 5 ≤ s2.toNatClampNeg then none else
  if x4 < 0 ∨ 5 ≤ x4.toNatClampNeg then none else
  if x4 < 0 ∨ 5 ≤ x4.toNatClampNeg then none else
  if (sa 10 x4.toNatClampNeg) ≤ 0 then
  f_Mo_addTime_253 nf x5 x4 x1 0 (sa 10 x4.toNatClampNeg) x4 si sj (va_up sa 9 (upd (sa 9) s2.toNatClampNeg (s1 + s0))) sb
  else
  f_Mo_addTime_253 nf x5 x4 x1 1 (sa 10 x4.toNatClampNeg) x4 si sj (va_up sa 9 (upd (sa 9) s2.toNatClampNeg (s1 + s0))) sb
def f_Mo_addTime_124 (nf : Nat) (x5 : Int32) (x6 : Int32) (x4 : Int32) (x1 : Int64) (x3 : Int32) (si : Nat → Int32) (sj : Nat → Int64) (sa : Nat → Nat → Int32) (sb : Nat → Nat → Int64) : Option (Int32 × (Nat → Int32) × (Nat → Int64) × (Nat → Nat → Int32) × (Nat → Nat → Int64)) :=
  if ((2 * x4) + x3) < 0 ∨ 10 ≤ ((2 * x4) + x3).toNatClampNeg then none else
  if ((40 * x4) + x5) < 0 ∨ 200 ≤ ((40 * x4) + x5).toNatClampNeg then none else
  if ((40 * x4) + x5) < 0 ∨ 200 ≤ ((40 * x4) + x5).toNatClampNeg then none else
  if ((40 * x4) + x5) < 0 ∨ 200 ≤ ((40 * x4) + x5).toNatClampNeg then none else
  if ((40 * x4) + x5) < 0 ∨ 200 ≤ ((40 * x4) + x5).toNatClampNeg then none else
  if ((40 * x4) + x5) < 0 ∨ 200 ≤ ((40 * x4) + x5).toNatClampNeg then none else
  if x4 < 0 ∨ 5 ≤ x4.toNatClampNeg then none else
  if x4 < 0 ∨ 5 ≤ x4.toNatClampNeg then none else
  if (sa 9 x4.toNatClampNeg) ≤ 0 then
  f_Mo_addTime_228 nf x5 x4 x1 0 (sa 9 x4.toNatClampNeg) x4 si sj (va_up (va_up (va_up (va_up (va_up sa 14 (upd (sa 14) ((40 * x4) + x5).toNatClampNeg (sa 24 ((2 * x4) + x3).toNatClampNeg))) 15 (upd (sa 15) ((40 * x4) + x5).toNatClampNeg x3)) 16 (upd (sa 16) ((40 * x4) + x5).toNatClampNeg x6)) 20 (upd (sa 20) ((40 * x4) + x5).toNatClampNeg 0)) 21 (upd (sa 21) ((40 * x4) + x5).toNatClampNeg 0)) sb
  else
  f_Mo_addTime_228 nf x5 x4 x1 1 (sa 9 x4.toNatClampNeg) x4 si sj (va_up (va_up (va_up (va_up (va_up sa 14 (upd (sa 14) ((40 * x4) + x5).toNatClampNeg (sa 24 ((2 * x4) + x3).toNatClampNeg))) 15 (upd (sa 15) ((40 * x4) + x5).toNatClampNeg x3)) 16 (upd (sa 16) ((40 * x4) + x5).toNatClampNeg x6)) 20 (upd (sa 20) ((40 * x4) + x5).toNatClampNeg 0)) 21 (upd (sa 21) ((40 * x4) + x5).toNatClampNeg 0)) sb
def f_Mo_addTime_83 (nf : Nat) (x6 : Int32) (x4 : Int32) (x1 : Int64) (x3 : Int32) (si : Nat → Int32) (sj : Nat → Int64) (sa : Nat → Nat → Int32) (sb : Nat → Nat → Int64) : Option (Int32 × (Nat → Int32) × (Nat → Int64) × (Nat → Nat → Int32) × (Nat → Nat → Int64)) :=
  if x4 < 0 ∨ 5 ≤ x4.toNatClampNeg then none else
  if x4 < 0 ∨ 5 ≤ x4.toNatClampNeg then none else
  if x4 < 0 ∨ 5 ≤ x4.toNatClampNeg then none else
  if 0 ≤ x6 then
  f_Mo_addTime_124 nf (sa 6 x4.toNatClampNeg) x6 x4 x1 x3 si sj (va_up sa 6 (upd (sa 6) x4.toNatClampNeg ((sa 6 x4.toNatClampNeg) + 1))) sb
  else
  if x4 < 0 ∨ 5 ≤ x4.toNatClampNeg then none else
    (f_Mo_addName nf x4 x3 si sj (va_up sa 6 (upd (sa 6) x4.toNatClampNeg ((sa 6 x4.toNatClampNeg) + 1))) sb).bind fun (i_38, j_39, a_40, b_41) =>
    f_Mo_addTime_124 nf (sa 6 x4.toNatClampNeg) (sa 7 x4.toNatClampNeg) x4 x1 x3 i_38 j_39 a_40 b_41
def f_Mo_addTime_0 (nf : Nat) (x1 : Int64) (x3 : Int32) (si : Nat → Int32) (sj : Nat → Int64) (sa : Nat → Nat → Int32) (sb : Nat → Nat → Int64) : Option (Int32 × (Nat → Int32) × (Nat → Int64) × (Nat → Nat → Int32) × (Nat → Nat → Int64)) :=
  if (4 : Int32) < 0 ∨ 5 ≤ (4 : Int32).toNatClampNeg then none else
  if (sa 5 (4 : Int32).toNatClampNeg) = (200 : Int32) then
  some (0, si, sj, sa, sb)
  else
  (f_Mo_typeLike nf x3 si sj sa sb).bind fun (z_7, i_3, j_4, a_5, b_6) =>
    if 0 ≤ z_7 then
    f_Mo_addTime_255 nf z_7 4 x1 i_3 j_4 a_5 b_6
    else
    (f_Mo_lettersLike nf x3 i_3 j_4 a_5 b_6).bind fun r_15 =>
      if (4 : Int32) < 0 ∨ 5 ≤ (4 : Int32).toNatClampNeg then none else
      if (a_5 6 (4 : Int32).toNatClampNeg) = (40 : Int32) then
      f_Mo_addTime_81 nf i_3 j_4 a_5 b_6
      else
      if 0 ≤ r_15 then
        f_Mo_addTime_83 nf r_15 4 x1 x3 i_3 j_4 a_5 b_6
        else
        if (4 : Int32) < 0 ∨ 5 ≤ (4 : Int32).toNatClampNeg then none else
          if ((2 * 4) + x3) < 0 ∨ 10 ≤ ((2 * 4) + x3).toNatClampNeg then none else
          if (((a_5 7 (4 : Int32).toNatClampNeg) + (a_5 25 ((2 * 4) + x3).toNatClampNeg)) + 1) ≤ (200 : Int32) then
          f_Mo_addTime_83 nf r_15 4 x1 x3 i_3 j_4 a_5 b_6
          else
          f_Mo_addTime_81 nf i_3 j_4 a_5 b_6
def f_Mo_addTime (nf : Nat) (p0 : Int64) (p1 : Int32) (si : Nat → Int32) (sj : Nat → Int64) (sa : Nat → Nat → Int32) (sb : Nat → Nat → Int64) : Option (Int32 × (Nat → Int32) × (Nat → Int64) × (Nat → Nat → Int32) × (Nat → Nat → Int64)) :=
  f_Mo_addTime_0 nf p0 p1 si sj sa sb
section
variable {p : Program} {l : Launch} {e : Env} {R : Room} {s : State} {m : MethodId} {args : Array Value} {below : List Frame} {meth : Method} {c : Code} {Q : State → Prop} {dC : Nat → ClassId} {dI : Nat → Nat → Nat} {nf : Nat} {A : Nat → Prop} {h0 : Nat} {r : Nat → Nat} {cA : Nat → ClassId}
variable {r0 : Int32} {vi : Nat → Int32} {vj : Nat → Int64} {va : Nat → Nat → Int32} {vb : Nat → Nat → Int64}
set_option maxHeartbeats 400000 in
set_option maxRecDepth 100000 in
theorem k_Mo_addTime_255 (C0 : Cx p s m meth c args R b_Mo_addTime "ZoneFilesModel" 7 (some .boolean) 3 72) (hST : ST A s s.heap) (hA : ∀ q, s.heap.size ≤ q → A q) (hK : va_K (dC, dI) classes (moT cA) s) (hE : ∀ (pc : Nat) (ls : Array Slot) (H : Heap) (locs : List Loc), decode b_Mo_addTime pc = .ok (.ireturn, 1) → narrow .boolean (.int r0) = .int r0 → va_P (dC, dI) classes (moW h0 r cA vi vj va vb) H → va_D A (moW h0 r cA vi vj va vb) → va_S A s.heap H locs → W p l e R s m args below meth c H locs 0 0 Q (F0 m pc ls [.int r0])) {x5 : Int32} {x4 : Int32} {x1 : Int64} {si : Nat → Int32} {sj : Nat → Int64} {sa : Nat → Nat → Int32} {sb : Nat → Nat → Int64} (hf : f_Mo_addTime_255 nf x5 x4 x1 si sj sa sb = some (r0, vi, vj, va, vb)) {H : Heap} {locs : List Loc} {ls : Array Slot} (hP : va_P (dC, dI) classes (moW h0 r cA si sj sa sb) H) (hD : va_D A (moW h0 r cA si sj sa sb)) (hS : va_S A s.heap H locs) (hl : lv_has ls 7 [(5, .int x5), (4, .int x4), (0, .ref h0), (1, .long x1)]) : W p l e R s m args below meth c H locs 0 0 Q (F0 m 255 ls []) := by
  obtain ⟨hx, hb, hr, hml, hown, hts, hlocks, hRf, hRl⟩ := id C0
  unfold f_Mo_addTime_255 at hf
  refine lv_aload_n hx hb d_Mo_addTime_255 rfl (lv_at hl 2 rfl) ?_
  refine mg_12 hx hb hts hown hK hP d_Mo_addTime_256 ?_
  refine lv_sipush (v := 200) hx hb d_Mo_addTime_259 (by decide) ?_
  refine lv_iload hx hb d_Mo_addTime_262 (lv_at hl 1 rfl) ?_
  refine lv_imul hx hb d_Mo_addTime_264 ?_
  refine lv_aload_n hx hb d_Mo_addTime_265 rfl (lv_at hl 2 rfl) ?_
  refine mg_5 hx hb hts hown hK hP d_Mo_addTime_266 ?_
  refine lv_iload hx hb d_Mo_addTime_269 (lv_at hl 1 rfl) ?_
  obtain ⟨c_9, hf⟩ := it_n hf
  refine ma_5 (v := sa 5 x4.toNatClampNeg) hx hb hK hP c_9 rfl d_Mo_addTime_271 ?_
  refine lv_iadd hx hb d_Mo_addTime_272 ?_
  refine lv_lload_n hx hb d_Mo_addTime_273 rfl (lv_at hl 3 rfl) ?_
  obtain ⟨c_10, hf⟩ := it_n hf
  refine mz_12 hx hb hK hP hD hS c_10 d_Mo_addTime_274 (fun H locs hP hD hS => ?_)
  refine lv_aload_n hx hb d_Mo_addTime_275 rfl (lv_at hl 2 rfl) ?_
  refine mg_13 hx hb hts hown hK hP d_Mo_addTime_276 ?_
  refine lv_sipush (v := 200) hx hb d_Mo_addTime_279 (by decide) ?_
  refine lv_iload hx hb d_Mo_addTime_282 (lv_at hl 1 rfl) ?_
  refine lv_imul hx hb d_Mo_addTime_284 ?_
  refine lv_aload_n hx hb d_Mo_addTime_285 rfl (lv_at hl 2 rfl) ?_
  refine mg_5 hx hb hts hown hK hP d_Mo_addTime_286 ?_
  refine lv_iload hx hb d_Mo_addTime_289 (lv_at hl 1 rfl) ?_
  obtain ⟨c_11, hf⟩ := it_n hf
  refine ma_5 (v := sa 5 x4.toNatClampNeg) hx hb hK hP c_11 rfl d_Mo_addTime_291 ?_
  refine lv_iadd hx hb d_Mo_addTime_292 ?_
  refine lv_iload hx hb d_Mo_addTime_293 (lv_at hl 0 rfl) ?_
  obtain ⟨c_12, hf⟩ := it_n hf
  refine mz_13 hx hb hK hP hD hS c_12 d_Mo_addTime_295 (fun H locs hP hD hS => ?_)
  refine lv_aload_n hx hb d_Mo_addTime_296 rfl (lv_at hl 2 rfl) ?_
  refine mg_5 hx hb hts hown hK hP d_Mo_addTime_297 ?_
  refine lv_iload hx hb d_Mo_addTime_300 (lv_at hl 1 rfl) ?_
  refine lv_dup2_11 hx hb d_Mo_addTime_302 rfl rfl ?_
  obtain ⟨c_13, hf⟩ := it_n hf
  refine ma_5 (v := sa 5 x4.toNatClampNeg) hx hb hK hP c_13 rfl d_Mo_addTime_303 ?_
  refine lv_iconst (v := 1) hx hb d_Mo_addTime_304 (by decide) ?_
  refine lv_iadd hx hb d_Mo_addTime_305 ?_
  obtain ⟨c_14, hf⟩ := it_n hf
  refine mz_5 hx hb hK hP hD hS c_14 d_Mo_addTime_306 (fun H locs hP hD hS => ?_)
  refine lv_iconst (v := 1) hx hb d_Mo_addTime_307 (by decide) ?_
  cases rs hf
  exact hE _ _ _ _ d_Mo_addTime_308 rfl hP hD hS
set_option maxHeartbeats 400000 in
set_option maxRecDepth 100000 in
theorem k_Mo_addTime_81 (C0 : Cx p s m meth c args R b_Mo_addTime "ZoneFilesModel" 7 (some .boolean) 3 72) (hST : ST A s s.heap) (hA : ∀ q, s.heap.size ≤ q → A q) (hK : va_K (dC, dI) classes (moT cA) s) (hE : ∀ (pc : Nat) (ls : Array Slot) (H : Heap) (locs : List Loc), decode b_Mo_addTime pc = .ok (.ireturn, 1) → narrow .boolean (.int r0) = .int r0 → va_P (dC, dI) classes (moW h0 r cA vi vj va vb) H → va_D A (moW h0 r cA vi vj va vb) → va_S A s.heap H locs → W p l e R s m args below meth c H locs 0 0 Q (F0 m pc ls [.int r0])) {si : Nat → Int32} {sj : Nat → Int64} {sa : Nat → Nat → Int32} {sb : Nat → Nat → Int64} (hf : f_Mo_addTime_81 nf si sj sa sb = some (r0, vi, vj, va, vb)) {H : Heap} {locs : List Loc} {ls : Array Slot} (hP : va_P (dC, dI) classes (moW h0 r cA si sj sa sb) H) (hD : va_D A (moW h0 r cA si sj sa sb)) (hS : va_S A s.heap H locs) (hl : lv_has ls 7 []) : W p l e R s m args below meth c H locs 0 0 Q (F0 m 81 ls []) := by
  obtain ⟨hx, hb, hr, hml, hown, hts, hlocks, hRf, hRl⟩ := id C0
  unfold f_Mo_addTime_81 at hf
  refine lv_iconst (v := 0) hx hb d_Mo_addTime_81 (by decide) ?_
  cases rs hf
  exact hE _ _ _ _ d_Mo_addTime_82 rfl hP hD hS
set_option maxHeartbeats 400000 in
set_option maxRecDepth 100000 in
theorem k_Mo_addTime_253 (C0 : Cx p s m meth c args R b_Mo_addTime "ZoneFilesModel" 7 (some .boolean) 3 72) (hST : ST A s s.heap) (hA : ∀ q, s.heap.size ≤ q → A q) (hK : va_K (dC, dI) classes (moT cA) s) (hE : ∀ (pc : Nat) (ls : Array Slot) (H : Heap) (locs : List Loc), decode b_Mo_addTime pc = .ok (.ireturn, 1) → narrow .boolean (.int r0) = .int r0 → va_P (dC, dI) classes (moW h0 r cA vi vj va vb) H → va_D A (moW h0 r cA vi vj va vb) → va_S A s.heap H locs → W p l e R s m args below meth c H locs 0 0 Q (F0 m pc ls [.int r0])) {x5 : Int32} {x4 : Int32} {x1 : Int64} {s0 : Int32} {s1 : Int32} {s2 : Int32} {si : Nat → Int32} {sj : Nat → Int64} {sa : Nat → Nat → Int32} {sb : Nat → Nat → Int64} (hf : f_Mo_addTime_253 nf x5 x4 x1 s0 s1 s2 si sj sa sb = some (r0, vi, vj, va, vb)) {H : Heap} {locs : List Loc} {ls : Array Slot} (hP : va_P (dC, dI) classes (moW h0 r cA si sj sa sb) H) (hD : va_D A (moW h0 r cA si sj sa sb)) (hS : va_S A s.heap H locs) (hl : lv_has ls 7 [(5, .int x5), (4, .int x4), (0, .ref h0), (1, .long x1)]) : W p l e R s m args below meth c H locs 0 0 Q (F0 m 253 ls [.int s0, .int s1, .int s2, .ref (r 10)]) := by
  obtain ⟨hx, hb, hr, hml, hown, hts, hlocks, hRf, hRl⟩ := id C0
  unfold f_Mo_addTime_253 at hf
  refine lv_iadd hx hb d_Mo_addTime_253 ?_
  obtain ⟨c_36, hf⟩ := it_n hf
  refine mz_10 hx hb hK hP hD hS c_36 d_Mo_addTime_254 (fun H locs hP hD hS => ?_)
  exact k_Mo_addTime_255 C0 hST hA hK hE hf hP hD hS (lv_sub hl [0, 1, 2, 3] rfl)
set_option maxHeartbeats 400000 in
set_option maxRecDepth 100000 in
theorem k_Mo_addTime_228 (C0 : Cx p s m meth c args R b_Mo_addTime "ZoneFilesModel" 7 (some .boolean) 3 72) (hST : ST A s s.heap) (hA : ∀ q, s.heap.size ≤ q → A q) (hK : va_K (dC, dI) classes (moT cA) s) (hE : ∀ (pc : Nat) (ls : Array Slot) (H : Heap) (locs : List Loc), decode b_Mo_addTime pc = .ok (.ireturn, 1) → narrow .boolean (.int r0) = .int r0 → va_P (dC, dI) classes (moW h0 r cA vi vj va vb) H → va_D A (moW h0 r cA vi vj va vb) → va_S A s.heap H locs → W p l e R s m args below meth c H locs 0 0 Q (F0 m pc ls [.int r0])) {x5 : Int32} {x4 : Int32} {x1 : Int64} {s0 : Int32} {s1 : Int32} {s2 : Int32} {si : Nat → Int32} {sj : Nat → Int64} {sa : Nat → Nat → Int32} {sb : Nat → Nat → Int64} (hf : f_Mo_addTime_228 nf x5 x4 x1 s0 s1 s2 si sj sa sb = some (r0, vi, vj, va, vb)) {H : Heap} {locs : List Loc} {ls : Array Slot} (hP : va_P (dC, dI) classes (moW h0 r cA si sj sa sb) H) (hD : va_D A (moW h0 r cA si sj sa sb)) (hS : va_S A s.heap H locs) (hl : lv_has ls 7 [(5, .int x5), (4, .int x4), (0, .ref h0), (1, .long x1)]) : W p l e R s m args below meth c H locs 0 0 Q (F0 m 228 ls [.int s0, .int s1, .int s2, .ref (r 9)]) := by
  obtain ⟨hx, hb, hr, hml, hown, hts, hlocks, hRf, hRl⟩ := id C0
  unfold f_Mo_addTime_228 at hf
  refine lv_iadd hx hb d_Mo_addTime_228 ?_
  obtain ⟨c_32, hf⟩ := it_n hf
  refine mz_9 hx hb hK hP hD hS c_32 d_Mo_addTime_229 (fun H locs hP hD hS => ?_)
  refine lv_aload_n hx hb d_Mo_addTime_230 rfl (lv_at hl 2 rfl) ?_
  refine mg_10 hx hb hts hown hK hP d_Mo_addTime_231 ?_
  refine lv_iload hx hb d_Mo_addTime_234 (lv_at hl 1 rfl) ?_
  refine lv_dup2_11 hx hb d_Mo_addTime_236 rfl rfl ?_
  obtain ⟨c_33, hf⟩ := it_n hf
  refine ma_10 (v := sa 10 x4.toNatClampNeg) hx hb hK hP c_33 rfl d_Mo_addTime_237 ?_
  refine lv_aload_n hx hb d_Mo_addTime_238 rfl (lv_at hl 2 rfl) ?_
  refine mg_10 hx hb hts hown hK hP d_Mo_addTime_239 ?_
  refine lv_iload hx hb d_Mo_addTime_242 (lv_at hl 1 rfl) ?_
  obtain ⟨c_34, hf⟩ := it_n hf
  refine ma_10 (v := sa 10 x4.toNatClampNeg) hx hb hK hP c_34 rfl d_Mo_addTime_244 ?_
  refine lv_if_le (tgt := 252) hx hb d_Mo_addTime_245 (by decide) (fun c_35 => ?_) (fun c_35 => ?_)
  · have hf := it_t c_35 hf
    refine lv_iconst (v := 0) hx hb d_Mo_addTime_252 (by decide) ?_
    exact k_Mo_addTime_253 C0 hST hA hK hE hf hP hD hS (lv_sub hl [0, 1, 2, 3] rfl)
  · have hf := it_f c_35 hf
    refine lv_iconst (v := 1) hx hb d_Mo_addTime_248 (by decide) ?_
    refine lv_goto (tgt := 253) hx hb d_Mo_addTime_249 (by decide) ?_
    exact k_Mo_addTime_253 C0 hST hA hK hE hf hP hD hS (lv_sub hl [0, 1, 2, 3] rfl)
set_option maxHeartbeats 400000 in
set_option maxRecDepth 100000 in
theorem k_Mo_addTime_124 (C0 : Cx p s m meth c args R b_Mo_addTime "ZoneFilesModel" 7 (some .boolean) 3 72) (hST : ST A s s.heap) (hA : ∀ q, s.heap.size ≤ q → A q) (hK : va_K (dC, dI) classes (moT cA) s) (hE : ∀ (pc : Nat) (ls : Array Slot) (H : Heap) (locs : List Loc), decode b_Mo_addTime pc = .ok (.ireturn, 1) → narrow .boolean (.int r0) = .int r0 → va_P (dC, dI) classes (moW h0 r cA vi vj va vb) H → va_D A (moW h0 r cA vi vj va vb) → va_S A s.heap H locs → W p l e R s m args below meth c H locs 0 0 Q (F0 m pc ls [.int r0])) {x5 : Int32} {x6 : Int32} {x4 : Int32} {x1 : Int64} {x3 : Int32} {si : Nat → Int32} {sj : Nat → Int64} {sa : Nat → Nat → Int32} {sb : Nat → Nat → Int64} (hf : f_Mo_addTime_124 nf x5 x6 x4 x1 x3 si sj sa sb = some (r0, vi, vj, va, vb)) {H : Heap} {locs : List Loc} {ls : Array Slot} (hP : va_P (dC, dI) classes (moW h0 r cA si sj sa sb) H) (hD : va_D A (moW h0 r cA si sj sa sb)) (hS : va_S A s.heap H locs) (hl : lv_has ls 7 [(5, .int x5), (6, .int x6), (4, .int x4), (0, .ref h0), (1, .long x1), (3, .int x3)]) : W p l e R s m args below meth c H locs 0 0 Q (F0 m 124 ls []) := by
  obtain ⟨hx, hb, hr, hml, hown, hts, hlocks, hRf, hRl⟩ := id C0
  unfold f_Mo_addTime_124 at hf
  refine lv_aload_n hx hb d_Mo_addTime_124 rfl (lv_at hl 3 rfl) ?_
  refine mg_14 hx hb hts hown hK hP d_Mo_addTime_125 ?_
  refine lv_bipush (v := 40) hx hb d_Mo_addTime_128 (by decide) ?_
  refine lv_iload hx hb d_Mo_addTime_130 (lv_at hl 2 rfl) ?_
  refine lv_imul hx hb d_Mo_addTime_132 ?_
  refine lv_iload hx hb d_Mo_addTime_133 (lv_at hl 0 rfl) ?_
  refine lv_iadd hx hb d_Mo_addTime_135 ?_
  refine lv_aload_n hx hb d_Mo_addTime_136 rfl (lv_at hl 3 rfl) ?_
  refine mg_24 hx hb hts hown hK hP d_Mo_addTime_137 ?_
  refine lv_iconst (v := 2) hx hb d_Mo_addTime_140 (by decide) ?_
  refine lv_iload hx hb d_Mo_addTime_141 (lv_at hl 2 rfl) ?_
  refine lv_imul hx hb d_Mo_addTime_143 ?_
  refine lv_iload_n hx hb d_Mo_addTime_144 rfl (lv_at hl 5 rfl) ?_
  refine lv_iadd hx hb d_Mo_addTime_145 ?_
  obtain ⟨c_23, hf⟩ := it_n hf
  refine ma_24 (v := sa 24 ((2 * x4) + x3).toNatClampNeg) hx hb hK hP c_23 rfl d_Mo_addTime_146 ?_
  obtain ⟨c_24, hf⟩ := it_n hf
  refine mz_14 hx hb hK hP hD hS c_24 d_Mo_addTime_147 (fun H locs hP hD hS => ?_)
  refine lv_aload_n hx hb d_Mo_addTime_148 rfl (lv_at hl 3 rfl) ?_
  refine mg_15 hx hb hts hown hK hP d_Mo_addTime_149 ?_
  refine lv_bipush (v := 40) hx hb d_Mo_addTime_152 (by decide) ?_
  refine lv_iload hx hb d_Mo_addTime_154 (lv_at hl 2 rfl) ?_
  refine lv_imul hx hb d_Mo_addTime_156 ?_
  refine lv_iload hx hb d_Mo_addTime_157 (lv_at hl 0 rfl) ?_
  refine lv_iadd hx hb d_Mo_addTime_159 ?_
  refine lv_iload_n hx hb d_Mo_addTime_160 rfl (lv_at hl 5 rfl) ?_
  obtain ⟨c_25, hf⟩ := it_n hf
  refine mz_15 hx hb hK hP hD hS c_25 d_Mo_addTime_161 (fun H locs hP hD hS => ?_)
  refine lv_aload_n hx hb d_Mo_addTime_162 rfl (lv_at hl 3 rfl) ?_
  refine mg_16 hx hb hts hown hK hP d_Mo_addTime_163 ?_
  refine lv_bipush (v := 40) hx hb d_Mo_addTime_166 (by decide) ?_
  refine lv_iload hx hb d_Mo_addTime_168 (lv_at hl 2 rfl) ?_
  refine lv_imul hx hb d_Mo_addTime_170 ?_
  refine lv_iload hx hb d_Mo_addTime_171 (lv_at hl 0 rfl) ?_
  refine lv_iadd hx hb d_Mo_addTime_173 ?_
  refine lv_iload hx hb d_Mo_addTime_174 (lv_at hl 1 rfl) ?_
  obtain ⟨c_26, hf⟩ := it_n hf
  refine mz_16 hx hb hK hP hD hS c_26 d_Mo_addTime_176 (fun H locs hP hD hS => ?_)
  refine lv_aload_n hx hb d_Mo_addTime_177 rfl (lv_at hl 3 rfl) ?_
  refine mg_20 hx hb hts hown hK hP d_Mo_addTime_178 ?_
  refine lv_bipush (v := 40) hx hb d_Mo_addTime_181 (by decide) ?_
  refine lv_iload hx hb d_Mo_addTime_183 (lv_at hl 2 rfl) ?_
  refine lv_imul hx hb d_Mo_addTime_185 ?_
  refine lv_iload hx hb d_Mo_addTime_186 (lv_at hl 0 rfl) ?_
  refine lv_iadd hx hb d_Mo_addTime_188 ?_
  refine lv_iconst (v := 0) hx hb d_Mo_addTime_189 (by decide) ?_
  obtain ⟨c_27, hf⟩ := it_n hf
  refine mz_20 hx hb hK hP hD hS c_27 d_Mo_addTime_190 (fun H locs hP hD hS => ?_)
  refine lv_aload_n hx hb d_Mo_addTime_191 rfl (lv_at hl 3 rfl) ?_
  refine mg_21 hx hb hts hown hK hP d_Mo_addTime_192 ?_
  refine lv_bipush (v := 40) hx hb d_Mo_addTime_195 (by decide) ?_
  refine lv_iload hx hb d_Mo_addTime_197 (lv_at hl 2 rfl) ?_
  refine lv_imul hx hb d_Mo_addTime_199 ?_
  refine lv_iload hx hb d_Mo_addTime_200 (lv_at hl 0 rfl) ?_
  refine lv_iadd hx hb d_Mo_addTime_202 ?_
  refine lv_iconst (v := 0) hx hb d_Mo_addTime_203 (by decide) ?_
  obtain ⟨c_28, hf⟩ := it_n hf
  refine mz_21 hx hb hK hP hD hS c_28 d_Mo_addTime_204 (fun H locs hP hD hS => ?_)
  refine lv_aload_n hx hb d_Mo_addTime_205 rfl (lv_at hl 3 rfl) ?_
  refine mg_9 hx hb hts hown hK hP d_Mo_addTime_206 ?_
  refine lv_iload hx hb d_Mo_addTime_209 (lv_at hl 2 rfl) ?_
  refine lv_dup2_11 hx hb d_Mo_addTime_211 rfl rfl ?_
  obtain ⟨c_29, hf⟩ := it_n hf
  refine ma_9 (v := sa 9 x4.toNatClampNeg) hx hb hK hP c_29 rfl d_Mo_addTime_212 ?_
  refine lv_aload_n hx hb d_Mo_addTime_213 rfl (lv_at hl 3 rfl) ?_
  refine mg_9 hx hb hts hown hK hP d_Mo_addTime_214 ?_
  refine lv_iload hx hb d_Mo_addTime_217 (lv_at hl 2 rfl) ?_
  obtain ⟨c_30, hf⟩ := it_n hf
  refine ma_9 (v := sa 9 x4.toNatClampNeg) hx hb hK hP c_30 rfl d_Mo_addTime_219 ?_
  refine lv_if_le (tgt := 227) hx hb d_Mo_addTime_220 (by decide) (fun c_31 => ?_) (fun c_31 => ?_)
  · have hf := it_t c_31 hf
    refine lv_iconst (v := 0) hx hb d_Mo_addTime_227 (by decide) ?_
    exact k_Mo_addTime_228 C0 hST hA hK hE hf hP hD hS (lv_sub hl [0, 2, 3, 4] rfl)
  · have hf := it_f c_31 hf
    refine lv_iconst (v := 1) hx hb d_Mo_addTime_223 (by decide) ?_
    refine lv_goto (tgt := 228) hx hb d_Mo_addTime_224 (by decide) ?_
    exact k_Mo_addTime_228 C0 hST hA hK hE hf hP hD hS (lv_sub hl [0, 2, 3, 4] rfl)
set_option maxHeartbeats 400000 in
set_option maxRecDepth 100000 in
theorem k_Mo_addTime_83 (C0 : Cx p s m meth c args R b_Mo_addTime "ZoneFilesModel" 7 (some .boolean) 3 72) (hST : ST A s s.heap) (hA : ∀ q, s.heap.size ≤ q → A q) (hK : va_K (dC, dI) classes (moT cA) s) (hE : ∀ (pc : Nat) (ls : Array Slot) (H : Heap) (locs : List Loc), decode b_Mo_addTime pc = .ok (.ireturn, 1) → narrow .boolean (.int r0) = .int r0 → va_P (dC, dI) classes (moW h0 r cA vi vj va vb) H → va_D A (moW h0 r cA vi vj va vb) → va_S A s.heap H locs → W p l e R s m args below meth c H locs 0 0 Q (F0 m pc ls [.int r0])) {x6 : Int32} {x4 : Int32} {x1 : Int64} {x3 : Int32} {si : Nat → Int32} {sj : Nat → Int64} {sa : Nat → Nat → Int32} {sb : Nat → Nat → Int64} (hf : f_Mo_addTime_83 nf x6 x4 x1 x3 si sj sa sb = some (r0, vi, vj, va, vb)) {H : Heap} {locs : List Loc} {ls : Array Slot} (hP : va_P (dC, dI) classes (moW h0 r cA si sj sa sb) H) (hD : va_D A (moW h0 r cA si sj sa sb)) (hS : va_S A s.heap H locs) (hl : lv_has ls 7 [(6, .int x6), (4, .int x4), (0, .ref h0), (1, .long x1), (3, .int x3)]) : W p l e R s m args below meth c H locs 0 0 Q (F0 m 83 ls []) := by
  obtain ⟨hx, hb, hr, hml, hown, hts, hlocks, hRf, hRl⟩ := id C0
  unfold f_Mo_addTime_83 at hf
  refine lv_aload_n hx hb d_Mo_addTime_83 rfl (lv_at hl 2 rfl) ?_
  refine mg_6 hx hb hts hown hK hP d_Mo_addTime_84 ?_
  refine lv_iload hx hb d_Mo_addTime_87 (lv_at hl 1 rfl) ?_
  obtain ⟨c_19, hf⟩ := it_n hf
  refine ma_6 (v := sa 6 x4.toNatClampNeg) hx hb hK hP c_19 rfl d_Mo_addTime_89 ?_
  refine lv_istore (lv' := [(5, .int (sa 6 x4.toNatClampNeg)), (6, .int x6), (4, .int x4), (0, .ref h0), (1, .long x1), (3, .int x3)]) hx hb d_Mo_addTime_90 hl (by decide) rfl (fun ls hl => ?_)
  refine lv_aload_n hx hb d_Mo_addTime_92 rfl (lv_at hl 3 rfl) ?_
  refine mg_6 hx hb hts hown hK hP d_Mo_addTime_93 ?_
  refine lv_iload hx hb d_Mo_addTime_96 (lv_at hl 2 rfl) ?_
  refine lv_dup2_11 hx hb d_Mo_addTime_98 rfl rfl ?_
  obtain ⟨c_20, hf⟩ := it_n hf
  refine ma_6 (v := sa 6 x4.toNatClampNeg) hx hb hK hP c_20 rfl d_Mo_addTime_99 ?_
  refine lv_iconst (v := 1) hx hb d_Mo_addTime_100 (by decide) ?_
  refine lv_iadd hx hb d_Mo_addTime_101 ?_
  obtain ⟨c_21, hf⟩ := it_n hf
  refine mz_6 hx hb hK hP hD hS c_21 d_Mo_addTime_102 (fun H locs hP hD hS => ?_)
  refine lv_iload hx hb d_Mo_addTime_103 (lv_at hl 1 rfl) ?_
  refine lv_if_ge (tgt := 124) hx hb d_Mo_addTime_105 (by decide) (fun c_22 => ?_) (fun c_22 => ?_)
  · have hf := it_t c_22 hf
    exact k_Mo_addTime_124 C0 hST hA hK hE hf hP hD hS (lv_sub hl [0, 1, 2, 3, 4, 5] rfl)
  · have hf := it_f c_22 hf
    refine lv_aload_n hx hb d_Mo_addTime_108 rfl (lv_at hl 3 rfl) ?_
    refine mg_7 hx hb hts hown hK hP d_Mo_addTime_109 ?_
    refine lv_iload hx hb d_Mo_addTime_112 (lv_at hl 2 rfl) ?_
    obtain ⟨c_37, hf⟩ := it_n hf
    refine ma_7 (v := sa 7 x4.toNatClampNeg) hx hb hK hP c_37 rfl d_Mo_addTime_114 ?_
    refine lv_istore (lv' := [(6, .int (sa 7 x4.toNatClampNeg)), (5, .int (sa 6 x4.toNatClampNeg)), (4, .int x4), (0, .ref h0), (1, .long x1), (3, .int x3)]) hx hb d_Mo_addTime_115 hl (by decide) rfl (fun ls hl => ?_)
    refine lv_aload_n hx hb d_Mo_addTime_117 rfl (lv_at hl 3 rfl) ?_
    refine lv_iload hx hb d_Mo_addTime_118 (lv_at hl 2 rfl) ?_
    refine lv_iload_n hx hb d_Mo_addTime_120 rfl (lv_at hl 5 rfl) ?_
    obtain ⟨⟨i_38, j_39, a_40, b_41⟩, hc, hf⟩ := ob hf
    have hFc := mo_free hD hS hA
    refine cl_M (v := none) (st1 := []) (va_runV (As := [.int x4, .int x3]) (rest := []) ⟨hx, hb, hml, hown, hts⟩ (c_Mo_addName l dC dI h0 r cA H.size nf x4 x3 si sj (va_up sa 6 (upd (sa 6) x4.toNatClampNeg ((sa 6 x4.toNatClampNeg) + 1))) sb hc) (cwV 2 hts (gdV m_6_120 m_6_122 msel_56 m_1_10 m_6_123) rfl rfl rfl (by decide +kernel) ⟨Nat.le_trans (Nat.le_of_ble_eq_true rfl) hRf, Nat.le_trans (Nat.le_of_ble_eq_true rfl) hRl⟩) ((MU.pre hP hK hD (hST.mu hS hFc)).vir (va_recv hK hP (ci := 10) (q0 := 0) rfl rfl)) rfl rfl hl.1 rfl (lv_room (Nat.le_of_ble_eq_true rfl)) d_Mo_addTime_121 ⟨Nat.zero_le _, Nat.zero_le _⟩) rfl hS (fun q _ h => hFc q h) hFc (fun t H1 locs ht hvm hB hz1 hk1 hS => ?_)
    obtain ⟨hP, hD⟩ := mo_back ht hD hB
    generalize H1 = H at hP hS ⊢
    exact k_Mo_addTime_124 C0 hST hA hK hE hf hP hD hS (lv_sub hl [1, 0, 2, 3, 4, 5] rfl)
set_option maxHeartbeats 400000 in
set_option maxRecDepth 100000 in
theorem k_Mo_addTime_0 (C0 : Cx p s m meth c args R b_Mo_addTime "ZoneFilesModel" 7 (some .boolean) 3 72) (hST : ST A s s.heap) (hA : ∀ q, s.heap.size ≤ q → A q) (hK : va_K (dC, dI) classes (moT cA) s) (hE : ∀ (pc : Nat) (ls : Array Slot) (H : Heap) (locs : List Loc), decode b_Mo_addTime pc = .ok (.ireturn, 1) → narrow .boolean (.int r0) = .int r0 → va_P (dC, dI) classes (moW h0 r cA vi vj va vb) H → va_D A (moW h0 r cA vi vj va vb) → va_S A s.heap H locs → W p l e R s m args below meth c H locs 0 0 Q (F0 m pc ls [.int r0])) {x1 : Int64} {x3 : Int32} {si : Nat → Int32} {sj : Nat → Int64} {sa : Nat → Nat → Int32} {sb : Nat → Nat → Int64} (hf : f_Mo_addTime_0 nf x1 x3 si sj sa sb = some (r0, vi, vj, va, vb)) {H : Heap} {locs : List Loc} {ls : Array Slot} (hP : va_P (dC, dI) classes (moW h0 r cA si sj sa sb) H) (hD : va_D A (moW h0 r cA si sj sa sb)) (hS : va_S A s.heap H locs) (hl : lv_has ls 7 [(0, .ref h0), (1, .long x1), (3, .int x3)]) : W p l e R s m args below meth c H locs 0 0 Q (F0 m 0 ls []) := by
  obtain ⟨hx, hb, hr, hml, hown, hts, hlocks, hRf, hRl⟩ := id C0
  unfold f_Mo_addTime_0 at hf
  refine lv_iconst (v := 4) hx hb d_Mo_addTime_0 (by decide) ?_
  refine lv_istore (lv' := [(4, .int 4), (0, .ref h0), (1, .long x1), (3, .int x3)]) hx hb d_Mo_addTime_1 hl (by decide) rfl (fun ls hl => ?_)
  refine lv_aload_n hx hb d_Mo_addTime_3 rfl (lv_at hl 1 rfl) ?_
  refine mg_5 hx hb hts hown hK hP d_Mo_addTime_4 ?_
  refine lv_iload hx hb d_Mo_addTime_7 (lv_at hl 0 rfl) ?_
  obtain ⟨c_1, hf⟩ := it_n hf
  refine ma_5 (v := sa 5 (4 : Int32).toNatClampNeg) hx hb hK hP c_1 rfl d_Mo_addTime_9 ?_
  refine lv_sipush (v := 200) hx hb d_Mo_addTime_10 (by decide) ?_
  refine lv_icmp_ne (tgt := 18) hx hb d_Mo_addTime_13 (by decide) (fun c_2 => ?_) (fun c_2 => ?_)
  · have hf := it_f c_2 hf
    refine lv_aload_n hx hb d_Mo_addTime_18 rfl (lv_at hl 1 rfl) ?_
    refine lv_iload_n hx hb d_Mo_addTime_19 rfl (lv_at hl 3 rfl) ?_
    obtain ⟨⟨z_7, i_3, j_4, a_5, b_6⟩, hc, hf⟩ := ob hf
    have hFc := mo_free hD hS hA
    refine cl_M (v := (some (.int z_7))) (st1 := [.int z_7]) (va_runV (As := [.int x3]) (rest := []) ⟨hx, hb, hml, hown, hts⟩ (c_Mo_typeLike l dC dI h0 r cA H.size nf x3 si sj sa sb hc) (cwV 1 hts (gdV m_8_100 m_8_102 msel_90 m_1_10 m_8_103) rfl rfl rfl (by decide +kernel) ⟨Nat.le_trans (Nat.le_of_ble_eq_true rfl) hRf, Nat.le_trans (Nat.le_of_ble_eq_true rfl) hRl⟩) ((MU.pre hP hK hD (hST.mu hS hFc)).vir (va_recv hK hP (ci := 10) (q0 := 0) rfl rfl)) rfl rfl hl.1 rfl (lv_room (Nat.le_of_ble_eq_true rfl)) d_Mo_addTime_20 ⟨Nat.zero_le _, Nat.zero_le _⟩) rfl hS (fun q _ h => hFc q h) hFc (fun t H1 locs ht hvm hB hz1 hk1 hS => ?_)
    obtain ⟨hP, hD⟩ := mo_back ht hD hB
    generalize H1 = H at hP hS ⊢
    refine lv_istore (lv' := [(5, .int z_7), (4, .int 4), (0, .ref h0), (1, .long x1), (3, .int x3)]) hx hb d_Mo_addTime_23 hl (by decide) rfl (fun ls hl => ?_)
    refine lv_iload hx hb d_Mo_addTime_25 (lv_at hl 0 rfl) ?_
    refine lv_if_ge (tgt := 255) hx hb d_Mo_addTime_27 (by decide) (fun c_8 => ?_) (fun c_8 => ?_)
    · have hf := it_t c_8 hf
      exact k_Mo_addTime_255 C0 hST hA hK hE hf hP hD hS (lv_sub hl [0, 1, 2, 3] rfl)
    · have hf := it_f c_8 hf
      refine lv_aload_n hx hb d_Mo_addTime_30 rfl (lv_at hl 2 rfl) ?_
      refine lv_iload_n hx hb d_Mo_addTime_31 rfl (lv_at hl 4 rfl) ?_
      obtain ⟨r_15, hc, hf⟩ := ob hf
      refine cl_S (v := (some (.int r_15))) (st1 := [.int r_15]) (va_runV (As := [.int x3]) (rest := []) ⟨hx, hb, hml, hown, hts⟩ (c_Mo_lettersLike l dC dI h0 r cA nf x3 i_3 j_4 a_5 b_6 hc) (cwV 1 hts (gdV m_8_104 m_8_106 msel_91 m_1_10 m_8_107) rfl rfl rfl (by decide +kernel) ⟨Nat.le_trans (Nat.le_of_ble_eq_true rfl) hRf, Nat.le_trans (Nat.le_of_ble_eq_true rfl) hRl⟩) ((RO.pre hP hK (hST.ro hS)).vir (va_recv hK hP (ci := 10) (q0 := 0) rfl rfl)) rfl rfl hl.1 rfl (lv_room (Nat.le_of_ble_eq_true rfl)) d_Mo_addTime_32 ⟨Nat.zero_le _, Nat.zero_le _⟩) rfl ?_
      refine lv_istore (lv' := [(6, .int r_15), (5, .int z_7), (4, .int 4), (0, .ref h0), (1, .long x1), (3, .int x3)]) hx hb d_Mo_addTime_35 hl (by decide) rfl (fun ls hl => ?_)
      refine lv_aload_n hx hb d_Mo_addTime_37 rfl (lv_at hl 3 rfl) ?_
      refine mg_6 hx hb hts hown hK hP d_Mo_addTime_38 ?_
      refine lv_iload hx hb d_Mo_addTime_41 (lv_at hl 2 rfl) ?_
      obtain ⟨c_16, hf⟩ := it_n hf
      refine ma_6 (v := a_5 6 (4 : Int32).toNatClampNeg) hx hb hK hP c_16 rfl d_Mo_addTime_43 ?_
      refine lv_bipush (v := 40) hx hb d_Mo_addTime_44 (by decide) ?_
      refine lv_icmp_eq (tgt := 81) hx hb d_Mo_addTime_46 (by decide) (fun c_17 => ?_) (fun c_17 => ?_)
      · have hf := it_t c_17 hf
        exact k_Mo_addTime_81 C0 hST hA hK hE hf hP hD hS (lv_sub hl [] rfl)
      · have hf := it_f c_17 hf
        refine lv_iload hx hb d_Mo_addTime_49 (lv_at hl 0 rfl) ?_
        refine lv_if_ge (tgt := 83) hx hb d_Mo_addTime_51 (by decide) (fun c_18 => ?_) (fun c_18 => ?_)
        · have hf := it_t c_18 hf
          exact k_Mo_addTime_83 C0 hST hA hK hE hf hP hD hS (lv_sub hl [0, 2, 3, 4, 5] rfl)
        · have hf := it_f c_18 hf
          refine lv_aload_n hx hb d_Mo_addTime_54 rfl (lv_at hl 3 rfl) ?_
          refine mg_7 hx hb hts hown hK hP d_Mo_addTime_55 ?_
          refine lv_iload hx hb d_Mo_addTime_58 (lv_at hl 2 rfl) ?_
          obtain ⟨c_42, hf⟩ := it_n hf
          refine ma_7 (v := a_5 7 (4 : Int32).toNatClampNeg) hx hb hK hP c_42 rfl d_Mo_addTime_60 ?_
          refine lv_aload_n hx hb d_Mo_addTime_61 rfl (lv_at hl 3 rfl) ?_
          refine mg_25 hx hb hts hown hK hP d_Mo_addTime_62 ?_
          refine lv_iconst (v := 2) hx hb d_Mo_addTime_65 (by decide) ?_
          refine lv_iload hx hb d_Mo_addTime_66 (lv_at hl 2 rfl) ?_
          refine lv_imul hx hb d_Mo_addTime_68 ?_
          refine lv_iload_n hx hb d_Mo_addTime_69 rfl (lv_at hl 5 rfl) ?_
          refine lv_iadd hx hb d_Mo_addTime_70 ?_
          obtain ⟨c_43, hf⟩ := it_n hf
          refine ma_25 (v := a_5 25 ((2 * 4) + x3).toNatClampNeg) hx hb hK hP c_43 rfl d_Mo_addTime_71 ?_
          refine lv_iadd hx hb d_Mo_addTime_72 ?_
          refine lv_iconst (v := 1) hx hb d_Mo_addTime_73 (by decide) ?_
          refine lv_iadd hx hb d_Mo_addTime_74 ?_
          refine lv_sipush (v := 200) hx hb d_Mo_addTime_75 (by decide) ?_
          refine lv_icmp_le (tgt := 83) hx hb d_Mo_addTime_78 (by decide) (fun c_44 => ?_) (fun c_44 => ?_)
          · have hf := it_t c_44 hf
            exact k_Mo_addTime_83 C0 hST hA hK hE hf hP hD hS (lv_sub hl [0, 2, 3, 4, 5] rfl)
          · have hf := it_f c_44 hf
            exact k_Mo_addTime_81 C0 hST hA hK hE hf hP hD hS (lv_sub hl [] rfl)
  · have hf := it_t c_2 hf
    refine lv_iconst (v := 0) hx hb d_Mo_addTime_16 (by decide) ?_
    cases rs hf
    exact hE _ _ _ _ d_Mo_addTime_17 rfl hP hD hS
end
set_option maxHeartbeats 400000 in
set_option maxRecDepth 100000 in
theorem c_Mo_addTime (l : Launch) (dC : Nat → ClassId) (dI : Nat → Nat → Nat) (h0 : Nat) (r : Nat → Nat) (cA : Nat → ClassId) (sz : Nat) (nf : Nat) (p0 : Int64) (p1 : Int32) (si : Nat → Int32) (sj : Nat → Int64) (sa : Nat → Nat → Int32) (sb : Nat → Nat → Int64) {r0 : Int32} {vi : Nat → Int32} {vj : Nat → Int64} {va : Nat → Nat → Int32} {vb : Nat → Nat → Int64} (hf : f_Mo_addTime nf p0 p1 si sj sa sb = some (r0, vi, vj, va, vb)) : Met l y_Mo_addTime (wd y_Mo_addTime b_Mo_addTime 7 (some .boolean)) ({ frames := 3, cells := 0, slots := 0, locals := 72 }) (MU dC dI (moW h0 r cA si sj sa sb) (moT cA) sz [.ref h0, .long p0, .int p1]) (MV (some (.int r0)) (fun t => va_P (dC, dI) classes (moW h0 r cA vi vj va vb) t.heap) (va_A (moW h0 r cA si sj sa sb) sz)) 0 0 (va_A (moW h0 r cA si sj sa sb) sz) :=
  met_M (plainFor_of_name (by decide)) (Nat.le_of_ble_eq_true rfl) (fun p e R s m args below meth c ls hRc hRs hsz hin C0 hST hK hP hD hl => by
    obtain ⟨hx, hb, hr, hml, hown, hts, hlocks, hRf, hRl⟩ := id C0
    subst hsz
    have hA : ∀ q : Nat, s.heap.size ≤ q → va_A (moW h0 r cA si sj sa sb) s.heap.size q := fun q h => Or.inr h
    have hS : va_S (va_A (moW h0 r cA si sj sa sb) s.heap.size) s.heap s.heap [] := va_S.rf
    unfold f_Mo_addTime at hf
    exact k_Mo_addTime_0 C0 hST hA hK (fun pc ls H locs hd hn hP hD hS => W.zret hx hb hr hn (fun t ht hW => ⟨⟨rfl, mo_end ht hP⟩, hS.F ht⟩) hS.2.2 hd) hf hP hD hS (lv_sub hl [0, 1, 2] rfl))
-- ZoneFilesModel.stretch(II)I
def f_Mo_stretch_257 (nf : Nat) (K146 : Int32 → Int64 → Int64 → Int32 → Int32 → (Nat → Int32) → (Nat → Int64) → (Nat → Nat → Int32) → (Nat → Nat → Int64) → Option (Int32 × (Nat → Int32) × (Nat → Int64) × (Nat → Nat → Int32) × (Nat → Nat → Int64))) (x8 : Int32) (x6 : Int64) (x4 : Int64) (x3 : Int32) (x1 : Int32) (s0 : Int32) (s1 : Int64) (si : Nat → Int32) (sj : Nat → Int64) (sa : Nat → Nat → Int32) (sb : Nat → Nat → Int64) : Option (Int32 × (Nat → Int32) × (Nat → Int64) × (Nat → Nat → Int32) × (Nat → Nat → Int64)) :=
  (f_Mo_addTime nf s1 s0 si sj sa sb).bind fun (z_40, i_36, j_37, a_38, b_39) =>
  if z_40 = 0 then
  some ((-2147483648), i_36, j_37, a_38, b_39)
  else
  K146 x8 x6 x4 x3 x1 i_36 j_37 a_38 b_39
def f_Mo_stretch_232 (nf : Nat) (K146 : Int32 → Int64 → Int64 → Int32 → Int32 → (Nat → Int32) → (Nat → Int64) → (Nat → Nat → Int32) → (Nat → Nat → Int64) → Option (Int32 × (Nat → Int32) × (Nat → Int64) × (Nat → Nat → Int32) × (Nat → Nat → Int64))) (K199 : Int64 → Int32 → Int64 → Int32 → Int64 → Int64 → Int32 → Int32 → (Nat → Int32) → (Nat → Int64) → (Nat → Nat → Int32) → (Nat → Nat → Int64) → Option (Int32 × (Nat → Int32) × (Nat → Int64) × (Nat → Nat → Int32) × (Nat → Nat → Int64))) (x12 : Int64) (x9 : Int64) (x8 : Int32) (x6 : Int64) (x4 : Int64) (x3 : Int32) (x1 : Int32) (s0 : Int32) (s1 : Int32) (si : Nat → Int32) (sj : Nat → Int64) (sa : Nat → Nat → Int32) (sb : Nat → Nat → Int64) : Option (Int32 × (Nat → Int32) × (Nat → Int64) × (Nat → Nat → Int32) × (Nat → Nat → Int64)) :=
  K199 (x12 + 1) (s1 ||| s0) x9 x8 x6 x4 x3 x1 si sj sa sb
def f_Mo_stretch_199 (nf : Nat) (K146 : Int32 → Int64 → Int64 → Int32 → Int32 → (Nat → Int32) → (Nat → Int64) → (Nat → Nat → Int32) → (Nat → Nat → Int64) → Option (Int32 × (Nat → Int32) × (Nat → Int64) × (Nat → Nat → Int32) × (Nat → Nat → Int64))) : Nat → Int64 → Int32 → Int64 → Int32 → Int64 → Int64 → Int32 → Int32 → (Nat → Int32) → (Nat → Int64) → (Nat → Nat → Int32) → (Nat → Nat → Int64) → Option (Int32 × (Nat → Int32) × (Nat → Int64) × (Nat → Nat → Int32) × (Nat → Nat → Int64))
  | 0, _, _, _, _, _, _, _, _, _, _, _, _ => none
  | n + 1, x12, x11, x9, x8, x6, x4, x3, x1, si, sj, sa, sb =>
    if (x9 + 2) < x12 then
    if x11 = 0 then
      f_Mo_stretch_257 nf K146 x8 x6 x4 x3 x1 0 x6 si sj sa sb
      else
      f_Mo_stretch_257 nf K146 x8 x6 x4 x3 x1 1 x6 si sj sa sb
    else
    (f_Mo_event nf x3 x12 0 si sj sa sb).bind fun r_42 =>
      if r_42 = x6 then
      f_Mo_stretch_232 nf K146 (f_Mo_stretch_199 nf K146 n) x12 x9 x8 x6 x4 x3 x1 1 x11 si sj sa sb
      else
      f_Mo_stretch_232 nf K146 (f_Mo_stretch_199 nf K146 n) x12 x9 x8 x6 x4 x3 x1 0 x11 si sj sa sb
def f_Mo_stretch_173 (nf : Nat) (K146 : Int32 → Int64 → Int64 → Int32 → Int32 → (Nat → Int32) → (Nat → Int64) → (Nat → Nat → Int32) → (Nat → Nat → Int64) → Option (Int32 × (Nat → Int32) × (Nat → Int64) × (Nat → Nat → Int32) × (Nat → Nat → Int64))) (x6 : Int64) (x4 : Int64) (x3 : Int32) (x1 : Int32) (s0 : Int32) (si : Nat → Int32) (sj : Nat → Int64) (sa : Nat → Nat → Int32) (sb : Nat → Nat → Int64) : Option (Int32 × (Nat → Int32) × (Nat → Int64) × (Nat → Nat → Int32) × (Nat → Nat → Int64)) :=
  if s0 = 0 then
  K146 s0 x6 x4 x3 x1 si sj sa sb
  else
  (f_Mo_about nf x6 si sj sa sb).bind fun (z_33, i_29, j_30, a_31, b_32) =>
    f_Mo_stretch_199 nf K146 nf (z_33 - 2) 0 z_33 s0 x6 x4 x3 x1 i_29 j_30 a_31 b_32
def f_Mo_stretch_146 (nf : Nat) : Nat → Int32 → Int64 → Int64 → Int32 → Int32 → (Nat → Int32) → (Nat → Int64) → (Nat → Nat → Int32) → (Nat → Nat → Int64) → Option (Int32 × (Nat → Int32) × (Nat → Int64) × (Nat → Nat → Int32) × (Nat → Nat → Int64))
  | 0, _, _, _, _, _, _, _, _, _ => none
  | n + 1, x8, x6, x4, x3, x1, si, sj, sa, sb =>
    if x8 = 0 then
    (f_Mo_put nf x1 4 si sj sa sb).bind fun (i_17, j_18, a_19, b_20) =>
      if x1 < 0 ∨ 5 ≤ x1.toNatClampNeg then none else
      some (a_19 5 x1.toNatClampNeg, i_17, j_18, a_19, b_20)
    else
    (f_Mo_eventAbove nf x3 x6 si sj sa sb).bind fun (z_26, i_22, j_23, a_24, b_25) =>
      if x4 ≤ z_26 then
      f_Mo_stretch_173 nf (f_Mo_stretch_146 nf n) z_26 x4 x3 x1 0 i_22 j_23 a_24 b_25
      else
      f_Mo_stretch_173 nf (f_Mo_stretch_146 nf n) z_26 x4 x3 x1 1 i_22 j_23 a_24 b_25
def f_Mo_stretch_144 (nf : Nat) (x6 : Int64) (x4 : Int64) (x3 : Int32) (x1 : Int32) (s0 : Int32) (si : Nat → Int32) (sj : Nat → Int64) (sa : Nat → Nat → Int32) (sb : Nat → Nat → Int64) : Option (Int32 × (Nat → Int32) × (Nat → Int64) × (Nat → Nat → Int32) × (Nat → Nat → Int64)) :=
  f_Mo_stretch_146 nf nf s0 x6 x4 x3 x1 si sj sa sb
def f_Mo_stretch_115 (nf : Nat) (x4 : Int64) (x3 : Int32) (x1 : Int32) (s0 : Int64) (si : Nat → Int32) (sj : Nat → Int64) (sa : Nat → Nat → Int32) (sb : Nat → Nat → Int64) : Option (Int32 × (Nat → Int32) × (Nat → Int64) × (Nat → Nat → Int32) × (Nat → Nat → Int64)) :=
  if (-1152921504606846976 : Int64) < s0 then
  if (1152921504606846976 : Int64) ≤ s0 then
    f_Mo_stretch_144 nf s0 x4 x3 x1 0 si sj sa sb
    else
    f_Mo_stretch_144 nf s0 x4 x3 x1 1 si sj sa sb
  else
  some ((-2147483648), si, sj, sa, sb)
def f_Mo_stretch_46 (nf : Nat) (x1 : Int32) (x2 : Int32) (s0 : Int32) (si : Nat → Int32) (sj : Nat → Int64) (sa : Nat → Nat → Int32) (sb : Nat → Nat → Int64) : Option (Int32 × (Nat → Int32) × (Nat → Int64) × (Nat → Nat → Int32) × (Nat → Nat → Int64)) :=
  if s0 ≤ 0 then
  (f_Mo_put nf 4 x1 (va_up si 3 s0) sj sa sb).bind fun (i_5, j_6, a_7, b_8) =>
    (f_Mo_days nf (x2.toInt64 + 1) 1 1).bind fun r_9 =>
    if (4 : Int32) < 0 ∨ 5 ≤ (4 : Int32).toNatClampNeg then none else
    if (a_7 5 (4 : Int32).toNatClampNeg) = 0 then
    f_Mo_stretch_115 nf (r_9 * 86400) 4 x1 (-1) i_5 j_6 a_7 b_8
    else
    if (4 : Int32) < 0 ∨ 5 ≤ (4 : Int32).toNatClampNeg then none else
      if (((200 * 4) + (a_7 5 (4 : Int32).toNatClampNeg)) - 1) < 0 ∨ 1000 ≤ (((200 * 4) + (a_7 5 (4 : Int32).toNatClampNeg)) - 1).toNatClampNeg then none else
      f_Mo_stretch_115 nf (r_9 * 86400) 4 x1 (b_8 12 (((200 * 4) + (a_7 5 (4 : Int32).toNatClampNeg)) - 1).toNatClampNeg) i_5 j_6 a_7 b_8
  else
  some (0, va_up si 3 s0, sj, sa, sb)
def f_Mo_stretch_27 (nf : Nat) (x1 : Int32) (x2 : Int32) (si : Nat → Int32) (sj : Nat → Int64) (sa : Nat → Nat → Int32) (sb : Nat → Nat → Int64) : Option (Int32 × (Nat → Int32) × (Nat → Int64) × (Nat → Nat → Int32) × (Nat → Nat → Int64)) :=
  f_Mo_stretch_46 nf x1 x2 2 si sj sa sb
def f_Mo_stretch_0 (nf : Nat) (x1 : Int32) (x2 : Int32) (si : Nat → Int32) (sj : Nat → Int64) (sa : Nat → Nat → Int32) (sb : Nat → Nat → Int64) : Option (Int32 × (Nat → Int32) × (Nat → Int64) × (Nat → Nat → Int32) × (Nat → Nat → Int64)) :=
  (f_Mo_noZone nf x1 si sj sa sb).bind fun r_1 =>
  if r_1 = 0 then
  if x2 < (1970 : Int32) then
    f_Mo_stretch_27 nf x1 x2 si sj sa sb
    else
    if x2 ≤ (2400 : Int32) then
      if x1 < 0 ∨ 5 ≤ x1.toNatClampNeg then none else
        if (2 : Int32) ≤ (sa 23 x1.toNatClampNeg) then
        f_Mo_stretch_46 nf x1 x2 0 si sj sa sb
        else
        f_Mo_stretch_46 nf x1 x2 3 si sj sa sb
      else
      f_Mo_stretch_27 nf x1 x2 si sj sa sb
  else
  f_Mo_stretch_46 nf x1 x2 1 si sj sa sb
def f_Mo_stretch (nf : Nat) (p0 : Int32) (p1 : Int32) (si : Nat → Int32) (sj : Nat → Int64) (sa : Nat → Nat → Int32) (sb : Nat → Nat → Int64) : Option (Int32 × (Nat → Int32) × (Nat → Int64) × (Nat → Nat → Int32) × (Nat → Nat → Int64)) :=
  f_Mo_stretch_0 nf p0 p1 si sj sa sb
section
variable {p : Program} {l : Launch} {e : Env} {R : Room} {s : State} {m : MethodId} {args : Array Value} {below : List Frame} {meth : Method} {c : Code} {Q : State → Prop} {dC : Nat → ClassId} {dI : Nat → Nat → Nat} {nf : Nat} {A : Nat → Prop} {h0 : Nat} {r : Nat → Nat} {cA : Nat → ClassId}
variable {r0 : Int32} {vi : Nat → Int32} {vj : Nat → Int64} {va : Nat → Nat → Int32} {vb : Nat → Nat → Int64}
set_option maxHeartbeats 400000 in
set_option maxRecDepth 100000 in
theorem k_Mo_stretch_257 (C0 : Cx p s m meth c args R b_Mo_stretch "ZoneFilesModel" 14 (some .int) 6 153) (hST : ST A s s.heap) (hA : ∀ q, s.heap.size ≤ q → A q) (hK : va_K (dC, dI) classes (moT cA) s) (hE : ∀ (pc : Nat) (ls : Array Slot) (H : Heap) (locs : List Loc), decode b_Mo_stretch pc = .ok (.ireturn, 1) → narrow .int (.int r0) = .int r0 → va_P (dC, dI) classes (moW h0 r cA vi vj va vb) H → va_D A (moW h0 r cA vi vj va vb) → va_S A s.heap H locs → W p l e R s m args below meth c H locs 0 0 Q (F0 m pc ls [.int r0])) {K146 : Int32 → Int64 → Int64 → Int32 → Int32 → (Nat → Int32) → (Nat → Int64) → (Nat → Nat → Int32) → (Nat → Nat → Int64) → Option (Int32 × (Nat → Int32) × (Nat → Int64) × (Nat → Nat → Int32) × (Nat → Nat → Int64))} (hK146 : ∀ {x8 : Int32} {x6 : Int64} {x4 : Int64} {x3 : Int32} {x1 : Int32} {si : Nat → Int32} {sj : Nat → Int64} {sa : Nat → Nat → Int32} {sb : Nat → Nat → Int64}, K146 x8 x6 x4 x3 x1 si sj sa sb = some (r0, vi, vj, va, vb) → ∀ {H : Heap} {locs : List Loc} {ls : Array Slot}, va_P (dC, dI) classes (moW h0 r cA si sj sa sb) H → va_D A (moW h0 r cA si sj sa sb) → va_S A s.heap H locs → lv_has ls 14 [(8, .int x8), (6, .long x6), (4, .long x4), (3, .int x3), (0, .ref h0), (1, .int x1)] → W p l e R s m args below meth c H locs 0 0 Q (F0 m 146 ls [])) {x8 : Int32} {x6 : Int64} {x4 : Int64} {x3 : Int32} {x1 : Int32} {s0 : Int32} {s1 : Int64} {si : Nat → Int32} {sj : Nat → Int64} {sa : Nat → Nat → Int32} {sb : Nat → Nat → Int64} (hf : f_Mo_stretch_257 nf K146 x8 x6 x4 x3 x1 s0 s1 si sj sa sb = some (r0, vi, vj, va, vb)) {H : Heap} {locs : List Loc} {ls : Array Slot} (hP : va_P (dC, dI) classes (moW h0 r cA si sj sa sb) H) (hD : va_D A (moW h0 r cA si sj sa sb)) (hS : va_S A s.heap H locs) (hl : lv_has ls 14 [(8, .int x8), (6, .long x6), (4, .long x4), (3, .int x3), (0, .ref h0), (1, .int x1)]) : W p l e R s m args below meth c H locs 0 0 Q (F0 m 257 ls [.int s0, .long s1, .ref h0]) := by
  obtain ⟨hx, hb, hr, hml, hown, hts, hlocks, hRf, hRl⟩ := id C0
  unfold f_Mo_stretch_257 at hf
  obtain ⟨⟨z_40, i_36, j_37, a_38, b_39⟩, hc, hf⟩ := ob hf
  have hFc := mo_free hD hS hA
  refine cl_M (v := (some (.int z_40))) (st1 := [.int z_40]) (va_runV (As := [.long s1, .int s0]) (rest := []) ⟨hx, hb, hml, hown, hts⟩ (c_Mo_addTime l dC dI h0 r cA H.size nf s1 s0 si sj sa sb hc) (cwV 2 hts (gdV m_8_96 m_8_98 msel_89 m_1_10 m_8_99) rfl rfl rfl (by decide +kernel) ⟨Nat.le_trans (Nat.le_of_ble_eq_true rfl) hRf, Nat.le_trans (Nat.le_of_ble_eq_true rfl) hRl⟩) ((MU.pre hP hK hD (hST.mu hS hFc)).vir (va_recv hK hP (ci := 10) (q0 := 0) rfl rfl)) rfl rfl hl.1 rfl (lv_room (Nat.le_of_ble_eq_true rfl)) d_Mo_stretch_257 ⟨Nat.zero_le _, Nat.zero_le _⟩) rfl hS (fun q _ h => hFc q h) hFc (fun t H1 locs ht hvm hB hz1 hk1 hS => ?_)
  obtain ⟨hP, hD⟩ := mo_back ht hD hB
  generalize H1 = H at hP hS ⊢
  refine lv_if_ne (tgt := 267) hx hb d_Mo_stretch_260 (by decide) (fun c_41 => ?_) (fun c_41 => ?_)
  · have hf := it_f c_41 hf
    refine lv_goto (tgt := 146) hx hb d_Mo_stretch_267 (by decide) ?_
    exact hK146 hf hP hD hS (lv_sub hl [0, 1, 2, 3, 4, 5] rfl)
  · have hf := it_t c_41 hf
    refine lv_ldcw (v := (-2147483648)) hx hb hown (hts (.constant "ZoneFilesModel" 429 (-2147483648)) m_8_53) d_Mo_stretch_263 ?_
    cases rs hf
    exact hE _ _ _ _ d_Mo_stretch_266 rfl hP hD hS
set_option maxHeartbeats 400000 in
set_option maxRecDepth 100000 in
theorem k_Mo_stretch_232 (C0 : Cx p s m meth c args R b_Mo_stretch "ZoneFilesModel" 14 (some .int) 6 153) (hST : ST A s s.heap) (hA : ∀ q, s.heap.size ≤ q → A q) (hK : va_K (dC, dI) classes (moT cA) s) (hE : ∀ (pc : Nat) (ls : Array Slot) (H : Heap) (locs : List Loc), decode b_Mo_stretch pc = .ok (.ireturn, 1) → narrow .int (.int r0) = .int r0 → va_P (dC, dI) classes (moW h0 r cA vi vj va vb) H → va_D A (moW h0 r cA vi vj va vb) → va_S A s.heap H locs → W p l e R s m args below meth c H locs 0 0 Q (F0 m pc ls [.int r0])) {K146 : Int32 → Int64 → Int64 → Int32 → Int32 → (Nat → Int32) → (Nat → Int64) → (Nat → Nat → Int32) → (Nat → Nat → Int64) → Option (Int32 × (Nat → Int32) × (Nat → Int64) × (Nat → Nat → Int32) × (Nat → Nat → Int64))} (hK146 : ∀ {x8 : Int32} {x6 : Int64} {x4 : Int64} {x3 : Int32} {x1 : Int32} {si : Nat → Int32} {sj : Nat → Int64} {sa : Nat → Nat → Int32} {sb : Nat → Nat → Int64}, K146 x8 x6 x4 x3 x1 si sj sa sb = some (r0, vi, vj, va, vb) → ∀ {H : Heap} {locs : List Loc} {ls : Array Slot}, va_P (dC, dI) classes (moW h0 r cA si sj sa sb) H → va_D A (moW h0 r cA si sj sa sb) → va_S A s.heap H locs → lv_has ls 14 [(8, .int x8), (6, .long x6), (4, .long x4), (3, .int x3), (0, .ref h0), (1, .int x1)] → W p l e R s m args below meth c H locs 0 0 Q (F0 m 146 ls [])) {K199 : Int64 → Int32 → Int64 → Int32 → Int64 → Int64 → Int32 → Int32 → (Nat → Int32) → (Nat → Int64) → (Nat → Nat → Int32) → (Nat → Nat → Int64) → Option (Int32 × (Nat → Int32) × (Nat → Int64) × (Nat → Nat → Int32) × (Nat → Nat → Int64))} (hK199 : ∀ {x12 : Int64} {x11 : Int32} {x9 : Int64} {x8 : Int32} {x6 : Int64} {x4 : Int64} {x3 : Int32} {x1 : Int32} {si : Nat → Int32} {sj : Nat → Int64} {sa : Nat → Nat → Int32} {sb : Nat → Nat → Int64}, K199 x12 x11 x9 x8 x6 x4 x3 x1 si sj sa sb = some (r0, vi, vj, va, vb) → ∀ {H : Heap} {locs : List Loc} {ls : Array Slot}, va_P (dC, dI) classes (moW h0 r cA si sj sa sb) H → va_D A (moW h0 r cA si sj sa sb) → va_S A s.heap H locs → lv_has ls 14 [(12, .long x12), (11, .int x11), (9, .long x9), (8, .int x8), (6, .long x6), (4, .long x4), (3, .int x3), (0, .ref h0), (1, .int x1)] → W p l e R s m args below meth c H locs 0 0 Q (F0 m 199 ls [])) {x12 : Int64} {x9 : Int64} {x8 : Int32} {x6 : Int64} {x4 : Int64} {x3 : Int32} {x1 : Int32} {s0 : Int32} {s1 : Int32} {si : Nat → Int32} {sj : Nat → Int64} {sa : Nat → Nat → Int32} {sb : Nat → Nat → Int64} (hf : f_Mo_stretch_232 nf K146 K199 x12 x9 x8 x6 x4 x3 x1 s0 s1 si sj sa sb = some (r0, vi, vj, va, vb)) {H : Heap} {locs : List Loc} {ls : Array Slot} (hP : va_P (dC, dI) classes (moW h0 r cA si sj sa sb) H) (hD : va_D A (moW h0 r cA si sj sa sb)) (hS : va_S A s.heap H locs) (hl : lv_has ls 14 [(12, .long x12), (9, .long x9), (8, .int x8), (6, .long x6), (4, .long x4), (3, .int x3), (0, .ref h0), (1, .int x1)]) : W p l e R s m args below meth c H locs 0 0 Q (F0 m 232 ls [.int s0, .int s1]) := by
  obtain ⟨hx, hb, hr, hml, hown, hts, hlocks, hRf, hRl⟩ := id C0
  unfold f_Mo_stretch_232 at hf
  refine lv_ior hx hb d_Mo_stretch_232 ?_
  refine lv_istore (lv' := [(11, .int (s1 ||| s0)), (12, .long x12), (9, .long x9), (8, .int x8), (6, .long x6), (4, .long x4), (3, .int x3), (0, .ref h0), (1, .int x1)]) hx hb d_Mo_stretch_233 hl (by decide) rfl (fun ls hl => ?_)
  refine lv_lload hx hb d_Mo_stretch_235 (lv_at hl 1 rfl) ?_
  refine lv_lconst (v := 1) hx hb d_Mo_stretch_237 (by decide) ?_
  refine lv_ladd hx hb d_Mo_stretch_238 ?_
  refine lv_lstore (lv' := [(12, .long (x12 + 1)), (11, .int (s1 ||| s0)), (9, .long x9), (8, .int x8), (6, .long x6), (4, .long x4), (3, .int x3), (0, .ref h0), (1, .int x1)]) hx hb d_Mo_stretch_239 hl (by decide) rfl (fun ls hl => ?_)
  refine lv_goto (tgt := 199) hx hb d_Mo_stretch_241 (by decide) ?_
  exact hK199 hf hP hD hS (lv_sub hl [0, 1, 2, 3, 4, 5, 6, 7, 8] rfl)
set_option maxHeartbeats 400000 in
set_option maxRecDepth 100000 in
theorem k_Mo_stretch_199 (C0 : Cx p s m meth c args R b_Mo_stretch "ZoneFilesModel" 14 (some .int) 6 153) (hST : ST A s s.heap) (hA : ∀ q, s.heap.size ≤ q → A q) (hK : va_K (dC, dI) classes (moT cA) s) (hE : ∀ (pc : Nat) (ls : Array Slot) (H : Heap) (locs : List Loc), decode b_Mo_stretch pc = .ok (.ireturn, 1) → narrow .int (.int r0) = .int r0 → va_P (dC, dI) classes (moW h0 r cA vi vj va vb) H → va_D A (moW h0 r cA vi vj va vb) → va_S A s.heap H locs → W p l e R s m args below meth c H locs 0 0 Q (F0 m pc ls [.int r0])) {K146 : Int32 → Int64 → Int64 → Int32 → Int32 → (Nat → Int32) → (Nat → Int64) → (Nat → Nat → Int32) → (Nat → Nat → Int64) → Option (Int32 × (Nat → Int32) × (Nat → Int64) × (Nat → Nat → Int32) × (Nat → Nat → Int64))} (hK146 : ∀ {x8 : Int32} {x6 : Int64} {x4 : Int64} {x3 : Int32} {x1 : Int32} {si : Nat → Int32} {sj : Nat → Int64} {sa : Nat → Nat → Int32} {sb : Nat → Nat → Int64}, K146 x8 x6 x4 x3 x1 si sj sa sb = some (r0, vi, vj, va, vb) → ∀ {H : Heap} {locs : List Loc} {ls : Array Slot}, va_P (dC, dI) classes (moW h0 r cA si sj sa sb) H → va_D A (moW h0 r cA si sj sa sb) → va_S A s.heap H locs → lv_has ls 14 [(8, .int x8), (6, .long x6), (4, .long x4), (3, .int x3), (0, .ref h0), (1, .int x1)] → W p l e R s m args below meth c H locs 0 0 Q (F0 m 146 ls [])) : ∀ (n : Nat) {x12 : Int64} {x11 : Int32} {x9 : Int64} {x8 : Int32} {x6 : Int64} {x4 : Int64} {x3 : Int32} {x1 : Int32} {si : Nat → Int32} {sj : Nat → Int64} {sa : Nat → Nat → Int32} {sb : Nat → Nat → Int64}, f_Mo_stretch_199 nf K146 n x12 x11 x9 x8 x6 x4 x3 x1 si sj sa sb = some (r0, vi, vj, va, vb) → ∀ {H : Heap} {locs : List Loc} {ls : Array Slot}, va_P (dC, dI) classes (moW h0 r cA si sj sa sb) H → va_D A (moW h0 r cA si sj sa sb) → va_S A s.heap H locs → lv_has ls 14 [(12, .long x12), (11, .int x11), (9, .long x9), (8, .int x8), (6, .long x6), (4, .long x4), (3, .int x3), (0, .ref h0), (1, .int x1)] → W p l e R s m args below meth c H locs 0 0 Q (F0 m 199 ls []) := by
  obtain ⟨hx, hb, hr, hml, hown, hts, hlocks, hRf, hRl⟩ := id C0
  intro n
  induction n with
  | zero =>
    intro x12 x11 x9 x8 x6 x4 x3 x1 si sj sa sb hf
    exact absurd hf (by simp [f_Mo_stretch_199])
  | succ n ih =>
    intro x12 x11 x9 x8 x6 x4 x3 x1 si sj sa sb hf H locs ls hP hD hS hl
    unfold f_Mo_stretch_199 at hf
    refine lv_lload hx hb d_Mo_stretch_199 (lv_at hl 0 rfl) ?_
    refine lv_lload hx hb d_Mo_stretch_201 (lv_at hl 2 rfl) ?_
    refine lv_ldc2 (v := 2) hx hb hown (hts (.constantLong "ZoneFilesModel" 305 2) m_7_239) d_Mo_stretch_203 ?_
    refine lv_ladd hx hb d_Mo_stretch_206 ?_
    refine lc_gt (tgt := 244) hx hb d_Mo_stretch_207 d_Mo_stretch_208 (by decide) (fun c_34 => ?_) (fun c_34 => ?_)
    · have hf := it_t c_34 hf
      refine lv_aload_n hx hb d_Mo_stretch_244 rfl (lv_at hl 7 rfl) ?_
      refine lv_lload hx hb d_Mo_stretch_245 (lv_at hl 4 rfl) ?_
      refine lv_iload hx hb d_Mo_stretch_247 (lv_at hl 1 rfl) ?_
      refine lv_if_eq (tgt := 256) hx hb d_Mo_stretch_249 (by decide) (fun c_35 => ?_) (fun c_35 => ?_)
      · have hf := it_t c_35 hf
        refine lv_iconst (v := 0) hx hb d_Mo_stretch_256 (by decide) ?_
        exact k_Mo_stretch_257 C0 hST hA hK hE hK146 hf hP hD hS (lv_sub hl [3, 4, 5, 6, 7, 8] rfl)
      · have hf := it_f c_35 hf
        refine lv_iconst (v := 1) hx hb d_Mo_stretch_252 (by decide) ?_
        refine lv_goto (tgt := 257) hx hb d_Mo_stretch_253 (by decide) ?_
        exact k_Mo_stretch_257 C0 hST hA hK hE hK146 hf hP hD hS (lv_sub hl [3, 4, 5, 6, 7, 8] rfl)
    · have hf := it_f c_34 hf
      refine lv_iload hx hb d_Mo_stretch_211 (lv_at hl 1 rfl) ?_
      refine lv_aload_n hx hb d_Mo_stretch_213 rfl (lv_at hl 7 rfl) ?_
      refine lv_iload_n hx hb d_Mo_stretch_214 rfl (lv_at hl 6 rfl) ?_
      refine lv_lload hx hb d_Mo_stretch_215 (lv_at hl 0 rfl) ?_
      refine lv_iconst (v := 0) hx hb d_Mo_stretch_217 (by decide) ?_
      obtain ⟨r_42, hc, hf⟩ := ob hf
      refine cl_S (v := (some (.long r_42))) (st1 := [.long r_42, .int x11]) (va_runV (As := [.int x3, .long x12, .int 0]) (rest := [.int x11]) ⟨hx, hb, hml, hown, hts⟩ (c_Mo_event l dC dI h0 r cA nf x3 x12 0 si sj sa sb hc) (cwV 3 hts (gdV m_8_3 m_8_5 msel_80 m_1_10 m_8_6) rfl rfl rfl (by decide +kernel) ⟨Nat.le_trans (Nat.le_of_ble_eq_true rfl) hRf, Nat.le_trans (Nat.le_of_ble_eq_true rfl) hRl⟩) ((RO.pre hP hK (hST.ro hS)).vir (va_recv hK hP (ci := 10) (q0 := 0) rfl rfl)) rfl rfl hl.1 rfl (lv_room (Nat.le_of_ble_eq_true rfl)) d_Mo_stretch_218 ⟨Nat.zero_le _, Nat.zero_le _⟩) rfl ?_
      refine lv_lload hx hb d_Mo_stretch_221 (lv_at hl 4 rfl) ?_
      refine lc_ne (tgt := 231) hx hb d_Mo_stretch_223 d_Mo_stretch_224 (by decide) (fun c_43 => ?_) (fun c_43 => ?_)
      · have hf := it_f c_43 hf
        refine lv_iconst (v := 0) hx hb d_Mo_stretch_231 (by decide) ?_
        exact k_Mo_stretch_232 C0 hST hA hK hE hK146 (fun hf => ih hf) hf hP hD hS (lv_sub hl [0, 2, 3, 4, 5, 6, 7, 8] rfl)
      · have hf := it_t c_43 hf
        refine lv_iconst (v := 1) hx hb d_Mo_stretch_227 (by decide) ?_
        refine lv_goto (tgt := 232) hx hb d_Mo_stretch_228 (by decide) ?_
        exact k_Mo_stretch_232 C0 hST hA hK hE hK146 (fun hf => ih hf) hf hP hD hS (lv_sub hl [0, 2, 3, 4, 5, 6, 7, 8] rfl)
set_option maxHeartbeats 400000 in
set_option maxRecDepth 100000 in
theorem k_Mo_stretch_173 (C0 : Cx p s m meth c args R b_Mo_stretch "ZoneFilesModel" 14 (some .int) 6 153) (hST : ST A s s.heap) (hA : ∀ q, s.heap.size ≤ q → A q) (hK : va_K (dC, dI) classes (moT cA) s) (hE : ∀ (pc : Nat) (ls : Array Slot) (H : Heap) (locs : List Loc), decode b_Mo_stretch pc = .ok (.ireturn, 1) → narrow .int (.int r0) = .int r0 → va_P (dC, dI) classes (moW h0 r cA vi vj va vb) H → va_D A (moW h0 r cA vi vj va vb) → va_S A s.heap H locs → W p l e R s m args below meth c H locs 0 0 Q (F0 m pc ls [.int r0])) {K146 : Int32 → Int64 → Int64 → Int32 → Int32 → (Nat → Int32) → (Nat → Int64) → (Nat → Nat → Int32) → (Nat → Nat → Int64) → Option (Int32 × (Nat → Int32) × (Nat → Int64) × (Nat → Nat → Int32) × (Nat → Nat → Int64))} (hK146 : ∀ {x8 : Int32} {x6 : Int64} {x4 : Int64} {x3 : Int32} {x1 : Int32} {si : Nat → Int32} {sj : Nat → Int64} {sa : Nat → Nat → Int32} {sb : Nat → Nat → Int64}, K146 x8 x6 x4 x3 x1 si sj sa sb = some (r0, vi, vj, va, vb) → ∀ {H : Heap} {locs : List Loc} {ls : Array Slot}, va_P (dC, dI) classes (moW h0 r cA si sj sa sb) H → va_D A (moW h0 r cA si sj sa sb) → va_S A s.heap H locs → lv_has ls 14 [(8, .int x8), (6, .long x6), (4, .long x4), (3, .int x3), (0, .ref h0), (1, .int x1)] → W p l e R s m args below meth c H locs 0 0 Q (F0 m 146 ls [])) {x6 : Int64} {x4 : Int64} {x3 : Int32} {x1 : Int32} {s0 : Int32} {si : Nat → Int32} {sj : Nat → Int64} {sa : Nat → Nat → Int32} {sb : Nat → Nat → Int64} (hf : f_Mo_stretch_173 nf K146 x6 x4 x3 x1 s0 si sj sa sb = some (r0, vi, vj, va, vb)) {H : Heap} {locs : List Loc} {ls : Array Slot} (hP : va_P (dC, dI) classes (moW h0 r cA si sj sa sb) H) (hD : va_D A (moW h0 r cA si sj sa sb)) (hS : va_S A s.heap H locs) (hl : lv_has ls 14 [(6, .long x6), (4, .long x4), (3, .int x3), (0, .ref h0), (1, .int x1)]) : W p l e R s m args below meth c H locs 0 0 Q (F0 m 173 ls [.int s0]) := by
  obtain ⟨hx, hb, hr, hml, hown, hts, hlocks, hRf, hRl⟩ := id C0
  unfold f_Mo_stretch_173 at hf
  refine lv_istore (lv' := [(8, .int s0), (6, .long x6), (4, .long x4), (3, .int x3), (0, .ref h0), (1, .int x1)]) hx hb d_Mo_stretch_173 hl (by decide) rfl (fun ls hl => ?_)
  refine lv_iload hx hb d_Mo_stretch_175 (lv_at hl 0 rfl) ?_
  refine lv_if_eq (tgt := 146) hx hb d_Mo_stretch_177 (by decide) (fun c_28 => ?_) (fun c_28 => ?_)
  · have hf := it_t c_28 hf
    exact hK146 hf hP hD hS (lv_sub hl [0, 1, 2, 3, 4, 5] rfl)
  · have hf := it_f c_28 hf
    refine lv_aload_n hx hb d_Mo_stretch_180 rfl (lv_at hl 4 rfl) ?_
    refine lv_lload hx hb d_Mo_stretch_181 (lv_at hl 1 rfl) ?_
    obtain ⟨⟨z_33, i_29, j_30, a_31, b_32⟩, hc, hf⟩ := ob hf
    have hFc := mo_free hD hS hA
    refine cl_M (v := (some (.long z_33))) (st1 := [.long z_33]) (va_runV (As := [.long x6]) (rest := []) ⟨hx, hb, hml, hown, hts⟩ (c_Mo_about l dC dI h0 r cA H.size nf x6 si sj sa sb hc) (cwV 1 hts (gdV m_7_220 m_7_222 msel_78 m_1_10 m_7_223) rfl rfl rfl (by decide +kernel) ⟨Nat.le_trans (Nat.le_of_ble_eq_true rfl) hRf, Nat.le_trans (Nat.le_of_ble_eq_true rfl) hRl⟩) ((MU.pre hP hK hD (hST.mu hS hFc)).vir (va_recv hK hP (ci := 10) (q0 := 0) rfl rfl)) rfl rfl hl.1 rfl (lv_room (Nat.le_of_ble_eq_true rfl)) d_Mo_stretch_183 ⟨Nat.zero_le _, Nat.zero_le _⟩) rfl hS (fun q _ h => hFc q h) hFc (fun t H1 locs ht hvm hB hz1 hk1 hS => ?_)
    obtain ⟨hP, hD⟩ := mo_back ht hD hB
    generalize H1 = H at hP hS ⊢
    refine lv_lstore (lv' := [(9, .long z_33), (8, .int s0), (6, .long x6), (4, .long x4), (3, .int x3), (0, .ref h0), (1, .int x1)]) hx hb d_Mo_stretch_186 hl (by decide) rfl (fun ls hl => ?_)
    refine lv_iconst (v := 0) hx hb d_Mo_stretch_188 (by decide) ?_
    refine lv_istore (lv' := [(11, .int 0), (9, .long z_33), (8, .int s0), (6, .long x6), (4, .long x4), (3, .int x3), (0, .ref h0), (1, .int x1)]) hx hb d_Mo_stretch_189 hl (by decide) rfl (fun ls hl => ?_)
    refine lv_lload hx hb d_Mo_stretch_191 (lv_at hl 1 rfl) ?_
    refine lv_ldc2 (v := 2) hx hb hown (hts (.constantLong "ZoneFilesModel" 305 2) m_7_239) d_Mo_stretch_193 ?_
    refine lv_lsub hx hb d_Mo_stretch_196 ?_
    refine lv_lstore (lv' := [(12, .long (z_33 - 2)), (11, .int 0), (9, .long z_33), (8, .int s0), (6, .long x6), (4, .long x4), (3, .int x3), (0, .ref h0), (1, .int x1)]) hx hb d_Mo_stretch_197 hl (by decide) rfl (fun ls hl => ?_)
    exact k_Mo_stretch_199 C0 hST hA hK hE hK146 nf hf hP hD hS (lv_sub hl [0, 1, 2, 3, 4, 5, 6, 7, 8] rfl)
set_option maxHeartbeats 400000 in
set_option maxRecDepth 100000 in
theorem k_Mo_stretch_146 (C0 : Cx p s m meth c args R b_Mo_stretch "ZoneFilesModel" 14 (some .int) 6 153) (hST : ST A s s.heap) (hA : ∀ q, s.heap.size ≤ q → A q) (hK : va_K (dC, dI) classes (moT cA) s) (hE : ∀ (pc : Nat) (ls : Array Slot) (H : Heap) (locs : List Loc), decode b_Mo_stretch pc = .ok (.ireturn, 1) → narrow .int (.int r0) = .int r0 → va_P (dC, dI) classes (moW h0 r cA vi vj va vb) H → va_D A (moW h0 r cA vi vj va vb) → va_S A s.heap H locs → W p l e R s m args below meth c H locs 0 0 Q (F0 m pc ls [.int r0])) : ∀ (n : Nat) {x8 : Int32} {x6 : Int64} {x4 : Int64} {x3 : Int32} {x1 : Int32} {si : Nat → Int32} {sj : Nat → Int64} {sa : Nat → Nat → Int32} {sb : Nat → Nat → Int64}, f_Mo_stretch_146 nf n x8 x6 x4 x3 x1 si sj sa sb = some (r0, vi, vj, va, vb) → ∀ {H : Heap} {locs : List Loc} {ls : Array Slot}, va_P (dC, dI) classes (moW h0 r cA si sj sa sb) H → va_D A (moW h0 r cA si sj sa sb) → va_S A s.heap H locs → lv_has ls 14 [(8, .int x8), (6, .long x6), (4, .long x4), (3, .int x3), (0, .ref h0), (1, .int x1)] → W p l e R s m args below meth c H locs 0 0 Q (F0 m 146 ls []) := by
  obtain ⟨hx, hb, hr, hml, hown, hts, hlocks, hRf, hRl⟩ := id C0
  intro n
  induction n with
  | zero =>
    intro x8 x6 x4 x3 x1 si sj sa sb hf
    exact absurd hf (by simp [f_Mo_stretch_146])
  | succ n ih =>
    intro x8 x6 x4 x3 x1 si sj sa sb hf H locs ls hP hD hS hl
    unfold f_Mo_stretch_146 at hf
    refine lv_iload hx hb d_Mo_stretch_146 (lv_at hl 0 rfl) ?_
    refine lv_if_eq (tgt := 270) hx hb d_Mo_stretch_148 (by decide) (fun c_16 => ?_) (fun c_16 => ?_)
    · have hf := it_t c_16 hf
      refine lv_aload_n hx hb d_Mo_stretch_270 rfl (lv_at hl 4 rfl) ?_
      refine lv_iload_n hx hb d_Mo_stretch_271 rfl (lv_at hl 5 rfl) ?_
      refine lv_iconst (v := 4) hx hb d_Mo_stretch_272 (by decide) ?_
      obtain ⟨⟨i_17, j_18, a_19, b_20⟩, hc, hf⟩ := ob hf
      have hFc := mo_free hD hS hA
      refine cl_M (v := none) (st1 := []) (va_runV (As := [.int x1, .int 4]) (rest := []) ⟨hx, hb, hml, hown, hts⟩ (c_Mo_put l dC dI h0 r cA H.size nf x1 4 si sj sa sb hc) (cwV 2 hts (gdV m_6_124 m_6_126 msel_57 m_1_10 m_6_127) rfl rfl rfl (by decide +kernel) ⟨Nat.le_trans (Nat.le_of_ble_eq_true rfl) hRf, Nat.le_trans (Nat.le_of_ble_eq_true rfl) hRl⟩) ((MU.pre hP hK hD (hST.mu hS hFc)).vir (va_recv hK hP (ci := 10) (q0 := 0) rfl rfl)) rfl rfl hl.1 rfl (lv_room (Nat.le_of_ble_eq_true rfl)) d_Mo_stretch_273 ⟨Nat.zero_le _, Nat.zero_le _⟩) rfl hS (fun q _ h => hFc q h) hFc (fun t H1 locs ht hvm hB hz1 hk1 hS => ?_)
      obtain ⟨hP, hD⟩ := mo_back ht hD hB
      generalize H1 = H at hP hS ⊢
      refine lv_aload_n hx hb d_Mo_stretch_276 rfl (lv_at hl 4 rfl) ?_
      refine mg_5 hx hb hts hown hK hP d_Mo_stretch_277 ?_
      refine lv_iload_n hx hb d_Mo_stretch_280 rfl (lv_at hl 5 rfl) ?_
      obtain ⟨c_21, hf⟩ := it_n hf
      refine ma_5 (v := a_19 5 x1.toNatClampNeg) hx hb hK hP c_21 rfl d_Mo_stretch_281 ?_
      cases rs hf
      exact hE _ _ _ _ d_Mo_stretch_282 rfl hP hD hS
    · have hf := it_f c_16 hf
      refine lv_aload_n hx hb d_Mo_stretch_151 rfl (lv_at hl 4 rfl) ?_
      refine lv_iload_n hx hb d_Mo_stretch_152 rfl (lv_at hl 3 rfl) ?_
      refine lv_lload hx hb d_Mo_stretch_153 (lv_at hl 1 rfl) ?_
      obtain ⟨⟨z_26, i_22, j_23, a_24, b_25⟩, hc, hf⟩ := ob hf
      have hFc := mo_free hD hS hA
      refine cl_M (v := (some (.long z_26))) (st1 := [.long z_26]) (va_runV (As := [.int x3, .long x6]) (rest := []) ⟨hx, hb, hml, hown, hts⟩ (c_Mo_eventAbove l dC dI h0 r cA H.size nf x3 x6 si sj sa sb hc) (cwV 2 hts (gdV m_8_78 m_8_80 msel_87 m_1_10 m_8_81) rfl rfl rfl (by decide +kernel) ⟨Nat.le_trans (Nat.le_of_ble_eq_true rfl) hRf, Nat.le_trans (Nat.le_of_ble_eq_true rfl) hRl⟩) ((MU.pre hP hK hD (hST.mu hS hFc)).vir (va_recv hK hP (ci := 10) (q0 := 0) rfl rfl)) rfl rfl hl.1 rfl (lv_room (Nat.le_of_ble_eq_true rfl)) d_Mo_stretch_155 ⟨Nat.zero_le _, Nat.zero_le _⟩) rfl hS (fun q _ h => hFc q h) hFc (fun t H1 locs ht hvm hB hz1 hk1 hS => ?_)
      obtain ⟨hP, hD⟩ := mo_back ht hD hB
      generalize H1 = H at hP hS ⊢
      refine lv_lstore (lv' := [(6, .long z_26), (8, .int x8), (4, .long x4), (3, .int x3), (0, .ref h0), (1, .int x1)]) hx hb d_Mo_stretch_158 hl (by decide) rfl (fun ls hl => ?_)
      refine lv_lload hx hb d_Mo_stretch_160 (lv_at hl 0 rfl) ?_
      refine lv_lload hx hb d_Mo_stretch_162 (lv_at hl 2 rfl) ?_
      refine lc_ge (tgt := 172) hx hb d_Mo_stretch_164 d_Mo_stretch_165 (by decide) (fun c_27 => ?_) (fun c_27 => ?_)
      · have hf := it_t c_27 hf
        refine lv_iconst (v := 0) hx hb d_Mo_stretch_172 (by decide) ?_
        exact k_Mo_stretch_173 C0 hST hA hK hE (fun hf => ih hf) hf hP hD hS (lv_sub hl [0, 2, 3, 4, 5] rfl)
      · have hf := it_f c_27 hf
        refine lv_iconst (v := 1) hx hb d_Mo_stretch_168 (by decide) ?_
        refine lv_goto (tgt := 173) hx hb d_Mo_stretch_169 (by decide) ?_
        exact k_Mo_stretch_173 C0 hST hA hK hE (fun hf => ih hf) hf hP hD hS (lv_sub hl [0, 2, 3, 4, 5] rfl)
set_option maxHeartbeats 400000 in
set_option maxRecDepth 100000 in
theorem k_Mo_stretch_144 (C0 : Cx p s m meth c args R b_Mo_stretch "ZoneFilesModel" 14 (some .int) 6 153) (hST : ST A s s.heap) (hA : ∀ q, s.heap.size ≤ q → A q) (hK : va_K (dC, dI) classes (moT cA) s) (hE : ∀ (pc : Nat) (ls : Array Slot) (H : Heap) (locs : List Loc), decode b_Mo_stretch pc = .ok (.ireturn, 1) → narrow .int (.int r0) = .int r0 → va_P (dC, dI) classes (moW h0 r cA vi vj va vb) H → va_D A (moW h0 r cA vi vj va vb) → va_S A s.heap H locs → W p l e R s m args below meth c H locs 0 0 Q (F0 m pc ls [.int r0])) {x6 : Int64} {x4 : Int64} {x3 : Int32} {x1 : Int32} {s0 : Int32} {si : Nat → Int32} {sj : Nat → Int64} {sa : Nat → Nat → Int32} {sb : Nat → Nat → Int64} (hf : f_Mo_stretch_144 nf x6 x4 x3 x1 s0 si sj sa sb = some (r0, vi, vj, va, vb)) {H : Heap} {locs : List Loc} {ls : Array Slot} (hP : va_P (dC, dI) classes (moW h0 r cA si sj sa sb) H) (hD : va_D A (moW h0 r cA si sj sa sb)) (hS : va_S A s.heap H locs) (hl : lv_has ls 14 [(6, .long x6), (4, .long x4), (3, .int x3), (0, .ref h0), (1, .int x1)]) : W p l e R s m args below meth c H locs 0 0 Q (F0 m 144 ls [.int s0]) := by
  obtain ⟨hx, hb, hr, hml, hown, hts, hlocks, hRf, hRl⟩ := id C0
  unfold f_Mo_stretch_144 at hf
  refine lv_istore (lv' := [(8, .int s0), (6, .long x6), (4, .long x4), (3, .int x3), (0, .ref h0), (1, .int x1)]) hx hb d_Mo_stretch_144 hl (by decide) rfl (fun ls hl => ?_)
  exact k_Mo_stretch_146 C0 hST hA hK hE nf hf hP hD hS (lv_sub hl [0, 1, 2, 3, 4, 5] rfl)
set_option maxHeartbeats 400000 in
set_option maxRecDepth 100000 in
theorem k_Mo_stretch_115 (C0 : Cx p s m meth c args R b_Mo_stretch "ZoneFilesModel" 14 (some .int) 6 153) (hST : ST A s s.heap) (hA : ∀ q, s.heap.size ≤ q → A q) (hK : va_K (dC, dI) classes (moT cA) s) (hE : ∀ (pc : Nat) (ls : Array Slot) (H : Heap) (locs : List Loc), decode b_Mo_stretch pc = .ok (.ireturn, 1) → narrow .int (.int r0) = .int r0 → va_P (dC, dI) classes (moW h0 r cA vi vj va vb) H → va_D A (moW h0 r cA vi vj va vb) → va_S A s.heap H locs → W p l e R s m args below meth c H locs 0 0 Q (F0 m pc ls [.int r0])) {x4 : Int64} {x3 : Int32} {x1 : Int32} {s0 : Int64} {si : Nat → Int32} {sj : Nat → Int64} {sa : Nat → Nat → Int32} {sb : Nat → Nat → Int64} (hf : f_Mo_stretch_115 nf x4 x3 x1 s0 si sj sa sb = some (r0, vi, vj, va, vb)) {H : Heap} {locs : List Loc} {ls : Array Slot} (hP : va_P (dC, dI) classes (moW h0 r cA si sj sa sb) H) (hD : va_D A (moW h0 r cA si sj sa sb)) (hS : va_S A s.heap H locs) (hl : lv_has ls 14 [(4, .long x4), (3, .int x3), (0, .ref h0), (1, .int x1)]) : W p l e R s m args below meth c H locs 0 0 Q (F0 m 115 ls [.long s0]) := by
  obtain ⟨hx, hb, hr, hml, hown, hts, hlocks, hRf, hRl⟩ := id C0
  unfold f_Mo_stretch_115 at hf
  refine lv_lstore (lv' := [(6, .long s0), (4, .long x4), (3, .int x3), (0, .ref h0), (1, .int x1)]) hx hb d_Mo_stretch_115 hl (by decide) rfl (fun ls hl => ?_)
  refine lv_lload hx hb d_Mo_stretch_117 (lv_at hl 0 rfl) ?_
  refine lv_ldc2 (v := (-1152921504606846976)) hx hb hown (hts (.constantLong "ZoneFilesModel" 331 (-1152921504606846976)) m_7_162) d_Mo_stretch_119 ?_
  refine lc_gt (tgt := 130) hx hb d_Mo_stretch_122 d_Mo_stretch_123 (by decide) (fun c_14 => ?_) (fun c_14 => ?_)
  · have hf := it_t c_14 hf
    refine lv_lload hx hb d_Mo_stretch_130 (lv_at hl 0 rfl) ?_
    refine lv_ldc2 (v := 1152921504606846976) hx hb hown (hts (.constantLong "ZoneFilesModel" 333 1152921504606846976) m_7_163) d_Mo_stretch_132 ?_
    refine lc_ge (tgt := 143) hx hb d_Mo_stretch_135 d_Mo_stretch_136 (by decide) (fun c_15 => ?_) (fun c_15 => ?_)
    · have hf := it_t c_15 hf
      refine lv_iconst (v := 0) hx hb d_Mo_stretch_143 (by decide) ?_
      exact k_Mo_stretch_144 C0 hST hA hK hE hf hP hD hS (lv_sub hl [0, 1, 2, 3, 4] rfl)
    · have hf := it_f c_15 hf
      refine lv_iconst (v := 1) hx hb d_Mo_stretch_139 (by decide) ?_
      refine lv_goto (tgt := 144) hx hb d_Mo_stretch_140 (by decide) ?_
      exact k_Mo_stretch_144 C0 hST hA hK hE hf hP hD hS (lv_sub hl [0, 1, 2, 3, 4] rfl)
  · have hf := it_f c_14 hf
    refine lv_ldcw (v := (-2147483648)) hx hb hown (hts (.constant "ZoneFilesModel" 429 (-2147483648)) m_8_53) d_Mo_stretch_126 ?_
    cases rs hf
    exact hE _ _ _ _ d_Mo_stretch_129 rfl hP hD hS
set_option maxHeartbeats 400000 in
set_option maxRecDepth 100000 in
theorem k_Mo_stretch_46 (C0 : Cx p s m meth c args R b_Mo_stretch "ZoneFilesModel" 14 (some .int) 6 153) (hST : ST A s s.heap) (hA : ∀ q, s.heap.size ≤ q → A q) (hK : va_K (dC, dI) classes (moT cA) s) (hE : ∀ (pc : Nat) (ls : Array Slot) (H : Heap) (locs : List Loc), decode b_Mo_stretch pc = .ok (.ireturn, 1) → narrow .int (.int r0) = .int r0 → va_P (dC, dI) classes (moW h0 r cA vi vj va vb) H → va_D A (moW h0 r cA vi vj va vb) → va_S A s.heap H locs → W p l e R s m args below meth c H locs 0 0 Q (F0 m pc ls [.int r0])) {x1 : Int32} {x2 : Int32} {s0 : Int32} {si : Nat → Int32} {sj : Nat → Int64} {sa : Nat → Nat → Int32} {sb : Nat → Nat → Int64} (hf : f_Mo_stretch_46 nf x1 x2 s0 si sj sa sb = some (r0, vi, vj, va, vb)) {H : Heap} {locs : List Loc} {ls : Array Slot} (hP : va_P (dC, dI) classes (moW h0 r cA si sj sa sb) H) (hD : va_D A (moW h0 r cA si sj sa sb)) (hS : va_S A s.heap H locs) (hl : lv_has ls 14 [(0, .ref h0), (1, .int x1), (2, .int x2)]) : W p l e R s m args below meth c H locs 0 0 Q (F0 m 46 ls [.int s0, .ref h0]) := by
  obtain ⟨hx, hb, hr, hml, hown, hts, hlocks, hRf, hRl⟩ := id C0
  unfold f_Mo_stretch_46 at hf
  refine mp_3 hx hb hts hown hK hP hD hS d_Mo_stretch_46 (fun H locs hP hD hS => ?_)
  refine lv_aload_n hx hb d_Mo_stretch_49 rfl (lv_at hl 0 rfl) ?_
  refine mg_3 (v := s0) hx hb hts hown hK hP rfl d_Mo_stretch_50 ?_
  refine lv_if_le (tgt := 58) hx hb d_Mo_stretch_53 (by decide) (fun c_4 => ?_) (fun c_4 => ?_)
  · have hf := it_t c_4 hf
    refine lv_aload_n hx hb d_Mo_stretch_58 rfl (lv_at hl 0 rfl) ?_
    refine lv_iconst (v := 4) hx hb d_Mo_stretch_59 (by decide) ?_
    refine lv_iload_n hx hb d_Mo_stretch_60 rfl (lv_at hl 1 rfl) ?_
    obtain ⟨⟨i_5, j_6, a_7, b_8⟩, hc, hf⟩ := ob hf
    have hFc := mo_free hD hS hA
    refine cl_M (v := none) (st1 := []) (va_runV (As := [.int 4, .int x1]) (rest := []) ⟨hx, hb, hml, hown, hts⟩ (c_Mo_put l dC dI h0 r cA H.size nf 4 x1 (va_up si 3 s0) sj sa sb hc) (cwV 2 hts (gdV m_6_124 m_6_126 msel_57 m_1_10 m_6_127) rfl rfl rfl (by decide +kernel) ⟨Nat.le_trans (Nat.le_of_ble_eq_true rfl) hRf, Nat.le_trans (Nat.le_of_ble_eq_true rfl) hRl⟩) ((MU.pre hP hK hD (hST.mu hS hFc)).vir (va_recv hK hP (ci := 10) (q0 := 0) rfl rfl)) rfl rfl hl.1 rfl (lv_room (Nat.le_of_ble_eq_true rfl)) d_Mo_stretch_61 ⟨Nat.zero_le _, Nat.zero_le _⟩) rfl hS (fun q _ h => hFc q h) hFc (fun t H1 locs ht hvm hB hz1 hk1 hS => ?_)
    obtain ⟨hP, hD⟩ := mo_back ht hD hB
    generalize H1 = H at hP hS ⊢
    refine lv_iconst (v := 4) hx hb d_Mo_stretch_64 (by decide) ?_
    refine lv_istore_n (lv' := [(3, .int 4), (0, .ref h0), (1, .int x1), (2, .int x2)]) hx hb d_Mo_stretch_65 rfl hl (by decide) rfl (fun ls hl => ?_)
    refine lv_iload_n hx hb d_Mo_stretch_66 rfl (lv_at hl 3 rfl) ?_
    refine lv_i2l hx hb d_Mo_stretch_67 rfl ?_
    refine lv_lconst (v := 1) hx hb d_Mo_stretch_68 (by decide) ?_
    refine lv_ladd hx hb d_Mo_stretch_69 ?_
    refine lv_iconst (v := 1) hx hb d_Mo_stretch_70 (by decide) ?_
    refine lv_iconst (v := 1) hx hb d_Mo_stretch_71 (by decide) ?_
    obtain ⟨r_9, hc, hf⟩ := ob hf
    refine cl_S (v := (some (.long r_9))) (st1 := [.long r_9]) (va_runS (As := [.long (x2.toInt64 + 1), .int 1, .int 1]) (rest := []) ⟨hx, hb, hml, hown, hts⟩ (c_Mo_days l dC dI nf (x2.toInt64 + 1) 1 1 hc) (va_cwS 3 hts (gdS m_8_11 m_8_12 m_1_10 m_8_13) rfl rfl rfl (by decide +kernel) ⟨Nat.le_trans (Nat.le_of_ble_eq_true rfl) hRf, Nat.le_trans (Nat.le_of_ble_eq_true rfl) hRl⟩) (RO.pre0 hK (hST.ro hS)).sta rfl rfl hl.1 rfl (lv_room (Nat.le_of_ble_eq_true rfl)) d_Mo_stretch_72 ⟨Nat.zero_le _, Nat.zero_le _⟩) rfl ?_
    refine lv_ldc2 (v := 86400) hx hb hown (hts (.constantLong "ZoneFilesModel" 335 86400) m_7_224) d_Mo_stretch_75 ?_
    refine lv_lmul hx hb d_Mo_stretch_78 ?_
    refine lv_lstore (lv' := [(4, .long (r_9 * 86400)), (3, .int 4), (0, .ref h0), (1, .int x1), (2, .int x2)]) hx hb d_Mo_stretch_79 hl (by decide) rfl (fun ls hl => ?_)
    refine lv_aload_n hx hb d_Mo_stretch_81 rfl (lv_at hl 2 rfl) ?_
    refine mg_5 hx hb hts hown hK hP d_Mo_stretch_82 ?_
    refine lv_iload_n hx hb d_Mo_stretch_85 rfl (lv_at hl 1 rfl) ?_
    obtain ⟨c_10, hf⟩ := it_n hf
    refine ma_5 (v := a_7 5 (4 : Int32).toNatClampNeg) hx hb hK hP c_10 rfl d_Mo_stretch_86 ?_
    refine lv_if_ne (tgt := 96) hx hb d_Mo_stretch_87 (by decide) (fun c_11 => ?_) (fun c_11 => ?_)
    · have hf := it_f c_11 hf
      refine lv_aload_n hx hb d_Mo_stretch_96 rfl (lv_at hl 2 rfl) ?_
      refine mg_12 hx hb hts hown hK hP d_Mo_stretch_97 ?_
      refine lv_sipush (v := 200) hx hb d_Mo_stretch_100 (by decide) ?_
      refine lv_iload_n hx hb d_Mo_stretch_103 rfl (lv_at hl 1 rfl) ?_
      refine lv_imul hx hb d_Mo_stretch_104 ?_
      refine lv_aload_n hx hb d_Mo_stretch_105 rfl (lv_at hl 2 rfl) ?_
      refine mg_5 hx hb hts hown hK hP d_Mo_stretch_106 ?_
      refine lv_iload_n hx hb d_Mo_stretch_109 rfl (lv_at hl 1 rfl) ?_
      obtain ⟨c_12, hf⟩ := it_n hf
      refine ma_5 (v := a_7 5 (4 : Int32).toNatClampNeg) hx hb hK hP c_12 rfl d_Mo_stretch_110 ?_
      refine lv_iadd hx hb d_Mo_stretch_111 ?_
      refine lv_iconst (v := 1) hx hb d_Mo_stretch_112 (by decide) ?_
      refine lv_isub hx hb d_Mo_stretch_113 ?_
      obtain ⟨c_13, hf⟩ := it_n hf
      refine ma_12 (v := b_8 12 (((200 * 4) + (a_7 5 (4 : Int32).toNatClampNeg)) - 1).toNatClampNeg) hx hb hK hP c_13 rfl d_Mo_stretch_114 ?_
      exact k_Mo_stretch_115 C0 hST hA hK hE hf hP hD hS (lv_sub hl [0, 1, 2, 3] rfl)
    · have hf := it_t c_11 hf
      refine lv_ldc2 (v := (-1)) hx hb hown (hts (.constantLong "ZoneFilesModel" 267 (-1)) m_7_185) d_Mo_stretch_90 ?_
      refine lv_goto (tgt := 115) hx hb d_Mo_stretch_93 (by decide) ?_
      exact k_Mo_stretch_115 C0 hST hA hK hE hf hP hD hS (lv_sub hl [0, 1, 2, 3] rfl)
  · have hf := it_f c_4 hf
    refine lv_iconst (v := 0) hx hb d_Mo_stretch_56 (by decide) ?_
    cases rs hf
    exact hE _ _ _ _ d_Mo_stretch_57 rfl hP hD hS
set_option maxHeartbeats 400000 in
set_option maxRecDepth 100000 in
theorem k_Mo_stretch_27 (C0 : Cx p s m meth c args R b_Mo_stretch "ZoneFilesModel" 14 (some .int) 6 153) (hST : ST A s s.heap) (hA : ∀ q, s.heap.size ≤ q → A q) (hK : va_K (dC, dI) classes (moT cA) s) (hE : ∀ (pc : Nat) (ls : Array Slot) (H : Heap) (locs : List Loc), decode b_Mo_stretch pc = .ok (.ireturn, 1) → narrow .int (.int r0) = .int r0 → va_P (dC, dI) classes (moW h0 r cA vi vj va vb) H → va_D A (moW h0 r cA vi vj va vb) → va_S A s.heap H locs → W p l e R s m args below meth c H locs 0 0 Q (F0 m pc ls [.int r0])) {x1 : Int32} {x2 : Int32} {si : Nat → Int32} {sj : Nat → Int64} {sa : Nat → Nat → Int32} {sb : Nat → Nat → Int64} (hf : f_Mo_stretch_27 nf x1 x2 si sj sa sb = some (r0, vi, vj, va, vb)) {H : Heap} {locs : List Loc} {ls : Array Slot} (hP : va_P (dC, dI) classes (moW h0 r cA si sj sa sb) H) (hD : va_D A (moW h0 r cA si sj sa sb)) (hS : va_S A s.heap H locs) (hl : lv_has ls 14 [(0, .ref h0), (1, .int x1), (2, .int x2)]) : W p l e R s m args below meth c H locs 0 0 Q (F0 m 27 ls [.ref h0]) := by
  obtain ⟨hx, hb, hr, hml, hown, hts, hlocks, hRf, hRl⟩ := id C0
  unfold f_Mo_stretch_27 at hf
  refine lv_iconst (v := 2) hx hb d_Mo_stretch_27 (by decide) ?_
  refine lv_goto (tgt := 46) hx hb d_Mo_stretch_28 (by decide) ?_
  exact k_Mo_stretch_46 C0 hST hA hK hE hf hP hD hS (lv_sub hl [0, 1, 2] rfl)
set_option maxHeartbeats 400000 in
set_option maxRecDepth 100000 in
theorem k_Mo_stretch_0 (C0 : Cx p s m meth c args R b_Mo_stretch "ZoneFilesModel" 14 (some .int) 6 153) (hST : ST A s s.heap) (hA : ∀ q, s.heap.size ≤ q → A q) (hK : va_K (dC, dI) classes (moT cA) s) (hE : ∀ (pc : Nat) (ls : Array Slot) (H : Heap) (locs : List Loc), decode b_Mo_stretch pc = .ok (.ireturn, 1) → narrow .int (.int r0) = .int r0 → va_P (dC, dI) classes (moW h0 r cA vi vj va vb) H → va_D A (moW h0 r cA vi vj va vb) → va_S A s.heap H locs → W p l e R s m args below meth c H locs 0 0 Q (F0 m pc ls [.int r0])) {x1 : Int32} {x2 : Int32} {si : Nat → Int32} {sj : Nat → Int64} {sa : Nat → Nat → Int32} {sb : Nat → Nat → Int64} (hf : f_Mo_stretch_0 nf x1 x2 si sj sa sb = some (r0, vi, vj, va, vb)) {H : Heap} {locs : List Loc} {ls : Array Slot} (hP : va_P (dC, dI) classes (moW h0 r cA si sj sa sb) H) (hD : va_D A (moW h0 r cA si sj sa sb)) (hS : va_S A s.heap H locs) (hl : lv_has ls 14 [(0, .ref h0), (1, .int x1), (2, .int x2)]) : W p l e R s m args below meth c H locs 0 0 Q (F0 m 0 ls []) := by
  obtain ⟨hx, hb, hr, hml, hown, hts, hlocks, hRf, hRl⟩ := id C0
  unfold f_Mo_stretch_0 at hf
  refine lv_aload_n hx hb d_Mo_stretch_0 rfl (lv_at hl 0 rfl) ?_
  refine lv_aload_n hx hb d_Mo_stretch_1 rfl (lv_at hl 0 rfl) ?_
  refine lv_iload_n hx hb d_Mo_stretch_2 rfl (lv_at hl 1 rfl) ?_
  obtain ⟨r_1, hc, hf⟩ := ob hf
  refine cl_S (v := (some (.int r_1))) (st1 := [.int r_1, .ref h0]) (va_runV (As := [.int x1]) (rest := [.ref h0]) ⟨hx, hb, hml, hown, hts⟩ (c_Mo_noZone l dC dI h0 r cA nf x1 si sj sa sb hc) (cwV 1 hts (gdV m_8_45 m_8_47 msel_83 m_1_10 m_8_48) rfl rfl rfl (by decide +kernel) ⟨Nat.le_trans (Nat.le_of_ble_eq_true rfl) hRf, Nat.le_trans (Nat.le_of_ble_eq_true rfl) hRl⟩) ((RO.pre hP hK (hST.ro hS)).vir (va_recv hK hP (ci := 10) (q0 := 0) rfl rfl)) rfl rfl hl.1 rfl (lv_room (Nat.le_of_ble_eq_true rfl)) d_Mo_stretch_3 ⟨Nat.zero_le _, Nat.zero_le _⟩) rfl ?_
  refine lv_if_eq (tgt := 13) hx hb d_Mo_stretch_6 (by decide) (fun c_2 => ?_) (fun c_2 => ?_)
  · have hf := it_t c_2 hf
    refine lv_iload_n hx hb d_Mo_stretch_13 rfl (lv_at hl 2 rfl) ?_
    refine lv_sipush (v := 1970) hx hb d_Mo_stretch_14 (by decide) ?_
    refine lv_icmp_lt (tgt := 27) hx hb d_Mo_stretch_17 (by decide) (fun c_3 => ?_) (fun c_3 => ?_)
    · have hf := it_t c_3 hf
      exact k_Mo_stretch_27 C0 hST hA hK hE hf hP hD hS (lv_sub hl [0, 1, 2] rfl)
    · have hf := it_f c_3 hf
      refine lv_iload_n hx hb d_Mo_stretch_20 rfl (lv_at hl 2 rfl) ?_
      refine lv_sipush (v := 2400) hx hb d_Mo_stretch_21 (by decide) ?_
      refine lv_icmp_le (tgt := 31) hx hb d_Mo_stretch_24 (by decide) (fun c_44 => ?_) (fun c_44 => ?_)
      · have hf := it_t c_44 hf
        refine lv_aload_n hx hb d_Mo_stretch_31 rfl (lv_at hl 0 rfl) ?_
        refine mg_23 hx hb hts hown hK hP d_Mo_stretch_32 ?_
        refine lv_iload_n hx hb d_Mo_stretch_35 rfl (lv_at hl 1 rfl) ?_
        obtain ⟨c_45, hf⟩ := it_n hf
        refine ma_23 (v := sa 23 x1.toNatClampNeg) hx hb hK hP c_45 rfl d_Mo_stretch_36 ?_
        refine lv_iconst (v := 2) hx hb d_Mo_stretch_37 (by decide) ?_
        refine lv_icmp_ge (tgt := 45) hx hb d_Mo_stretch_38 (by decide) (fun c_46 => ?_) (fun c_46 => ?_)
        · have hf := it_t c_46 hf
          refine lv_iconst (v := 0) hx hb d_Mo_stretch_45 (by decide) ?_
          exact k_Mo_stretch_46 C0 hST hA hK hE hf hP hD hS (lv_sub hl [0, 1, 2] rfl)
        · have hf := it_f c_46 hf
          refine lv_iconst (v := 3) hx hb d_Mo_stretch_41 (by decide) ?_
          refine lv_goto (tgt := 46) hx hb d_Mo_stretch_42 (by decide) ?_
          exact k_Mo_stretch_46 C0 hST hA hK hE hf hP hD hS (lv_sub hl [0, 1, 2] rfl)
      · have hf := it_f c_44 hf
        exact k_Mo_stretch_27 C0 hST hA hK hE hf hP hD hS (lv_sub hl [0, 1, 2] rfl)
  · have hf := it_f c_2 hf
    refine lv_iconst (v := 1) hx hb d_Mo_stretch_9 (by decide) ?_
    refine lv_goto (tgt := 46) hx hb d_Mo_stretch_10 (by decide) ?_
    exact k_Mo_stretch_46 C0 hST hA hK hE hf hP hD hS (lv_sub hl [0, 1, 2] rfl)
end
set_option maxHeartbeats 400000 in
set_option maxRecDepth 100000 in
theorem c_Mo_stretch (l : Launch) (dC : Nat → ClassId) (dI : Nat → Nat → Nat) (h0 : Nat) (r : Nat → Nat) (cA : Nat → ClassId) (sz : Nat) (nf : Nat) (p0 : Int32) (p1 : Int32) (si : Nat → Int32) (sj : Nat → Int64) (sa : Nat → Nat → Int32) (sb : Nat → Nat → Int64) {r0 : Int32} {vi : Nat → Int32} {vj : Nat → Int64} {va : Nat → Nat → Int32} {vb : Nat → Nat → Int64} (hf : f_Mo_stretch nf p0 p1 si sj sa sb = some (r0, vi, vj, va, vb)) : Met l y_Mo_stretch (wd y_Mo_stretch b_Mo_stretch 14 (some .int)) ({ frames := 6, cells := 0, slots := 0, locals := 153 }) (MU dC dI (moW h0 r cA si sj sa sb) (moT cA) sz [.ref h0, .int p0, .int p1]) (MV (some (.int r0)) (fun t => va_P (dC, dI) classes (moW h0 r cA vi vj va vb) t.heap) (va_A (moW h0 r cA si sj sa sb) sz)) 0 0 (va_A (moW h0 r cA si sj sa sb) sz) :=
  met_M (plainFor_of_name (by decide)) (Nat.le_of_ble_eq_true rfl) (fun p e R s m args below meth c ls hRc hRs hsz hin C0 hST hK hP hD hl => by
    obtain ⟨hx, hb, hr, hml, hown, hts, hlocks, hRf, hRl⟩ := id C0
    subst hsz
    have hA : ∀ q : Nat, s.heap.size ≤ q → va_A (moW h0 r cA si sj sa sb) s.heap.size q := fun q h => Or.inr h
    have hS : va_S (va_A (moW h0 r cA si sj sa sb) s.heap.size) s.heap s.heap [] := va_S.rf
    unfold f_Mo_stretch at hf
    exact k_Mo_stretch_0 C0 hST hA hK (fun pc ls H locs hd hn hP hD hS => W.zret hx hb hr hn (fun t ht hW => ⟨⟨rfl, mo_end ht hP⟩, hS.F ht⟩) hS.2.2 hd) hf hP hD hS (lv_sub hl [0, 1, 2] rfl))
-- ZoneFilesModel.putNumber(JI)V
def f_Mo_putNumber_5 (nf : Nat) : Nat → Int32 → Int64 → (Nat → Int32) → (Nat → Int64) → (Nat → Nat → Int32) → (Nat → Nat → Int64) → Option ((Nat → Int32) × (Nat → Int64) × (Nat → Nat → Int32) × (Nat → Nat → Int64))
  | 0, _, _, _, _, _, _ => none
  | n + 1, x4, x1, si, sj, sa, sb =>
    if x4 < 0 then
    some (si, sj, sa, sb)
    else
    if (si 59) < 0 ∨ 6000 ≤ (si 59).toNatClampNeg then none else
      f_Mo_putNumber_5 nf n (x4 + (-1)) x1 (va_up si 59 ((si 59) + 1)) sj (va_up sa 58 (upd (sa 58) (si 59).toNatClampNeg (((x1 >>> ((8 * x4).toInt64 &&& 63)) &&& 255).toInt32))) sb
def f_Mo_putNumber_0 (nf : Nat) (x1 : Int64) (x3 : Int32) (si : Nat → Int32) (sj : Nat → Int64) (sa : Nat → Nat → Int32) (sb : Nat → Nat → Int64) : Option ((Nat → Int32) × (Nat → Int64) × (Nat → Nat → Int32) × (Nat → Nat → Int64)) :=
  f_Mo_putNumber_5 nf nf (x3 - 1) x1 si sj sa sb
def f_Mo_putNumber (nf : Nat) (p0 : Int64) (p1 : Int32) (si : Nat → Int32) (sj : Nat → Int64) (sa : Nat → Nat → Int32) (sb : Nat → Nat → Int64) : Option ((Nat → Int32) × (Nat → Int64) × (Nat → Nat → Int32) × (Nat → Nat → Int64)) :=
  f_Mo_putNumber_0 nf p0 p1 si sj sa sb
section
variable {p : Program} {l : Launch} {e : Env} {R : Room} {s : State} {m : MethodId} {args : Array Value} {below : List Frame} {meth : Method} {c : Code} {Q : State → Prop} {dC : Nat → ClassId} {dI : Nat → Nat → Nat} {nf : Nat} {A : Nat → Prop} {h0 : Nat} {r : Nat → Nat} {cA : Nat → ClassId}
variable {vi : Nat → Int32} {vj : Nat → Int64} {va : Nat → Nat → Int32} {vb : Nat → Nat → Int64}
set_option maxHeartbeats 400000 in
set_option maxRecDepth 100000 in
theorem k_Mo_putNumber_5 (C0 : Cx p s m meth c args R b_Mo_putNumber "ZoneFilesModel" 5 none 0 0) (hST : ST A s s.heap) (hA : ∀ q, s.heap.size ≤ q → A q) (hK : va_K (dC, dI) classes (moT cA) s) (hE : ∀ (pc : Nat) (ls : Array Slot) (H : Heap) (locs : List Loc), decode b_Mo_putNumber pc = .ok (.return_, 1) → va_P (dC, dI) classes (moW h0 r cA vi vj va vb) H → va_D A (moW h0 r cA vi vj va vb) → va_S A s.heap H locs → W p l e R s m args below meth c H locs 0 0 Q (F0 m pc ls [])) : ∀ (n : Nat) {x4 : Int32} {x1 : Int64} {si : Nat → Int32} {sj : Nat → Int64} {sa : Nat → Nat → Int32} {sb : Nat → Nat → Int64}, f_Mo_putNumber_5 nf n x4 x1 si sj sa sb = some (vi, vj, va, vb) → ∀ {H : Heap} {locs : List Loc} {ls : Array Slot}, va_P (dC, dI) classes (moW h0 r cA si sj sa sb) H → va_D A (moW h0 r cA si sj sa sb) → va_S A s.heap H locs → lv_has ls 5 [(4, .int x4), (0, .ref h0), (1, .long x1)] → W p l e R s m args below meth c H locs 0 0 Q (F0 m 5 ls []) := by
  obtain ⟨hx, hb, hr, hml, hown, hts, hlocks, hRf, hRl⟩ := id C0
  intro n
  induction n with
  | zero =>
    intro x4 x1 si sj sa sb hf
    exact absurd hf (by simp [f_Mo_putNumber_5])
  | succ n ih =>
    intro x4 x1 si sj sa sb hf H locs ls hP hD hS hl
    unfold f_Mo_putNumber_5 at hf
    refine lv_iload hx hb d_Mo_putNumber_5 (lv_at hl 0 rfl) ?_
    refine lv_if_lt (tgt := 47) hx hb d_Mo_putNumber_7 (by decide) (fun c_1 => ?_) (fun c_1 => ?_)
    · have hf := it_t c_1 hf
      cases rs hf
      exact hE _ _ _ _ d_Mo_putNumber_47 hP hD hS
    · have hf := it_f c_1 hf
      refine lv_aload_n hx hb d_Mo_putNumber_10 rfl (lv_at hl 1 rfl) ?_
      refine mg_58 hx hb hts hown hK hP d_Mo_putNumber_11 ?_
      refine lv_aload_n hx hb d_Mo_putNumber_14 rfl (lv_at hl 1 rfl) ?_
      refine mg_59 (v := si 59) hx hb hts hown hK hP rfl d_Mo_putNumber_15 ?_
      refine lv_lload_n hx hb d_Mo_putNumber_18 rfl (lv_at hl 2 rfl) ?_
      refine lv_bipush (v := 8) hx hb d_Mo_putNumber_19 (by decide) ?_
      refine lv_iload hx hb d_Mo_putNumber_21 (lv_at hl 0 rfl) ?_
      refine lv_imul hx hb d_Mo_putNumber_23 ?_
      refine lv_lshr hx hb d_Mo_putNumber_24 rfl ?_
      refine lv_ldc2 (v := 255) hx hb hown (hts (.constantLong "ZoneFilesModel" 153 255) m_7_113) d_Mo_putNumber_25 ?_
      refine lv_land hx hb d_Mo_putNumber_28 ?_
      refine lv_l2i hx hb d_Mo_putNumber_29 rfl ?_
      obtain ⟨c_2, hf⟩ := it_n hf
      refine mz_58 hx hb hK hP hD hS c_2 d_Mo_putNumber_30 (fun H locs hP hD hS => ?_)
      refine lv_aload_n hx hb d_Mo_putNumber_31 rfl (lv_at hl 1 rfl) ?_
      refine lv_dup hx hb d_Mo_putNumber_32 rfl ?_
      refine mg_59 (v := si 59) hx hb hts hown hK hP rfl d_Mo_putNumber_33 ?_
      refine lv_iconst (v := 1) hx hb d_Mo_putNumber_36 (by decide) ?_
      refine lv_iadd hx hb d_Mo_putNumber_37 ?_
      refine mp_59 hx hb hts hown hK hP hD hS d_Mo_putNumber_38 (fun H locs hP hD hS => ?_)
      refine lv_iinc (v := x4 + (-1)) (lv' := [(4, .int (x4 + (-1))), (0, .ref h0), (1, .long x1)]) hx hb d_Mo_putNumber_41 hl (k := 0) rfl rfl (by decide) rfl (fun ls hl => ?_)
      refine lv_goto (tgt := 5) hx hb d_Mo_putNumber_44 (by decide) ?_
      exact ih hf hP hD hS (lv_sub hl [0, 1, 2] rfl)
set_option maxHeartbeats 400000 in
set_option maxRecDepth 100000 in
theorem k_Mo_putNumber_0 (C0 : Cx p s m meth c args R b_Mo_putNumber "ZoneFilesModel" 5 none 0 0) (hST : ST A s s.heap) (hA : ∀ q, s.heap.size ≤ q → A q) (hK : va_K (dC, dI) classes (moT cA) s) (hE : ∀ (pc : Nat) (ls : Array Slot) (H : Heap) (locs : List Loc), decode b_Mo_putNumber pc = .ok (.return_, 1) → va_P (dC, dI) classes (moW h0 r cA vi vj va vb) H → va_D A (moW h0 r cA vi vj va vb) → va_S A s.heap H locs → W p l e R s m args below meth c H locs 0 0 Q (F0 m pc ls [])) {x1 : Int64} {x3 : Int32} {si : Nat → Int32} {sj : Nat → Int64} {sa : Nat → Nat → Int32} {sb : Nat → Nat → Int64} (hf : f_Mo_putNumber_0 nf x1 x3 si sj sa sb = some (vi, vj, va, vb)) {H : Heap} {locs : List Loc} {ls : Array Slot} (hP : va_P (dC, dI) classes (moW h0 r cA si sj sa sb) H) (hD : va_D A (moW h0 r cA si sj sa sb)) (hS : va_S A s.heap H locs) (hl : lv_has ls 5 [(0, .ref h0), (1, .long x1), (3, .int x3)]) : W p l e R s m args below meth c H locs 0 0 Q (F0 m 0 ls []) := by
  obtain ⟨hx, hb, hr, hml, hown, hts, hlocks, hRf, hRl⟩ := id C0
  unfold f_Mo_putNumber_0 at hf
  refine lv_iload_n hx hb d_Mo_putNumber_0 rfl (lv_at hl 2 rfl) ?_
  refine lv_iconst (v := 1) hx hb d_Mo_putNumber_1 (by decide) ?_
  refine lv_isub hx hb d_Mo_putNumber_2 ?_
  refine lv_istore (lv' := [(4, .int (x3 - 1)), (0, .ref h0), (1, .long x1), (3, .int x3)]) hx hb d_Mo_putNumber_3 hl (by decide) rfl (fun ls hl => ?_)
  exact k_Mo_putNumber_5 C0 hST hA hK hE nf hf hP hD hS (lv_sub hl [0, 1, 2] rfl)
end
set_option maxHeartbeats 400000 in
set_option maxRecDepth 100000 in
theorem c_Mo_putNumber (l : Launch) (dC : Nat → ClassId) (dI : Nat → Nat → Nat) (h0 : Nat) (r : Nat → Nat) (cA : Nat → ClassId) (sz : Nat) (nf : Nat) (p0 : Int64) (p1 : Int32) (si : Nat → Int32) (sj : Nat → Int64) (sa : Nat → Nat → Int32) (sb : Nat → Nat → Int64) {vi : Nat → Int32} {vj : Nat → Int64} {va : Nat → Nat → Int32} {vb : Nat → Nat → Int64} (hf : f_Mo_putNumber nf p0 p1 si sj sa sb = some (vi, vj, va, vb)) : Met l y_Mo_putNumber (wd y_Mo_putNumber b_Mo_putNumber 5 none) ({ frames := 0, cells := 0, slots := 0, locals := 0 }) (MU dC dI (moW h0 r cA si sj sa sb) (moT cA) sz [.ref h0, .long p0, .int p1]) (MV none (fun t => va_P (dC, dI) classes (moW h0 r cA vi vj va vb) t.heap) (va_A (moW h0 r cA si sj sa sb) sz)) 0 0 (va_A (moW h0 r cA si sj sa sb) sz) :=
  met_M (plainFor_of_name (by decide)) (Nat.le_of_ble_eq_true rfl) (fun p e R s m args below meth c ls hRc hRs hsz hin C0 hST hK hP hD hl => by
    obtain ⟨hx, hb, hr, hml, hown, hts, hlocks, hRf, hRl⟩ := id C0
    subst hsz
    have hA : ∀ q : Nat, s.heap.size ≤ q → va_A (moW h0 r cA si sj sa sb) s.heap.size q := fun q h => Or.inr h
    have hS : va_S (va_A (moW h0 r cA si sj sa sb) s.heap.size) s.heap s.heap [] := va_S.rf
    unfold f_Mo_putNumber at hf
    exact k_Mo_putNumber_0 C0 hST hA hK (fun pc ls H locs hd hP hD hS => W.vret hx hb hr (fun t ht hW => ⟨⟨rfl, mo_end ht hP⟩, hS.F ht⟩) hS.2.2 hd) hf hP hD hS (lv_sub hl [0, 1, 2] rfl))
-- ZoneFilesModel.putHeader(IIIIIII)V
def f_Mo_putHeader_3 (nf : Nat) : Nat → Int32 → Int32 → Int32 → Int32 → Int32 → Int32 → Int32 → Int32 → (Nat → Int32) → (Nat → Int64) → (Nat → Nat → Int32) → (Nat → Nat → Int64) → Option ((Nat → Int32) × (Nat → Int64) × (Nat → Nat → Int32) × (Nat → Nat → Int64))
  | 0, _, _, _, _, _, _, _, _, _, _, _, _ => none
  | n + 1, x8, x1, x2, x3, x4, x5, x6, x7, si, sj, sa, sb =>
    if (4 : Int32) ≤ x8 then
    (f_Mo_putNumber nf x1.toInt64 1 si sj sa sb).bind fun (i_2, j_3, a_4, b_5) =>
      (f_Mo_putNumber nf 0 8 i_2 j_3 a_4 b_5).bind fun (i_6, j_7, a_8, b_9) =>
      (f_Mo_putNumber nf 0 7 i_6 j_7 a_8 b_9).bind fun (i_10, j_11, a_12, b_13) =>
      (f_Mo_putNumber nf x2.toInt64 4 i_10 j_11 a_12 b_13).bind fun (i_14, j_15, a_16, b_17) =>
      (f_Mo_putNumber nf x3.toInt64 4 i_14 j_15 a_16 b_17).bind fun (i_18, j_19, a_20, b_21) =>
      (f_Mo_putNumber nf x4.toInt64 4 i_18 j_19 a_20 b_21).bind fun (i_22, j_23, a_24, b_25) =>
      (f_Mo_putNumber nf x5.toInt64 4 i_22 j_23 a_24 b_25).bind fun (i_26, j_27, a_28, b_29) =>
      (f_Mo_putNumber nf x6.toInt64 4 i_26 j_27 a_28 b_29).bind fun (i_30, j_31, a_32, b_33) =>
      (f_Mo_putNumber nf x7.toInt64 4 i_30 j_31 a_32 b_33).bind fun (i_34, j_35, a_36, b_37) =>
      some (i_34, j_35, a_36, b_37)
    else
    (f_Mo_magic nf x8).bind fun r_38 =>
      (f_Mo_putNumber nf r_38.toInt64 1 si sj sa sb).bind fun (i_39, j_40, a_41, b_42) =>
      f_Mo_putHeader_3 nf n (x8 + 1) x1 x2 x3 x4 x5 x6 x7 i_39 j_40 a_41 b_42
def f_Mo_putHeader_0 (nf : Nat) (x1 : Int32) (x2 : Int32) (x3 : Int32) (x4 : Int32) (x5 : Int32) (x6 : Int32) (x7 : Int32) (si : Nat → Int32) (sj : Nat → Int64) (sa : Nat → Nat → Int32) (sb : Nat → Nat → Int64) : Option ((Nat → Int32) × (Nat → Int64) × (Nat → Nat → Int32) × (Nat → Nat → Int64)) :=
  f_Mo_putHeader_3 nf nf 0 x1 x2 x3 x4 x5 x6 x7 si sj sa sb
def f_Mo_putHeader (nf : Nat) (p0 : Int32) (p1 : Int32) (p2 : Int32) (p3 : Int32) (p4 : Int32) (p5 : Int32) (p6 : Int32) (si : Nat → Int32) (sj : Nat → Int64) (sa : Nat → Nat → Int32) (sb : Nat → Nat → Int64) : Option ((Nat → Int32) × (Nat → Int64) × (Nat → Nat → Int32) × (Nat → Nat → Int64)) :=
  f_Mo_putHeader_0 nf p0 p1 p2 p3 p4 p5 p6 si sj sa sb
section
variable {p : Program} {l : Launch} {e : Env} {R : Room} {s : State} {m : MethodId} {args : Array Value} {below : List Frame} {meth : Method} {c : Code} {Q : State → Prop} {dC : Nat → ClassId} {dI : Nat → Nat → Nat} {nf : Nat} {A : Nat → Prop} {h0 : Nat} {r : Nat → Nat} {cA : Nat → ClassId}
variable {vi : Nat → Int32} {vj : Nat → Int64} {va : Nat → Nat → Int32} {vb : Nat → Nat → Int64}
set_option maxHeartbeats 400000 in
set_option maxRecDepth 100000 in
theorem k_Mo_putHeader_3 (C0 : Cx p s m meth c args R b_Mo_putHeader "ZoneFilesModel" 9 none 1 24) (hST : ST A s s.heap) (hA : ∀ q, s.heap.size ≤ q → A q) (hK : va_K (dC, dI) classes (moT cA) s) (hE : ∀ (pc : Nat) (ls : Array Slot) (H : Heap) (locs : List Loc), decode b_Mo_putHeader pc = .ok (.return_, 1) → va_P (dC, dI) classes (moW h0 r cA vi vj va vb) H → va_D A (moW h0 r cA vi vj va vb) → va_S A s.heap H locs → W p l e R s m args below meth c H locs 0 0 Q (F0 m pc ls [])) : ∀ (n : Nat) {x8 : Int32} {x1 : Int32} {x2 : Int32} {x3 : Int32} {x4 : Int32} {x5 : Int32} {x6 : Int32} {x7 : Int32} {si : Nat → Int32} {sj : Nat → Int64} {sa : Nat → Nat → Int32} {sb : Nat → Nat → Int64}, f_Mo_putHeader_3 nf n x8 x1 x2 x3 x4 x5 x6 x7 si sj sa sb = some (vi, vj, va, vb) → ∀ {H : Heap} {locs : List Loc} {ls : Array Slot}, va_P (dC, dI) classes (moW h0 r cA si sj sa sb) H → va_D A (moW h0 r cA si sj sa sb) → va_S A s.heap H locs → lv_has ls 9 [(8, .int x8), (0, .ref h0), (1, .int x1), (2, .int x2), (3, .int x3), (4, .int x4), (5, .int x5), (6, .int x6), (7, .int x7)] → W p l e R s m args below meth c H locs 0 0 Q (F0 m 3 ls []) := by
  obtain ⟨hx, hb, hr, hml, hown, hts, hlocks, hRf, hRl⟩ := id C0
  intro n
  induction n with
  | zero =>
    intro x8 x1 x2 x3 x4 x5 x6 x7 si sj sa sb hf
    exact absurd hf (by simp [f_Mo_putHeader_3])
  | succ n ih =>
    intro x8 x1 x2 x3 x4 x5 x6 x7 si sj sa sb hf H locs ls hP hD hS hl
    unfold f_Mo_putHeader_3 at hf
    refine lv_iload hx hb d_Mo_putHeader_3 (lv_at hl 0 rfl) ?_
    refine lv_iconst (v := 4) hx hb d_Mo_putHeader_5 (by decide) ?_
    refine lv_icmp_ge (tgt := 26) hx hb d_Mo_putHeader_6 (by decide) (fun c_1 => ?_) (fun c_1 => ?_)
    · have hf := it_t c_1 hf
      refine lv_aload_n hx hb d_Mo_putHeader_26 rfl (lv_at hl 1 rfl) ?_
      refine lv_iload_n hx hb d_Mo_putHeader_27 rfl (lv_at hl 2 rfl) ?_
      refine lv_i2l hx hb d_Mo_putHeader_28 rfl ?_
      refine lv_iconst (v := 1) hx hb d_Mo_putHeader_29 (by decide) ?_
      obtain ⟨⟨i_2, j_3, a_4, b_5⟩, hc, hf⟩ := ob hf
      have hFc := mo_free hD hS hA
      refine cl_M (v := none) (st1 := []) (va_runV (As := [.long x1.toInt64, .int 1]) (rest := []) ⟨hx, hb, hml, hown, hts⟩ (c_Mo_putNumber l dC dI h0 r cA H.size nf x1.toInt64 1 si sj sa sb hc) (cwV 2 hts (gdV m_8_124 m_8_126 msel_95 m_1_10 m_8_127) rfl rfl rfl (by decide +kernel) ⟨Nat.le_trans (Nat.le_of_ble_eq_true rfl) hRf, Nat.le_trans (Nat.le_of_ble_eq_true rfl) hRl⟩) ((MU.pre hP hK hD (hST.mu hS hFc)).vir (va_recv hK hP (ci := 10) (q0 := 0) rfl rfl)) rfl rfl hl.1 rfl (lv_room (Nat.le_of_ble_eq_true rfl)) d_Mo_putHeader_30 ⟨Nat.zero_le _, Nat.zero_le _⟩) rfl hS (fun q _ h => hFc q h) hFc (fun t H1 locs ht hvm hB hz1 hk1 hS => ?_)
      obtain ⟨hP, hD⟩ := mo_back ht hD hB
      generalize H1 = H at hP hS ⊢
      refine lv_aload_n hx hb d_Mo_putHeader_33 rfl (lv_at hl 1 rfl) ?_
      refine lv_lconst (v := 0) hx hb d_Mo_putHeader_34 (by decide) ?_
      refine lv_bipush (v := 8) hx hb d_Mo_putHeader_35 (by decide) ?_
      obtain ⟨⟨i_6, j_7, a_8, b_9⟩, hc, hf⟩ := ob hf
      have hFc := mo_free hD hS hA
      refine cl_M (v := none) (st1 := []) (va_runV (As := [.long 0, .int 8]) (rest := []) ⟨hx, hb, hml, hown, hts⟩ (c_Mo_putNumber l dC dI h0 r cA H.size nf 0 8 i_2 j_3 a_4 b_5 hc) (cwV 2 hts (gdV m_8_124 m_8_126 msel_95 m_1_10 m_8_127) rfl rfl rfl (by decide +kernel) ⟨Nat.le_trans (Nat.le_of_ble_eq_true rfl) hRf, Nat.le_trans (Nat.le_of_ble_eq_true rfl) hRl⟩) ((MU.pre hP hK hD (hST.mu hS hFc)).vir (va_recv hK hP (ci := 10) (q0 := 0) rfl rfl)) rfl rfl hl.1 rfl (lv_room (Nat.le_of_ble_eq_true rfl)) d_Mo_putHeader_37 ⟨Nat.zero_le _, Nat.zero_le _⟩) rfl hS (fun q _ h => hFc q h) hFc (fun t H1 locs ht hvm hB hz1 hk1 hS => ?_)
      obtain ⟨hP, hD⟩ := mo_back ht hD hB
      generalize H1 = H at hP hS ⊢
      refine lv_aload_n hx hb d_Mo_putHeader_40 rfl (lv_at hl 1 rfl) ?_
      refine lv_lconst (v := 0) hx hb d_Mo_putHeader_41 (by decide) ?_
      refine lv_bipush (v := 7) hx hb d_Mo_putHeader_42 (by decide) ?_
      obtain ⟨⟨i_10, j_11, a_12, b_13⟩, hc, hf⟩ := ob hf
      have hFc := mo_free hD hS hA
      refine cl_M (v := none) (st1 := []) (va_runV (As := [.long 0, .int 7]) (rest := []) ⟨hx, hb, hml, hown, hts⟩ (c_Mo_putNumber l dC dI h0 r cA H.size nf 0 7 i_6 j_7 a_8 b_9 hc) (cwV 2 hts (gdV m_8_124 m_8_126 msel_95 m_1_10 m_8_127) rfl rfl rfl (by decide +kernel) ⟨Nat.le_trans (Nat.le_of_ble_eq_true rfl) hRf, Nat.le_trans (Nat.le_of_ble_eq_true rfl) hRl⟩) ((MU.pre hP hK hD (hST.mu hS hFc)).vir (va_recv hK hP (ci := 10) (q0 := 0) rfl rfl)) rfl rfl hl.1 rfl (lv_room (Nat.le_of_ble_eq_true rfl)) d_Mo_putHeader_44 ⟨Nat.zero_le _, Nat.zero_le _⟩) rfl hS (fun q _ h => hFc q h) hFc (fun t H1 locs ht hvm hB hz1 hk1 hS => ?_)
      obtain ⟨hP, hD⟩ := mo_back ht hD hB
      generalize H1 = H at hP hS ⊢
      refine lv_aload_n hx hb d_Mo_putHeader_47 rfl (lv_at hl 1 rfl) ?_
      refine lv_iload_n hx hb d_Mo_putHeader_48 rfl (lv_at hl 3 rfl) ?_
      refine lv_i2l hx hb d_Mo_putHeader_49 rfl ?_
      refine lv_iconst (v := 4) hx hb d_Mo_putHeader_50 (by decide) ?_
      obtain ⟨⟨i_14, j_15, a_16, b_17⟩, hc, hf⟩ := ob hf
      have hFc := mo_free hD hS hA
      refine cl_M (v := none) (st1 := []) (va_runV (As := [.long x2.toInt64, .int 4]) (rest := []) ⟨hx, hb, hml, hown, hts⟩ (c_Mo_putNumber l dC dI h0 r cA H.size nf x2.toInt64 4 i_10 j_11 a_12 b_13 hc) (cwV 2 hts (gdV m_8_124 m_8_126 msel_95 m_1_10 m_8_127) rfl rfl rfl (by decide +kernel) ⟨Nat.le_trans (Nat.le_of_ble_eq_true rfl) hRf, Nat.le_trans (Nat.le_of_ble_eq_true rfl) hRl⟩) ((MU.pre hP hK hD (hST.mu hS hFc)).vir (va_recv hK hP (ci := 10) (q0 := 0) rfl rfl)) rfl rfl hl.1 rfl (lv_room (Nat.le_of_ble_eq_true rfl)) d_Mo_putHeader_51 ⟨Nat.zero_le _, Nat.zero_le _⟩) rfl hS (fun q _ h => hFc q h) hFc (fun t H1 locs ht hvm hB hz1 hk1 hS => ?_)
      obtain ⟨hP, hD⟩ := mo_back ht hD hB
      generalize H1 = H at hP hS ⊢
      refine lv_aload_n hx hb d_Mo_putHeader_54 rfl (lv_at hl 1 rfl) ?_
      refine lv_iload_n hx hb d_Mo_putHeader_55 rfl (lv_at hl 4 rfl) ?_
      refine lv_i2l hx hb d_Mo_putHeader_56 rfl ?_
      refine lv_iconst (v := 4) hx hb d_Mo_putHeader_57 (by decide) ?_
      obtain ⟨⟨i_18, j_19, a_20, b_21⟩, hc, hf⟩ := ob hf
      have hFc := mo_free hD hS hA
      refine cl_M (v := none) (st1 := []) (va_runV (As := [.long x3.toInt64, .int 4]) (rest := []) ⟨hx, hb, hml, hown, hts⟩ (c_Mo_putNumber l dC dI h0 r cA H.size nf x3.toInt64 4 i_14 j_15 a_16 b_17 hc) (cwV 2 hts (gdV m_8_124 m_8_126 msel_95 m_1_10 m_8_127) rfl rfl rfl (by decide +kernel) ⟨Nat.le_trans (Nat.le_of_ble_eq_true rfl) hRf, Nat.le_trans (Nat.le_of_ble_eq_true rfl) hRl⟩) ((MU.pre hP hK hD (hST.mu hS hFc)).vir (va_recv hK hP (ci := 10) (q0 := 0) rfl rfl)) rfl rfl hl.1 rfl (lv_room (Nat.le_of_ble_eq_true rfl)) d_Mo_putHeader_58 ⟨Nat.zero_le _, Nat.zero_le _⟩) rfl hS (fun q _ h => hFc q h) hFc (fun t H1 locs ht hvm hB hz1 hk1 hS => ?_)
      obtain ⟨hP, hD⟩ := mo_back ht hD hB
      generalize H1 = H at hP hS ⊢
      refine lv_aload_n hx hb d_Mo_putHeader_61 rfl (lv_at hl 1 rfl) ?_
      refine lv_iload hx hb d_Mo_putHeader_62 (lv_at hl 5 rfl) ?_
      refine lv_i2l hx hb d_Mo_putHeader_64 rfl ?_
      refine lv_iconst (v := 4) hx hb d_Mo_putHeader_65 (by decide) ?_
      obtain ⟨⟨i_22, j_23, a_24, b_25⟩, hc, hf⟩ := ob hf
      have hFc := mo_free hD hS hA
      refine cl_M (v := none) (st1 := []) (va_runV (As := [.long x4.toInt64, .int 4]) (rest := []) ⟨hx, hb, hml, hown, hts⟩ (c_Mo_putNumber l dC dI h0 r cA H.size nf x4.toInt64 4 i_18 j_19 a_20 b_21 hc) (cwV 2 hts (gdV m_8_124 m_8_126 msel_95 m_1_10 m_8_127) rfl rfl rfl (by decide +kernel) ⟨Nat.le_trans (Nat.le_of_ble_eq_true rfl) hRf, Nat.le_trans (Nat.le_of_ble_eq_true rfl) hRl⟩) ((MU.pre hP hK hD (hST.mu hS hFc)).vir (va_recv hK hP (ci := 10) (q0 := 0) rfl rfl)) rfl rfl hl.1 rfl (lv_room (Nat.le_of_ble_eq_true rfl)) d_Mo_putHeader_66 ⟨Nat.zero_le _, Nat.zero_le _⟩) rfl hS (fun q _ h => hFc q h) hFc (fun t H1 locs ht hvm hB hz1 hk1 hS => ?_)
      obtain ⟨hP, hD⟩ := mo_back ht hD hB
      generalize H1 = H at hP hS ⊢
      refine lv_aload_n hx hb d_Mo_putHeader_69 rfl (lv_at hl 1 rfl) ?_
      refine lv_iload hx hb d_Mo_putHeader_70 (lv_at hl 6 rfl) ?_
      refine lv_i2l hx hb d_Mo_putHeader_72 rfl ?_
      refine lv_iconst (v := 4) hx hb d_Mo_putHeader_73 (by decide) ?_
      obtain ⟨⟨i_26, j_27, a_28, b_29⟩, hc, hf⟩ := ob hf
      have hFc := mo_free hD hS hA
      refine cl_M (v := none) (st1 := []) (va_runV (As := [.long x5.toInt64, .int 4]) (rest := []) ⟨hx, hb, hml, hown, hts⟩ (c_Mo_putNumber l dC dI h0 r cA H.size nf x5.toInt64 4 i_22 j_23 a_24 b_25 hc) (cwV 2 hts (gdV m_8_124 m_8_126 msel_95 m_1_10 m_8_127) rfl rfl rfl (by decide +kernel) ⟨Nat.le_trans (Nat.le_of_ble_eq_true rfl) hRf, Nat.le_trans (Nat.le_of_ble_eq_true rfl) hRl⟩) ((MU.pre hP hK hD (hST.mu hS hFc)).vir (va_recv hK hP (ci := 10) (q0 := 0) rfl rfl)) rfl rfl hl.1 rfl (lv_room (Nat.le_of_ble_eq_true rfl)) d_Mo_putHeader_74 ⟨Nat.zero_le _, Nat.zero_le _⟩) rfl hS (fun q _ h => hFc q h) hFc (fun t H1 locs ht hvm hB hz1 hk1 hS => ?_)
      obtain ⟨hP, hD⟩ := mo_back ht hD hB
      generalize H1 = H at hP hS ⊢
      refine lv_aload_n hx hb d_Mo_putHeader_77 rfl (lv_at hl 1 rfl) ?_
      refine lv_iload hx hb d_Mo_putHeader_78 (lv_at hl 7 rfl) ?_
      refine lv_i2l hx hb d_Mo_putHeader_80 rfl ?_
      refine lv_iconst (v := 4) hx hb d_Mo_putHeader_81 (by decide) ?_
      obtain ⟨⟨i_30, j_31, a_32, b_33⟩, hc, hf⟩ := ob hf
      have hFc := mo_free hD hS hA
      refine cl_M (v := none) (st1 := []) (va_runV (As := [.long x6.toInt64, .int 4]) (rest := []) ⟨hx, hb, hml, hown, hts⟩ (c_Mo_putNumber l dC dI h0 r cA H.size nf x6.toInt64 4 i_26 j_27 a_28 b_29 hc) (cwV 2 hts (gdV m_8_124 m_8_126 msel_95 m_1_10 m_8_127) rfl rfl rfl (by decide +kernel) ⟨Nat.le_trans (Nat.le_of_ble_eq_true rfl) hRf, Nat.le_trans (Nat.le_of_ble_eq_true rfl) hRl⟩) ((MU.pre hP hK hD (hST.mu hS hFc)).vir (va_recv hK hP (ci := 10) (q0 := 0) rfl rfl)) rfl rfl hl.1 rfl (lv_room (Nat.le_of_ble_eq_true rfl)) d_Mo_putHeader_82 ⟨Nat.zero_le _, Nat.zero_le _⟩) rfl hS (fun q _ h => hFc q h) hFc (fun t H1 locs ht hvm hB hz1 hk1 hS => ?_)
      obtain ⟨hP, hD⟩ := mo_back ht hD hB
      generalize H1 = H at hP hS ⊢
      refine lv_aload_n hx hb d_Mo_putHeader_85 rfl (lv_at hl 1 rfl) ?_
      refine lv_iload hx hb d_Mo_putHeader_86 (lv_at hl 8 rfl) ?_
      refine lv_i2l hx hb d_Mo_putHeader_88 rfl ?_
      refine lv_iconst (v := 4) hx hb d_Mo_putHeader_89 (by decide) ?_
      obtain ⟨⟨i_34, j_35, a_36, b_37⟩, hc, hf⟩ := ob hf
      have hFc := mo_free hD hS hA
      refine cl_M (v := none) (st1 := []) (va_runV (As := [.long x7.toInt64, .int 4]) (rest := []) ⟨hx, hb, hml, hown, hts⟩ (c_Mo_putNumber l dC dI h0 r cA H.size nf x7.toInt64 4 i_30 j_31 a_32 b_33 hc) (cwV 2 hts (gdV m_8_124 m_8_126 msel_95 m_1_10 m_8_127) rfl rfl rfl (by decide +kernel) ⟨Nat.le_trans (Nat.le_of_ble_eq_true rfl) hRf, Nat.le_trans (Nat.le_of_ble_eq_true rfl) hRl⟩) ((MU.pre hP hK hD (hST.mu hS hFc)).vir (va_recv hK hP (ci := 10) (q0 := 0) rfl rfl)) rfl rfl hl.1 rfl (lv_room (Nat.le_of_ble_eq_true rfl)) d_Mo_putHeader_90 ⟨Nat.zero_le _, Nat.zero_le _⟩) rfl hS (fun q _ h => hFc q h) hFc (fun t H1 locs ht hvm hB hz1 hk1 hS => ?_)
      obtain ⟨hP, hD⟩ := mo_back ht hD hB
      generalize H1 = H at hP hS ⊢
      cases rs hf
      exact hE _ _ _ _ d_Mo_putHeader_93 hP hD hS
    · have hf := it_f c_1 hf
      refine lv_aload_n hx hb d_Mo_putHeader_9 rfl (lv_at hl 1 rfl) ?_
      refine lv_iload hx hb d_Mo_putHeader_10 (lv_at hl 0 rfl) ?_
      obtain ⟨r_38, hc, hf⟩ := ob hf
      refine cl_S (v := (some (.int r_38))) (st1 := [.int r_38, .ref h0]) (va_runS (As := [.int x8]) (rest := [.ref h0]) ⟨hx, hb, hml, hown, hts⟩ (c_Mo_magic l dC dI nf x8 hc) (va_cwS 1 hts (gdS m_7_130 m_7_131 m_1_10 m_7_132) rfl rfl rfl (by decide +kernel) ⟨Nat.le_trans (Nat.le_of_ble_eq_true rfl) hRf, Nat.le_trans (Nat.le_of_ble_eq_true rfl) hRl⟩) (RO.pre0 hK (hST.ro hS)).sta rfl rfl hl.1 rfl (lv_room (Nat.le_of_ble_eq_true rfl)) d_Mo_putHeader_12 ⟨Nat.zero_le _, Nat.zero_le _⟩) rfl ?_
      refine lv_i2l hx hb d_Mo_putHeader_15 rfl ?_
      refine lv_iconst (v := 1) hx hb d_Mo_putHeader_16 (by decide) ?_
      obtain ⟨⟨i_39, j_40, a_41, b_42⟩, hc, hf⟩ := ob hf
      have hFc := mo_free hD hS hA
      refine cl_M (v := none) (st1 := []) (va_runV (As := [.long r_38.toInt64, .int 1]) (rest := []) ⟨hx, hb, hml, hown, hts⟩ (c_Mo_putNumber l dC dI h0 r cA H.size nf r_38.toInt64 1 si sj sa sb hc) (cwV 2 hts (gdV m_8_124 m_8_126 msel_95 m_1_10 m_8_127) rfl rfl rfl (by decide +kernel) ⟨Nat.le_trans (Nat.le_of_ble_eq_true rfl) hRf, Nat.le_trans (Nat.le_of_ble_eq_true rfl) hRl⟩) ((MU.pre hP hK hD (hST.mu hS hFc)).vir (va_recv hK hP (ci := 10) (q0 := 0) rfl rfl)) rfl rfl hl.1 rfl (lv_room (Nat.le_of_ble_eq_true rfl)) d_Mo_putHeader_17 ⟨Nat.zero_le _, Nat.zero_le _⟩) rfl hS (fun q _ h => hFc q h) hFc (fun t H1 locs ht hvm hB hz1 hk1 hS => ?_)
      obtain ⟨hP, hD⟩ := mo_back ht hD hB
      generalize H1 = H at hP hS ⊢
      refine lv_iinc (v := x8 + 1) (lv' := [(8, .int (x8 + 1)), (0, .ref h0), (1, .int x1), (2, .int x2), (3, .int x3), (4, .int x4), (5, .int x5), (6, .int x6), (7, .int x7)]) hx hb d_Mo_putHeader_20 hl (k := 0) rfl rfl (by decide) rfl (fun ls hl => ?_)
      refine lv_goto (tgt := 3) hx hb d_Mo_putHeader_23 (by decide) ?_
      exact ih hf hP hD hS (lv_sub hl [0, 1, 2, 3, 4, 5, 6, 7, 8] rfl)
set_option maxHeartbeats 400000 in
set_option maxRecDepth 100000 in
theorem k_Mo_putHeader_0 (C0 : Cx p s m meth c args R b_Mo_putHeader "ZoneFilesModel" 9 none 1 24) (hST : ST A s s.heap) (hA : ∀ q, s.heap.size ≤ q → A q) (hK : va_K (dC, dI) classes (moT cA) s) (hE : ∀ (pc : Nat) (ls : Array Slot) (H : Heap) (locs : List Loc), decode b_Mo_putHeader pc = .ok (.return_, 1) → va_P (dC, dI) classes (moW h0 r cA vi vj va vb) H → va_D A (moW h0 r cA vi vj va vb) → va_S A s.heap H locs → W p l e R s m args below meth c H locs 0 0 Q (F0 m pc ls [])) {x1 : Int32} {x2 : Int32} {x3 : Int32} {x4 : Int32} {x5 : Int32} {x6 : Int32} {x7 : Int32} {si : Nat → Int32} {sj : Nat → Int64} {sa : Nat → Nat → Int32} {sb : Nat → Nat → Int64} (hf : f_Mo_putHeader_0 nf x1 x2 x3 x4 x5 x6 x7 si sj sa sb = some (vi, vj, va, vb)) {H : Heap} {locs : List Loc} {ls : Array Slot} (hP : va_P (dC, dI) classes (moW h0 r cA si sj sa sb) H) (hD : va_D A (moW h0 r cA si sj sa sb)) (hS : va_S A s.heap H locs) (hl : lv_has ls 9 [(0, .ref h0), (1, .int x1), (2, .int x2), (3, .int x3), (4, .int x4), (5, .int x5), (6, .int x6), (7, .int x7)]) : W p l e R s m args below meth c H locs 0 0 Q (F0 m 0 ls []) := by
  obtain ⟨hx, hb, hr, hml, hown, hts, hlocks, hRf, hRl⟩ := id C0
  unfold f_Mo_putHeader_0 at hf
  refine lv_iconst (v := 0) hx hb d_Mo_putHeader_0 (by decide) ?_
  refine lv_istore (lv' := [(8, .int 0), (0, .ref h0), (1, .int x1), (2, .int x2), (3, .int x3), (4, .int x4), (5, .int x5), (6, .int x6), (7, .int x7)]) hx hb d_Mo_putHeader_1 hl (by decide) rfl (fun ls hl => ?_)
  exact k_Mo_putHeader_3 C0 hST hA hK hE nf hf hP hD hS (lv_sub hl [0, 1, 2, 3, 4, 5, 6, 7, 8] rfl)
end
set_option maxHeartbeats 400000 in
set_option maxRecDepth 100000 in
theorem c_Mo_putHeader (l : Launch) (dC : Nat → ClassId) (dI : Nat → Nat → Nat) (h0 : Nat) (r : Nat → Nat) (cA : Nat → ClassId) (sz : Nat) (nf : Nat) (p0 : Int32) (p1 : Int32) (p2 : Int32) (p3 : Int32) (p4 : Int32) (p5 : Int32) (p6 : Int32) (si : Nat → Int32) (sj : Nat → Int64) (sa : Nat → Nat → Int32) (sb : Nat → Nat → Int64) {vi : Nat → Int32} {vj : Nat → Int64} {va : Nat → Nat → Int32} {vb : Nat → Nat → Int64} (hf : f_Mo_putHeader nf p0 p1 p2 p3 p4 p5 p6 si sj sa sb = some (vi, vj, va, vb)) : Met l y_Mo_putHeader (wd y_Mo_putHeader b_Mo_putHeader 9 none) ({ frames := 1, cells := 0, slots := 0, locals := 24 }) (MU dC dI (moW h0 r cA si sj sa sb) (moT cA) sz [.ref h0, .int p0, .int p1, .int p2, .int p3, .int p4, .int p5, .int p6]) (MV none (fun t => va_P (dC, dI) classes (moW h0 r cA vi vj va vb) t.heap) (va_A (moW h0 r cA si sj sa sb) sz)) 0 0 (va_A (moW h0 r cA si sj sa sb) sz) :=
  met_M (plainFor_of_name (by decide)) (Nat.le_of_ble_eq_true rfl) (fun p e R s m args below meth c ls hRc hRs hsz hin C0 hST hK hP hD hl => by
    obtain ⟨hx, hb, hr, hml, hown, hts, hlocks, hRf, hRl⟩ := id C0
    subst hsz
    have hA : ∀ q : Nat, s.heap.size ≤ q → va_A (moW h0 r cA si sj sa sb) s.heap.size q := fun q h => Or.inr h
    have hS : va_S (va_A (moW h0 r cA si sj sa sb) s.heap.size) s.heap s.heap [] := va_S.rf
    unfold f_Mo_putHeader at hf
    exact k_Mo_putHeader_0 C0 hST hA hK (fun pc ls H locs hd hP hD hS => W.vret hx hb hr (fun t ht hW => ⟨⟨rfl, mo_end ht hP⟩, hS.F ht⟩) hS.2.2 hd) hf hP hD hS (lv_sub hl [0, 1, 2, 3, 4, 5, 6, 7] rfl))
