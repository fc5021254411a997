theorem m_1_10 : Cond.initialized "ZoneFilesModel" ∈ T0 := tb_1 10 rfl rfl
theorem m_6_79 : Cond.methodLink "ZoneFilesModel" 197 ⟨"ZoneFilesModel", "nameText", "(I)V"⟩ ∈ T0 := tb_6 79 rfl rfl
theorem m_6_81 : Cond.instanceMethod ⟨"ZoneFilesModel", "nameText", "(I)V"⟩ ∈ T0 := tb_6 81 rfl rfl
theorem m_6_82 : Cond.code ⟨"ZoneFilesModel", "nameText", "(I)V"⟩ prog_14_method_12_code 5 none ∈ T0 := tb_6 82 rfl rfl
theorem m_6_83 : Cond.methodLink "ZoneFilesModel" 175 ⟨"ZoneFilesModel", "look", "()I"⟩ ∈ T0 := tb_6 83 rfl rfl
theorem m_6_85 : Cond.instanceMethod ⟨"ZoneFilesModel", "look", "()I"⟩ ∈ T0 := tb_6 85 rfl rfl
theorem m_6_86 : Cond.code ⟨"ZoneFilesModel", "look", "()I"⟩ prog_14_method_5_code 1 (some .int) ∈ T0 := tb_6 86 rfl rfl
theorem m_6_87 : Cond.methodLink "ZoneFilesModel" 183 ⟨"ZoneFilesModel", "isNamed", "(I)Z"⟩ ∈ T0 := tb_6 87 rfl rfl
theorem m_6_88 : Cond.static ⟨"ZoneFilesModel", "isNamed", "(I)Z"⟩ ∈ T0 := tb_6 88 rfl rfl
theorem m_6_89 : Cond.code ⟨"ZoneFilesModel", "isNamed", "(I)Z"⟩ prog_14_method_9_code 1 (some .boolean) ∈ T0 := tb_6 89 rfl rfl
theorem m_6_90 : Cond.methodLink "ZoneFilesModel" 168 ⟨"ZoneFilesModel", "isDigit", "(I)Z"⟩ ∈ T0 := tb_6 90 rfl rfl
theorem m_6_91 : Cond.static ⟨"ZoneFilesModel", "isDigit", "(I)Z"⟩ ∈ T0 := tb_6 91 rfl rfl
theorem m_6_92 : Cond.code ⟨"ZoneFilesModel", "isDigit", "(I)Z"⟩ prog_14_method_7_code 1 (some .boolean) ∈ T0 := tb_6 92 rfl rfl
theorem m_6_93 : Cond.methodLink "ZoneFilesModel" 172 ⟨"ZoneFilesModel", "isLetter", "(I)Z"⟩ ∈ T0 := tb_6 93 rfl rfl
theorem m_6_94 : Cond.static ⟨"ZoneFilesModel", "isLetter", "(I)Z"⟩ ∈ T0 := tb_6 94 rfl rfl
theorem m_6_95 : Cond.code ⟨"ZoneFilesModel", "isLetter", "(I)Z"⟩ prog_14_method_8_code 1 (some .boolean) ∈ T0 := tb_6 95 rfl rfl
theorem m_6_96 : Cond.methodLink "ZoneFilesModel" 179 ⟨"ZoneFilesModel", "cannot", "(I)V"⟩ ∈ T0 := tb_6 96 rfl rfl
theorem m_6_98 : Cond.instanceMethod ⟨"ZoneFilesModel", "cannot", "(I)V"⟩ ∈ T0 := tb_6 98 rfl rfl
theorem m_6_99 : Cond.code ⟨"ZoneFilesModel", "cannot", "(I)V"⟩ prog_14_method_6_code 2 none ∈ T0 := tb_6 99 rfl rfl
theorem m_6_100 : Cond.methodLink "ZoneFilesModel" 186 ⟨"ZoneFilesModel", "sign", "(I)V"⟩ ∈ T0 := tb_6 100 rfl rfl
theorem m_6_102 : Cond.instanceMethod ⟨"ZoneFilesModel", "sign", "(I)V"⟩ ∈ T0 := tb_6 102 rfl rfl
theorem m_6_103 : Cond.code ⟨"ZoneFilesModel", "sign", "(I)V"⟩ prog_14_method_10_code 2 none ∈ T0 := tb_6 103 rfl rfl
theorem m_6_104 : Cond.methodLink "ZoneFilesModel" 193 ⟨"ZoneFilesModel", "offsetText", "(ZI)I"⟩ ∈ T0 := tb_6 104 rfl rfl
theorem m_6_106 : Cond.instanceMethod ⟨"ZoneFilesModel", "offsetText", "(ZI)I"⟩ ∈ T0 := tb_6 106 rfl rfl
theorem m_6_107 : Cond.code ⟨"ZoneFilesModel", "offsetText", "(ZI)I"⟩ prog_14_method_13_code 5 (some .int) ∈ T0 := tb_6 107 rfl rfl
theorem m_6_108 : Cond.methodLink "ZoneFilesModel" 189 ⟨"ZoneFilesModel", "number", "(II)I"⟩ ∈ T0 := tb_6 108 rfl rfl
theorem m_6_110 : Cond.instanceMethod ⟨"ZoneFilesModel", "number", "(II)I"⟩ ∈ T0 := tb_6 110 rfl rfl
theorem m_6_111 : Cond.code ⟨"ZoneFilesModel", "number", "(II)I"⟩ prog_14_method_11_code 5 (some .int) ∈ T0 := tb_6 111 rfl rfl
theorem m_6_112 : Cond.methodLink "ZoneFilesModel" 200 ⟨"ZoneFilesModel", "dayText", "(II)V"⟩ ∈ T0 := tb_6 112 rfl rfl
theorem m_6_114 : Cond.instanceMethod ⟨"ZoneFilesModel", "dayText", "(II)V"⟩ ∈ T0 := tb_6 114 rfl rfl
theorem m_6_115 : Cond.code ⟨"ZoneFilesModel", "dayText", "(II)V"⟩ prog_14_method_14_code 5 none ∈ T0 := tb_6 115 rfl rfl
theorem m_7_113 : Cond.constantLong "ZoneFilesModel" 153 255 ∈ T0 := tb_7 113 rfl rfl
theorem msel_48 : Cond.selects "ZoneFilesModel" ⟨"ZoneFilesModel", "nameText", "(I)V"⟩ ⟨"ZoneFilesModel", "nameText", "(I)V"⟩ ∈ T0 := ps_4 (q := (⟨"ZoneFilesModel", "nameText", "(I)V"⟩, 72)) 0 rfl
theorem msel_49 : Cond.selects "ZoneFilesModel" ⟨"ZoneFilesModel", "look", "()I"⟩ ⟨"ZoneFilesModel", "look", "()I"⟩ ∈ T0 := ps_4 (q := (⟨"ZoneFilesModel", "look", "()I"⟩, 72)) 1 rfl
theorem msel_50 : Cond.selects "ZoneFilesModel" ⟨"ZoneFilesModel", "cannot", "(I)V"⟩ ⟨"ZoneFilesModel", "cannot", "(I)V"⟩ ∈ T0 := ps_4 (q := (⟨"ZoneFilesModel", "cannot", "(I)V"⟩, 72)) 2 rfl
theorem msel_51 : Cond.selects "ZoneFilesModel" ⟨"ZoneFilesModel", "sign", "(I)V"⟩ ⟨"ZoneFilesModel", "sign", "(I)V"⟩ ∈ T0 := ps_4 (q := (⟨"ZoneFilesModel", "sign", "(I)V"⟩, 72)) 3 rfl
theorem msel_52 : Cond.selects "ZoneFilesModel" ⟨"ZoneFilesModel", "offsetText", "(ZI)I"⟩ ⟨"ZoneFilesModel", "offsetText", "(ZI)I"⟩ ∈ T0 := ps_4 (q := (⟨"ZoneFilesModel", "offsetText", "(ZI)I"⟩, 72)) 4 rfl
theorem msel_53 : Cond.selects "ZoneFilesModel" ⟨"ZoneFilesModel", "number", "(II)I"⟩ ⟨"ZoneFilesModel", "number", "(II)I"⟩ ∈ T0 := ps_4 (q := (⟨"ZoneFilesModel", "number", "(II)I"⟩, 72)) 5 rfl
theorem msel_54 : Cond.selects "ZoneFilesModel" ⟨"ZoneFilesModel", "dayText", "(II)V"⟩ ⟨"ZoneFilesModel", "dayText", "(II)V"⟩ ∈ T0 := ps_4 (q := (⟨"ZoneFilesModel", "dayText", "(II)V"⟩, 72)) 6 rfl
abbrev b_Mo_thrown : ByteArray := prog_14_method_2_code
def y_Mo_thrown : MethodName := ⟨"ZoneFilesModel", "thrown", "()I"⟩
theorem d_Mo_thrown_0 : decode b_Mo_thrown 0 = .ok (.aload_n 0, 1) := by decide +kernel
theorem d_Mo_thrown_1 : decode b_Mo_thrown 1 = .ok (.getfield 150, 3) := by decide +kernel
theorem d_Mo_thrown_4 : decode b_Mo_thrown 4 = .ok (.ireturn, 1) := by decide +kernel
abbrev b_Mo_feed : ByteArray := prog_14_method_3_code
def y_Mo_feed : MethodName := ⟨"ZoneFilesModel", "feed", "(IJ)I"⟩
theorem d_Mo_feed_0 : decode b_Mo_feed 0 = .ok (.aload_n 0, 1) := by decide +kernel
theorem d_Mo_feed_1 : decode b_Mo_feed 1 = .ok (.iload_n 1, 1) := by decide +kernel
theorem d_Mo_feed_2 : decode b_Mo_feed 2 = .ok (.iconst 1, 1) := by decide +kernel
theorem d_Mo_feed_3 : decode b_Mo_feed 3 = .ok (.if_icmp .lt 21, 3) := by decide +kernel
theorem d_Mo_feed_6 : decode b_Mo_feed 6 = .ok (.iload_n 1, 1) := by decide +kernel
theorem d_Mo_feed_7 : decode b_Mo_feed 7 = .ok (.bipush 8, 2) := by decide +kernel
theorem d_Mo_feed_9 : decode b_Mo_feed 9 = .ok (.if_icmp .gt 15, 3) := by decide +kernel
theorem d_Mo_feed_12 : decode b_Mo_feed 12 = .ok (.aload_n 0, 1) := by decide +kernel
theorem d_Mo_feed_13 : decode b_Mo_feed 13 = .ok (.getfield 135, 3) := by decide +kernel
theorem d_Mo_feed_16 : decode b_Mo_feed 16 = .ok (.iload_n 1, 1) := by decide +kernel
theorem d_Mo_feed_17 : decode b_Mo_feed 17 = .ok (.iadd, 1) := by decide +kernel
theorem d_Mo_feed_18 : decode b_Mo_feed 18 = .ok (.sipush 6000, 3) := by decide +kernel
theorem d_Mo_feed_21 : decode b_Mo_feed 21 = .ok (.if_icmp .le 7, 3) := by decide +kernel
theorem d_Mo_feed_24 : decode b_Mo_feed 24 = .ok (.iconst 1, 1) := by decide +kernel
theorem d_Mo_feed_25 : decode b_Mo_feed 25 = .ok (.goto 4, 3) := by decide +kernel
theorem d_Mo_feed_28 : decode b_Mo_feed 28 = .ok (.iconst 0, 1) := by decide +kernel
theorem d_Mo_feed_29 : decode b_Mo_feed 29 = .ok (.putfield 150, 3) := by decide +kernel
theorem d_Mo_feed_32 : decode b_Mo_feed 32 = .ok (.aload_n 0, 1) := by decide +kernel
theorem d_Mo_feed_33 : decode b_Mo_feed 33 = .ok (.getfield 150, 3) := by decide +kernel
theorem d_Mo_feed_36 : decode b_Mo_feed 36 = .ok (.ifCond .le 5, 3) := by decide +kernel
theorem d_Mo_feed_39 : decode b_Mo_feed 39 = .ok (.iconst 0, 1) := by decide +kernel
theorem d_Mo_feed_40 : decode b_Mo_feed 40 = .ok (.ireturn, 1) := by decide +kernel
theorem d_Mo_feed_41 : decode b_Mo_feed 41 = .ok (.iconst 0, 1) := by decide +kernel
theorem d_Mo_feed_42 : decode b_Mo_feed 42 = .ok (.istore 4, 2) := by decide +kernel
theorem d_Mo_feed_44 : decode b_Mo_feed 44 = .ok (.iload 4, 2) := by decide +kernel
theorem d_Mo_feed_46 : decode b_Mo_feed 46 = .ok (.iload_n 1, 1) := by decide +kernel
theorem d_Mo_feed_47 : decode b_Mo_feed 47 = .ok (.if_icmp .ge 33, 3) := by decide +kernel
theorem d_Mo_feed_50 : decode b_Mo_feed 50 = .ok (.aload_n 0, 1) := by decide +kernel
theorem d_Mo_feed_51 : decode b_Mo_feed 51 = .ok (.getfield 7, 3) := by decide +kernel
theorem d_Mo_feed_54 : decode b_Mo_feed 54 = .ok (.aload_n 0, 1) := by decide +kernel
theorem d_Mo_feed_55 : decode b_Mo_feed 55 = .ok (.getfield 135, 3) := by decide +kernel
theorem d_Mo_feed_58 : decode b_Mo_feed 58 = .ok (.iload 4, 2) := by decide +kernel
theorem d_Mo_feed_60 : decode b_Mo_feed 60 = .ok (.iadd, 1) := by decide +kernel
theorem d_Mo_feed_61 : decode b_Mo_feed 61 = .ok (.lload_n 2, 1) := by decide +kernel
theorem d_Mo_feed_62 : decode b_Mo_feed 62 = .ok (.bipush 8, 2) := by decide +kernel
theorem d_Mo_feed_64 : decode b_Mo_feed 64 = .ok (.iload 4, 2) := by decide +kernel
theorem d_Mo_feed_66 : decode b_Mo_feed 66 = .ok (.imul, 1) := by decide +kernel
theorem d_Mo_feed_67 : decode b_Mo_feed 67 = .ok (.lshr, 1) := by decide +kernel
theorem d_Mo_feed_68 : decode b_Mo_feed 68 = .ok (.ldc2_w 153, 3) := by decide +kernel
theorem d_Mo_feed_71 : decode b_Mo_feed 71 = .ok (.land, 1) := by decide +kernel
theorem d_Mo_feed_72 : decode b_Mo_feed 72 = .ok (.l2i, 1) := by decide +kernel
theorem d_Mo_feed_73 : decode b_Mo_feed 73 = .ok (.iastore, 1) := by decide +kernel
theorem d_Mo_feed_74 : decode b_Mo_feed 74 = .ok (.iinc 4 1, 3) := by decide +kernel
theorem d_Mo_feed_77 : decode b_Mo_feed 77 = .ok (.goto (-33), 3) := by decide +kernel
theorem d_Mo_feed_80 : decode b_Mo_feed 80 = .ok (.aload_n 0, 1) := by decide +kernel
theorem d_Mo_feed_81 : decode b_Mo_feed 81 = .ok (.dup, 1) := by decide +kernel
theorem d_Mo_feed_82 : decode b_Mo_feed 82 = .ok (.getfield 135, 3) := by decide +kernel
theorem d_Mo_feed_85 : decode b_Mo_feed 85 = .ok (.iload_n 1, 1) := by decide +kernel
theorem d_Mo_feed_86 : decode b_Mo_feed 86 = .ok (.iadd, 1) := by decide +kernel
theorem d_Mo_feed_87 : decode b_Mo_feed 87 = .ok (.putfield 135, 3) := by decide +kernel
theorem d_Mo_feed_90 : decode b_Mo_feed 90 = .ok (.aload_n 0, 1) := by decide +kernel
theorem d_Mo_feed_91 : decode b_Mo_feed 91 = .ok (.getfield 135, 3) := by decide +kernel
theorem d_Mo_feed_94 : decode b_Mo_feed 94 = .ok (.ireturn, 1) := by decide +kernel
abbrev b_Mo_put : ByteArray := prog_14_method_4_code
def y_Mo_put : MethodName := ⟨"ZoneFilesModel", "put", "(II)V"⟩
theorem d_Mo_put_0 : decode b_Mo_put 0 = .ok (.aload_n 0, 1) := by decide +kernel
theorem d_Mo_put_1 : decode b_Mo_put 1 = .ok (.getfield 17, 3) := by decide +kernel
theorem d_Mo_put_4 : decode b_Mo_put 4 = .ok (.iload_n 1, 1) := by decide +kernel
theorem d_Mo_put_5 : decode b_Mo_put 5 = .ok (.aload_n 0, 1) := by decide +kernel
theorem d_Mo_put_6 : decode b_Mo_put 6 = .ok (.getfield 17, 3) := by decide +kernel
theorem d_Mo_put_9 : decode b_Mo_put 9 = .ok (.iload_n 2, 1) := by decide +kernel
theorem d_Mo_put_10 : decode b_Mo_put 10 = .ok (.iaload, 1) := by decide +kernel
theorem d_Mo_put_11 : decode b_Mo_put 11 = .ok (.iastore, 1) := by decide +kernel
theorem d_Mo_put_12 : decode b_Mo_put 12 = .ok (.aload_n 0, 1) := by decide +kernel
theorem d_Mo_put_13 : decode b_Mo_put 13 = .ok (.getfield 20, 3) := by decide +kernel
theorem d_Mo_put_16 : decode b_Mo_put 16 = .ok (.iload_n 1, 1) := by decide +kernel
theorem d_Mo_put_17 : decode b_Mo_put 17 = .ok (.aload_n 0, 1) := by decide +kernel
theorem d_Mo_put_18 : decode b_Mo_put 18 = .ok (.getfield 20, 3) := by decide +kernel
theorem d_Mo_put_21 : decode b_Mo_put 21 = .ok (.iload_n 2, 1) := by decide +kernel
theorem d_Mo_put_22 : decode b_Mo_put 22 = .ok (.iaload, 1) := by decide +kernel
theorem d_Mo_put_23 : decode b_Mo_put 23 = .ok (.iastore, 1) := by decide +kernel
theorem d_Mo_put_24 : decode b_Mo_put 24 = .ok (.aload_n 0, 1) := by decide +kernel
theorem d_Mo_put_25 : decode b_Mo_put 25 = .ok (.getfield 23, 3) := by decide +kernel
theorem d_Mo_put_28 : decode b_Mo_put 28 = .ok (.iload_n 1, 1) := by decide +kernel
theorem d_Mo_put_29 : decode b_Mo_put 29 = .ok (.aload_n 0, 1) := by decide +kernel
theorem d_Mo_put_30 : decode b_Mo_put 30 = .ok (.getfield 23, 3) := by decide +kernel
theorem d_Mo_put_33 : decode b_Mo_put 33 = .ok (.iload_n 2, 1) := by decide +kernel
theorem d_Mo_put_34 : decode b_Mo_put 34 = .ok (.iaload, 1) := by decide +kernel
theorem d_Mo_put_35 : decode b_Mo_put 35 = .ok (.iastore, 1) := by decide +kernel
theorem d_Mo_put_36 : decode b_Mo_put 36 = .ok (.aload_n 0, 1) := by decide +kernel
theorem d_Mo_put_37 : decode b_Mo_put 37 = .ok (.getfield 26, 3) := by decide +kernel
theorem d_Mo_put_40 : decode b_Mo_put 40 = .ok (.iload_n 1, 1) := by decide +kernel
theorem d_Mo_put_41 : decode b_Mo_put 41 = .ok (.aload_n 0, 1) := by decide +kernel
theorem d_Mo_put_42 : decode b_Mo_put 42 = .ok (.getfield 26, 3) := by decide +kernel
theorem d_Mo_put_45 : decode b_Mo_put 45 = .ok (.iload_n 2, 1) := by decide +kernel
theorem d_Mo_put_46 : decode b_Mo_put 46 = .ok (.iaload, 1) := by decide +kernel
theorem d_Mo_put_47 : decode b_Mo_put 47 = .ok (.iastore, 1) := by decide +kernel
theorem d_Mo_put_48 : decode b_Mo_put 48 = .ok (.aload_n 0, 1) := by decide +kernel
theorem d_Mo_put_49 : decode b_Mo_put 49 = .ok (.getfield 29, 3) := by decide +kernel
theorem d_Mo_put_52 : decode b_Mo_put 52 = .ok (.iload_n 1, 1) := by decide +kernel
theorem d_Mo_put_53 : decode b_Mo_put 53 = .ok (.aload_n 0, 1) := by decide +kernel
theorem d_Mo_put_54 : decode b_Mo_put 54 = .ok (.getfield 29, 3) := by decide +kernel
theorem d_Mo_put_57 : decode b_Mo_put 57 = .ok (.iload_n 2, 1) := by decide +kernel
theorem d_Mo_put_58 : decode b_Mo_put 58 = .ok (.iaload, 1) := by decide +kernel
theorem d_Mo_put_59 : decode b_Mo_put 59 = .ok (.iastore, 1) := by decide +kernel
theorem d_Mo_put_60 : decode b_Mo_put 60 = .ok (.aload_n 0, 1) := by decide +kernel
theorem d_Mo_put_61 : decode b_Mo_put 61 = .ok (.getfield 32, 3) := by decide +kernel
theorem d_Mo_put_64 : decode b_Mo_put 64 = .ok (.iload_n 1, 1) := by decide +kernel
theorem d_Mo_put_65 : decode b_Mo_put 65 = .ok (.aload_n 0, 1) := by decide +kernel
theorem d_Mo_put_66 : decode b_Mo_put 66 = .ok (.getfield 32, 3) := by decide +kernel
theorem d_Mo_put_69 : decode b_Mo_put 69 = .ok (.iload_n 2, 1) := by decide +kernel
theorem d_Mo_put_70 : decode b_Mo_put 70 = .ok (.iaload, 1) := by decide +kernel
theorem d_Mo_put_71 : decode b_Mo_put 71 = .ok (.iastore, 1) := by decide +kernel
theorem d_Mo_put_72 : decode b_Mo_put 72 = .ok (.aload_n 0, 1) := by decide +kernel
theorem d_Mo_put_73 : decode b_Mo_put 73 = .ok (.getfield 35, 3) := by decide +kernel
theorem d_Mo_put_76 : decode b_Mo_put 76 = .ok (.iload_n 1, 1) := by decide +kernel
theorem d_Mo_put_77 : decode b_Mo_put 77 = .ok (.aload_n 0, 1) := by decide +kernel
theorem d_Mo_put_78 : decode b_Mo_put 78 = .ok (.getfield 35, 3) := by decide +kernel
theorem d_Mo_put_81 : decode b_Mo_put 81 = .ok (.iload_n 2, 1) := by decide +kernel
theorem d_Mo_put_82 : decode b_Mo_put 82 = .ok (.iaload, 1) := by decide +kernel
theorem d_Mo_put_83 : decode b_Mo_put 83 = .ok (.iastore, 1) := by decide +kernel
theorem d_Mo_put_84 : decode b_Mo_put 84 = .ok (.aload_n 0, 1) := by decide +kernel
theorem d_Mo_put_85 : decode b_Mo_put 85 = .ok (.getfield 38, 3) := by decide +kernel
theorem d_Mo_put_88 : decode b_Mo_put 88 = .ok (.iload_n 1, 1) := by decide +kernel
theorem d_Mo_put_89 : decode b_Mo_put 89 = .ok (.aload_n 0, 1) := by decide +kernel
theorem d_Mo_put_90 : decode b_Mo_put 90 = .ok (.getfield 38, 3) := by decide +kernel
theorem d_Mo_put_93 : decode b_Mo_put 93 = .ok (.iload_n 2, 1) := by decide +kernel
theorem d_Mo_put_94 : decode b_Mo_put 94 = .ok (.iaload, 1) := by decide +kernel
theorem d_Mo_put_95 : decode b_Mo_put 95 = .ok (.iastore, 1) := by decide +kernel
theorem d_Mo_put_96 : decode b_Mo_put 96 = .ok (.aload_n 0, 1) := by decide +kernel
theorem d_Mo_put_97 : decode b_Mo_put 97 = .ok (.getfield 75, 3) := by decide +kernel
theorem d_Mo_put_100 : decode b_Mo_put 100 = .ok (.iload_n 1, 1) := by decide +kernel
theorem d_Mo_put_101 : decode b_Mo_put 101 = .ok (.aload_n 0, 1) := by decide +kernel
theorem d_Mo_put_102 : decode b_Mo_put 102 = .ok (.getfield 75, 3) := by decide +kernel
theorem d_Mo_put_105 : decode b_Mo_put 105 = .ok (.iload_n 2, 1) := by decide +kernel
theorem d_Mo_put_106 : decode b_Mo_put 106 = .ok (.iaload, 1) := by decide +kernel
theorem d_Mo_put_107 : decode b_Mo_put 107 = .ok (.iastore, 1) := by decide +kernel
theorem d_Mo_put_108 : decode b_Mo_put 108 = .ok (.iconst 0, 1) := by decide +kernel
theorem d_Mo_put_109 : decode b_Mo_put 109 = .ok (.istore_n 3, 1) := by decide +kernel
theorem d_Mo_put_110 : decode b_Mo_put 110 = .ok (.iload_n 3, 1) := by decide +kernel
theorem d_Mo_put_111 : decode b_Mo_put 111 = .ok (.sipush 200, 3) := by decide +kernel
theorem d_Mo_put_114 : decode b_Mo_put 114 = .ok (.if_icmp .ge 81, 3) := by decide +kernel
theorem d_Mo_put_117 : decode b_Mo_put 117 = .ok (.aload_n 0, 1) := by decide +kernel
theorem d_Mo_put_118 : decode b_Mo_put 118 = .ok (.getfield 41, 3) := by decide +kernel
theorem d_Mo_put_121 : decode b_Mo_put 121 = .ok (.sipush 200, 3) := by decide +kernel
theorem d_Mo_put_124 : decode b_Mo_put 124 = .ok (.iload_n 1, 1) := by decide +kernel
theorem d_Mo_put_125 : decode b_Mo_put 125 = .ok (.imul, 1) := by decide +kernel
theorem d_Mo_put_126 : decode b_Mo_put 126 = .ok (.iload_n 3, 1) := by decide +kernel
theorem d_Mo_put_127 : decode b_Mo_put 127 = .ok (.iadd, 1) := by decide +kernel
theorem d_Mo_put_128 : decode b_Mo_put 128 = .ok (.aload_n 0, 1) := by decide +kernel
theorem d_Mo_put_129 : decode b_Mo_put 129 = .ok (.getfield 41, 3) := by decide +kernel
theorem d_Mo_put_132 : decode b_Mo_put 132 = .ok (.sipush 200, 3) := by decide +kernel
theorem d_Mo_put_135 : decode b_Mo_put 135 = .ok (.iload_n 2, 1) := by decide +kernel
theorem d_Mo_put_136 : decode b_Mo_put 136 = .ok (.imul, 1) := by decide +kernel
theorem d_Mo_put_137 : decode b_Mo_put 137 = .ok (.iload_n 3, 1) := by decide +kernel
theorem d_Mo_put_138 : decode b_Mo_put 138 = .ok (.iadd, 1) := by decide +kernel
theorem d_Mo_put_139 : decode b_Mo_put 139 = .ok (.laload, 1) := by decide +kernel
theorem d_Mo_put_140 : decode b_Mo_put 140 = .ok (.lastore, 1) := by decide +kernel
theorem d_Mo_put_141 : decode b_Mo_put 141 = .ok (.aload_n 0, 1) := by decide +kernel
theorem d_Mo_put_142 : decode b_Mo_put 142 = .ok (.getfield 45, 3) := by decide +kernel
theorem d_Mo_put_145 : decode b_Mo_put 145 = .ok (.sipush 200, 3) := by decide +kernel
theorem d_Mo_put_148 : decode b_Mo_put 148 = .ok (.iload_n 1, 1) := by decide +kernel
theorem d_Mo_put_149 : decode b_Mo_put 149 = .ok (.imul, 1) := by decide +kernel
theorem d_Mo_put_150 : decode b_Mo_put 150 = .ok (.iload_n 3, 1) := by decide +kernel
theorem d_Mo_put_151 : decode b_Mo_put 151 = .ok (.iadd, 1) := by decide +kernel
theorem d_Mo_put_152 : decode b_Mo_put 152 = .ok (.aload_n 0, 1) := by decide +kernel
theorem d_Mo_put_153 : decode b_Mo_put 153 = .ok (.getfield 45, 3) := by decide +kernel
theorem d_Mo_put_156 : decode b_Mo_put 156 = .ok (.sipush 200, 3) := by decide +kernel
theorem d_Mo_put_159 : decode b_Mo_put 159 = .ok (.iload_n 2, 1) := by decide +kernel
theorem d_Mo_put_160 : decode b_Mo_put 160 = .ok (.imul, 1) := by decide +kernel
theorem d_Mo_put_161 : decode b_Mo_put 161 = .ok (.iload_n 3, 1) := by decide +kernel
theorem d_Mo_put_162 : decode b_Mo_put 162 = .ok (.iadd, 1) := by decide +kernel
theorem d_Mo_put_163 : decode b_Mo_put 163 = .ok (.iaload, 1) := by decide +kernel
theorem d_Mo_put_164 : decode b_Mo_put 164 = .ok (.iastore, 1) := by decide +kernel
theorem d_Mo_put_165 : decode b_Mo_put 165 = .ok (.aload_n 0, 1) := by decide +kernel
theorem d_Mo_put_166 : decode b_Mo_put 166 = .ok (.getfield 57, 3) := by decide +kernel
theorem d_Mo_put_169 : decode b_Mo_put 169 = .ok (.sipush 200, 3) := by decide +kernel
theorem d_Mo_put_172 : decode b_Mo_put 172 = .ok (.iload_n 1, 1) := by decide +kernel
theorem d_Mo_put_173 : decode b_Mo_put 173 = .ok (.imul, 1) := by decide +kernel
theorem d_Mo_put_174 : decode b_Mo_put 174 = .ok (.iload_n 3, 1) := by decide +kernel
theorem d_Mo_put_175 : decode b_Mo_put 175 = .ok (.iadd, 1) := by decide +kernel
theorem d_Mo_put_176 : decode b_Mo_put 176 = .ok (.aload_n 0, 1) := by decide +kernel
theorem d_Mo_put_177 : decode b_Mo_put 177 = .ok (.getfield 57, 3) := by decide +kernel
theorem d_Mo_put_180 : decode b_Mo_put 180 = .ok (.sipush 200, 3) := by decide +kernel
theorem d_Mo_put_183 : decode b_Mo_put 183 = .ok (.iload_n 2, 1) := by decide +kernel
theorem d_Mo_put_184 : decode b_Mo_put 184 = .ok (.imul, 1) := by decide +kernel
theorem d_Mo_put_185 : decode b_Mo_put 185 = .ok (.iload_n 3, 1) := by decide +kernel
theorem d_Mo_put_186 : decode b_Mo_put 186 = .ok (.iadd, 1) := by decide +kernel
theorem d_Mo_put_187 : decode b_Mo_put 187 = .ok (.iaload, 1) := by decide +kernel
theorem d_Mo_put_188 : decode b_Mo_put 188 = .ok (.iastore, 1) := by decide +kernel
theorem d_Mo_put_189 : decode b_Mo_put 189 = .ok (.iinc 3 1, 3) := by decide +kernel
theorem d_Mo_put_192 : decode b_Mo_put 192 = .ok (.goto (-82), 3) := by decide +kernel
theorem d_Mo_put_195 : decode b_Mo_put 195 = .ok (.iconst 0, 1) := by decide +kernel
theorem d_Mo_put_196 : decode b_Mo_put 196 = .ok (.istore_n 3, 1) := by decide +kernel
theorem d_Mo_put_197 : decode b_Mo_put 197 = .ok (.iload_n 3, 1) := by decide +kernel
theorem d_Mo_put_198 : decode b_Mo_put 198 = .ok (.bipush 40, 2) := by decide +kernel
theorem d_Mo_put_200 : decode b_Mo_put 200 = .ok (.if_icmp .ge 163, 3) := by decide +kernel
theorem d_Mo_put_203 : decode b_Mo_put 203 = .ok (.aload_n 0, 1) := by decide +kernel
theorem d_Mo_put_204 : decode b_Mo_put 204 = .ok (.getfield 48, 3) := by decide +kernel
theorem d_Mo_put_207 : decode b_Mo_put 207 = .ok (.bipush 40, 2) := by decide +kernel
theorem d_Mo_put_209 : decode b_Mo_put 209 = .ok (.iload_n 1, 1) := by decide +kernel
theorem d_Mo_put_210 : decode b_Mo_put 210 = .ok (.imul, 1) := by decide +kernel
theorem d_Mo_put_211 : decode b_Mo_put 211 = .ok (.iload_n 3, 1) := by decide +kernel
theorem d_Mo_put_212 : decode b_Mo_put 212 = .ok (.iadd, 1) := by decide +kernel
theorem d_Mo_put_213 : decode b_Mo_put 213 = .ok (.aload_n 0, 1) := by decide +kernel
theorem d_Mo_put_214 : decode b_Mo_put 214 = .ok (.getfield 48, 3) := by decide +kernel
theorem d_Mo_put_217 : decode b_Mo_put 217 = .ok (.bipush 40, 2) := by decide +kernel
theorem d_Mo_put_219 : decode b_Mo_put 219 = .ok (.iload_n 2, 1) := by decide +kernel
theorem d_Mo_put_220 : decode b_Mo_put 220 = .ok (.imul, 1) := by decide +kernel
theorem d_Mo_put_221 : decode b_Mo_put 221 = .ok (.iload_n 3, 1) := by decide +kernel
theorem d_Mo_put_222 : decode b_Mo_put 222 = .ok (.iadd, 1) := by decide +kernel
theorem d_Mo_put_223 : decode b_Mo_put 223 = .ok (.iaload, 1) := by decide +kernel
theorem d_Mo_put_224 : decode b_Mo_put 224 = .ok (.iastore, 1) := by decide +kernel
theorem d_Mo_put_225 : decode b_Mo_put 225 = .ok (.aload_n 0, 1) := by decide +kernel
theorem d_Mo_put_226 : decode b_Mo_put 226 = .ok (.getfield 51, 3) := by decide +kernel
theorem d_Mo_put_229 : decode b_Mo_put 229 = .ok (.bipush 40, 2) := by decide +kernel
theorem d_Mo_put_231 : decode b_Mo_put 231 = .ok (.iload_n 1, 1) := by decide +kernel
theorem d_Mo_put_232 : decode b_Mo_put 232 = .ok (.imul, 1) := by decide +kernel
theorem d_Mo_put_233 : decode b_Mo_put 233 = .ok (.iload_n 3, 1) := by decide +kernel
theorem d_Mo_put_234 : decode b_Mo_put 234 = .ok (.iadd, 1) := by decide +kernel
theorem d_Mo_put_235 : decode b_Mo_put 235 = .ok (.aload_n 0, 1) := by decide +kernel
theorem d_Mo_put_236 : decode b_Mo_put 236 = .ok (.getfield 51, 3) := by decide +kernel
theorem d_Mo_put_239 : decode b_Mo_put 239 = .ok (.bipush 40, 2) := by decide +kernel
theorem d_Mo_put_241 : decode b_Mo_put 241 = .ok (.iload_n 2, 1) := by decide +kernel
theorem d_Mo_put_242 : decode b_Mo_put 242 = .ok (.imul, 1) := by decide +kernel
theorem d_Mo_put_243 : decode b_Mo_put 243 = .ok (.iload_n 3, 1) := by decide +kernel
theorem d_Mo_put_244 : decode b_Mo_put 244 = .ok (.iadd, 1) := by decide +kernel
theorem d_Mo_put_245 : decode b_Mo_put 245 = .ok (.iaload, 1) := by decide +kernel
theorem d_Mo_put_246 : decode b_Mo_put 246 = .ok (.iastore, 1) := by decide +kernel
theorem d_Mo_put_247 : decode b_Mo_put 247 = .ok (.aload_n 0, 1) := by decide +kernel
theorem d_Mo_put_248 : decode b_Mo_put 248 = .ok (.getfield 54, 3) := by decide +kernel
theorem d_Mo_put_251 : decode b_Mo_put 251 = .ok (.bipush 40, 2) := by decide +kernel
theorem d_Mo_put_253 : decode b_Mo_put 253 = .ok (.iload_n 1, 1) := by decide +kernel
theorem d_Mo_put_254 : decode b_Mo_put 254 = .ok (.imul, 1) := by decide +kernel
theorem d_Mo_put_255 : decode b_Mo_put 255 = .ok (.iload_n 3, 1) := by decide +kernel
theorem d_Mo_put_256 : decode b_Mo_put 256 = .ok (.iadd, 1) := by decide +kernel
theorem d_Mo_put_257 : decode b_Mo_put 257 = .ok (.aload_n 0, 1) := by decide +kernel
theorem d_Mo_put_258 : decode b_Mo_put 258 = .ok (.getfield 54, 3) := by decide +kernel
theorem d_Mo_put_261 : decode b_Mo_put 261 = .ok (.bipush 40, 2) := by decide +kernel
theorem d_Mo_put_263 : decode b_Mo_put 263 = .ok (.iload_n 2, 1) := by decide +kernel
theorem d_Mo_put_264 : decode b_Mo_put 264 = .ok (.imul, 1) := by decide +kernel
theorem d_Mo_put_265 : decode b_Mo_put 265 = .ok (.iload_n 3, 1) := by decide +kernel
theorem d_Mo_put_266 : decode b_Mo_put 266 = .ok (.iadd, 1) := by decide +kernel
theorem d_Mo_put_267 : decode b_Mo_put 267 = .ok (.iaload, 1) := by decide +kernel
theorem d_Mo_put_268 : decode b_Mo_put 268 = .ok (.iastore, 1) := by decide +kernel
theorem d_Mo_put_269 : decode b_Mo_put 269 = .ok (.aload_n 0, 1) := by decide +kernel
theorem d_Mo_put_270 : decode b_Mo_put 270 = .ok (.getfield 60, 3) := by decide +kernel
theorem d_Mo_put_273 : decode b_Mo_put 273 = .ok (.bipush 40, 2) := by decide +kernel
theorem d_Mo_put_275 : decode b_Mo_put 275 = .ok (.iload_n 1, 1) := by decide +kernel
theorem d_Mo_put_276 : decode b_Mo_put 276 = .ok (.imul, 1) := by decide +kernel
theorem d_Mo_put_277 : decode b_Mo_put 277 = .ok (.iload_n 3, 1) := by decide +kernel
theorem d_Mo_put_278 : decode b_Mo_put 278 = .ok (.iadd, 1) := by decide +kernel
theorem d_Mo_put_279 : decode b_Mo_put 279 = .ok (.aload_n 0, 1) := by decide +kernel
theorem d_Mo_put_280 : decode b_Mo_put 280 = .ok (.getfield 60, 3) := by decide +kernel
theorem d_Mo_put_283 : decode b_Mo_put 283 = .ok (.bipush 40, 2) := by decide +kernel
theorem d_Mo_put_285 : decode b_Mo_put 285 = .ok (.iload_n 2, 1) := by decide +kernel
theorem d_Mo_put_286 : decode b_Mo_put 286 = .ok (.imul, 1) := by decide +kernel
theorem d_Mo_put_287 : decode b_Mo_put 287 = .ok (.iload_n 3, 1) := by decide +kernel
theorem d_Mo_put_288 : decode b_Mo_put 288 = .ok (.iadd, 1) := by decide +kernel
theorem d_Mo_put_289 : decode b_Mo_put 289 = .ok (.laload, 1) := by decide +kernel
theorem d_Mo_put_290 : decode b_Mo_put 290 = .ok (.lastore, 1) := by decide +kernel
theorem d_Mo_put_291 : decode b_Mo_put 291 = .ok (.aload_n 0, 1) := by decide +kernel
theorem d_Mo_put_292 : decode b_Mo_put 292 = .ok (.getfield 63, 3) := by decide +kernel
theorem d_Mo_put_295 : decode b_Mo_put 295 = .ok (.bipush 40, 2) := by decide +kernel
theorem d_Mo_put_297 : decode b_Mo_put 297 = .ok (.iload_n 1, 1) := by decide +kernel
theorem d_Mo_put_298 : decode b_Mo_put 298 = .ok (.imul, 1) := by decide +kernel
theorem d_Mo_put_299 : decode b_Mo_put 299 = .ok (.iload_n 3, 1) := by decide +kernel
theorem d_Mo_put_300 : decode b_Mo_put 300 = .ok (.iadd, 1) := by decide +kernel
theorem d_Mo_put_301 : decode b_Mo_put 301 = .ok (.aload_n 0, 1) := by decide +kernel
theorem d_Mo_put_302 : decode b_Mo_put 302 = .ok (.getfield 63, 3) := by decide +kernel
theorem d_Mo_put_305 : decode b_Mo_put 305 = .ok (.bipush 40, 2) := by decide +kernel
theorem d_Mo_put_307 : decode b_Mo_put 307 = .ok (.iload_n 2, 1) := by decide +kernel
theorem d_Mo_put_308 : decode b_Mo_put 308 = .ok (.imul, 1) := by decide +kernel
theorem d_Mo_put_309 : decode b_Mo_put 309 = .ok (.iload_n 3, 1) := by decide +kernel
theorem d_Mo_put_310 : decode b_Mo_put 310 = .ok (.iadd, 1) := by decide +kernel
theorem d_Mo_put_311 : decode b_Mo_put 311 = .ok (.laload, 1) := by decide +kernel
theorem d_Mo_put_312 : decode b_Mo_put 312 = .ok (.lastore, 1) := by decide +kernel
theorem d_Mo_put_313 : decode b_Mo_put 313 = .ok (.aload_n 0, 1) := by decide +kernel
theorem d_Mo_put_314 : decode b_Mo_put 314 = .ok (.getfield 66, 3) := by decide +kernel
theorem d_Mo_put_317 : decode b_Mo_put 317 = .ok (.bipush 40, 2) := by decide +kernel
theorem d_Mo_put_319 : decode b_Mo_put 319 = .ok (.iload_n 1, 1) := by decide +kernel
theorem d_Mo_put_320 : decode b_Mo_put 320 = .ok (.imul, 1) := by decide +kernel
theorem d_Mo_put_321 : decode b_Mo_put 321 = .ok (.iload_n 3, 1) := by decide +kernel
theorem d_Mo_put_322 : decode b_Mo_put 322 = .ok (.iadd, 1) := by decide +kernel
theorem d_Mo_put_323 : decode b_Mo_put 323 = .ok (.aload_n 0, 1) := by decide +kernel
theorem d_Mo_put_324 : decode b_Mo_put 324 = .ok (.getfield 66, 3) := by decide +kernel
theorem d_Mo_put_327 : decode b_Mo_put 327 = .ok (.bipush 40, 2) := by decide +kernel
theorem d_Mo_put_329 : decode b_Mo_put 329 = .ok (.iload_n 2, 1) := by decide +kernel
theorem d_Mo_put_330 : decode b_Mo_put 330 = .ok (.imul, 1) := by decide +kernel
theorem d_Mo_put_331 : decode b_Mo_put 331 = .ok (.iload_n 3, 1) := by decide +kernel
theorem d_Mo_put_332 : decode b_Mo_put 332 = .ok (.iadd, 1) := by decide +kernel
theorem d_Mo_put_333 : decode b_Mo_put 333 = .ok (.iaload, 1) := by decide +kernel
theorem d_Mo_put_334 : decode b_Mo_put 334 = .ok (.iastore, 1) := by decide +kernel
theorem d_Mo_put_335 : decode b_Mo_put 335 = .ok (.aload_n 0, 1) := by decide +kernel
theorem d_Mo_put_336 : decode b_Mo_put 336 = .ok (.getfield 69, 3) := by decide +kernel
theorem d_Mo_put_339 : decode b_Mo_put 339 = .ok (.bipush 40, 2) := by decide +kernel
theorem d_Mo_put_341 : decode b_Mo_put 341 = .ok (.iload_n 1, 1) := by decide +kernel
theorem d_Mo_put_342 : decode b_Mo_put 342 = .ok (.imul, 1) := by decide +kernel
theorem d_Mo_put_343 : decode b_Mo_put 343 = .ok (.iload_n 3, 1) := by decide +kernel
theorem d_Mo_put_344 : decode b_Mo_put 344 = .ok (.iadd, 1) := by decide +kernel
theorem d_Mo_put_345 : decode b_Mo_put 345 = .ok (.aload_n 0, 1) := by decide +kernel
theorem d_Mo_put_346 : decode b_Mo_put 346 = .ok (.getfield 69, 3) := by decide +kernel
theorem d_Mo_put_349 : decode b_Mo_put 349 = .ok (.bipush 40, 2) := by decide +kernel
theorem d_Mo_put_351 : decode b_Mo_put 351 = .ok (.iload_n 2, 1) := by decide +kernel
theorem d_Mo_put_352 : decode b_Mo_put 352 = .ok (.imul, 1) := by decide +kernel
theorem d_Mo_put_353 : decode b_Mo_put 353 = .ok (.iload_n 3, 1) := by decide +kernel
theorem d_Mo_put_354 : decode b_Mo_put 354 = .ok (.iadd, 1) := by decide +kernel
theorem d_Mo_put_355 : decode b_Mo_put 355 = .ok (.iaload, 1) := by decide +kernel
theorem d_Mo_put_356 : decode b_Mo_put 356 = .ok (.iastore, 1) := by decide +kernel
theorem d_Mo_put_357 : decode b_Mo_put 357 = .ok (.iinc 3 1, 3) := by decide +kernel
theorem d_Mo_put_360 : decode b_Mo_put 360 = .ok (.goto (-163), 3) := by decide +kernel
theorem d_Mo_put_363 : decode b_Mo_put 363 = .ok (.iconst 0, 1) := by decide +kernel
theorem d_Mo_put_364 : decode b_Mo_put 364 = .ok (.istore_n 3, 1) := by decide +kernel
theorem d_Mo_put_365 : decode b_Mo_put 365 = .ok (.iload_n 3, 1) := by decide +kernel
theorem d_Mo_put_366 : decode b_Mo_put 366 = .ok (.sipush 128, 3) := by decide +kernel
theorem d_Mo_put_369 : decode b_Mo_put 369 = .ok (.if_icmp .ge 33, 3) := by decide +kernel
theorem d_Mo_put_372 : decode b_Mo_put 372 = .ok (.aload_n 0, 1) := by decide +kernel
theorem d_Mo_put_373 : decode b_Mo_put 373 = .ok (.getfield 72, 3) := by decide +kernel
theorem d_Mo_put_376 : decode b_Mo_put 376 = .ok (.sipush 128, 3) := by decide +kernel
theorem d_Mo_put_379 : decode b_Mo_put 379 = .ok (.iload_n 1, 1) := by decide +kernel
theorem d_Mo_put_380 : decode b_Mo_put 380 = .ok (.imul, 1) := by decide +kernel
theorem d_Mo_put_381 : decode b_Mo_put 381 = .ok (.iload_n 3, 1) := by decide +kernel
theorem d_Mo_put_382 : decode b_Mo_put 382 = .ok (.iadd, 1) := by decide +kernel
theorem d_Mo_put_383 : decode b_Mo_put 383 = .ok (.aload_n 0, 1) := by decide +kernel
theorem d_Mo_put_384 : decode b_Mo_put 384 = .ok (.getfield 72, 3) := by decide +kernel
theorem d_Mo_put_387 : decode b_Mo_put 387 = .ok (.sipush 128, 3) := by decide +kernel
theorem d_Mo_put_390 : decode b_Mo_put 390 = .ok (.iload_n 2, 1) := by decide +kernel
theorem d_Mo_put_391 : decode b_Mo_put 391 = .ok (.imul, 1) := by decide +kernel
theorem d_Mo_put_392 : decode b_Mo_put 392 = .ok (.iload_n 3, 1) := by decide +kernel
theorem d_Mo_put_393 : decode b_Mo_put 393 = .ok (.iadd, 1) := by decide +kernel
theorem d_Mo_put_394 : decode b_Mo_put 394 = .ok (.iaload, 1) := by decide +kernel
theorem d_Mo_put_395 : decode b_Mo_put 395 = .ok (.iastore, 1) := by decide +kernel
theorem d_Mo_put_396 : decode b_Mo_put 396 = .ok (.iinc 3 1, 3) := by decide +kernel
theorem d_Mo_put_399 : decode b_Mo_put 399 = .ok (.goto (-34), 3) := by decide +kernel
theorem d_Mo_put_402 : decode b_Mo_put 402 = .ok (.iconst 0, 1) := by decide +kernel
theorem d_Mo_put_403 : decode b_Mo_put 403 = .ok (.istore_n 3, 1) := by decide +kernel
theorem d_Mo_put_404 : decode b_Mo_put 404 = .ok (.iload_n 3, 1) := by decide +kernel
theorem d_Mo_put_405 : decode b_Mo_put 405 = .ok (.iconst 2, 1) := by decide +kernel
theorem d_Mo_put_406 : decode b_Mo_put 406 = .ok (.if_icmp .ge 149, 3) := by decide +kernel
theorem d_Mo_put_409 : decode b_Mo_put 409 = .ok (.aload_n 0, 1) := by decide +kernel
theorem d_Mo_put_410 : decode b_Mo_put 410 = .ok (.getfield 78, 3) := by decide +kernel
theorem d_Mo_put_413 : decode b_Mo_put 413 = .ok (.iconst 2, 1) := by decide +kernel
theorem d_Mo_put_414 : decode b_Mo_put 414 = .ok (.iload_n 1, 1) := by decide +kernel
theorem d_Mo_put_415 : decode b_Mo_put 415 = .ok (.imul, 1) := by decide +kernel
theorem d_Mo_put_416 : decode b_Mo_put 416 = .ok (.iload_n 3, 1) := by decide +kernel
theorem d_Mo_put_417 : decode b_Mo_put 417 = .ok (.iadd, 1) := by decide +kernel
theorem d_Mo_put_418 : decode b_Mo_put 418 = .ok (.aload_n 0, 1) := by decide +kernel
theorem d_Mo_put_419 : decode b_Mo_put 419 = .ok (.getfield 78, 3) := by decide +kernel
theorem d_Mo_put_422 : decode b_Mo_put 422 = .ok (.iconst 2, 1) := by decide +kernel
theorem d_Mo_put_423 : decode b_Mo_put 423 = .ok (.iload_n 2, 1) := by decide +kernel
theorem d_Mo_put_424 : decode b_Mo_put 424 = .ok (.imul, 1) := by decide +kernel
theorem d_Mo_put_425 : decode b_Mo_put 425 = .ok (.iload_n 3, 1) := by decide +kernel
theorem d_Mo_put_426 : decode b_Mo_put 426 = .ok (.iadd, 1) := by decide +kernel
theorem d_Mo_put_427 : decode b_Mo_put 427 = .ok (.iaload, 1) := by decide +kernel
theorem d_Mo_put_428 : decode b_Mo_put 428 = .ok (.iastore, 1) := by decide +kernel
theorem d_Mo_put_429 : decode b_Mo_put 429 = .ok (.aload_n 0, 1) := by decide +kernel
theorem d_Mo_put_430 : decode b_Mo_put 430 = .ok (.getfield 81, 3) := by decide +kernel
theorem d_Mo_put_433 : decode b_Mo_put 433 = .ok (.iconst 2, 1) := by decide +kernel
theorem d_Mo_put_434 : decode b_Mo_put 434 = .ok (.iload_n 1, 1) := by decide +kernel
theorem d_Mo_put_435 : decode b_Mo_put 435 = .ok (.imul, 1) := by decide +kernel
theorem d_Mo_put_436 : decode b_Mo_put 436 = .ok (.iload_n 3, 1) := by decide +kernel
theorem d_Mo_put_437 : decode b_Mo_put 437 = .ok (.iadd, 1) := by decide +kernel
theorem d_Mo_put_438 : decode b_Mo_put 438 = .ok (.aload_n 0, 1) := by decide +kernel
theorem d_Mo_put_439 : decode b_Mo_put 439 = .ok (.getfield 81, 3) := by decide +kernel
theorem d_Mo_put_442 : decode b_Mo_put 442 = .ok (.iconst 2, 1) := by decide +kernel
theorem d_Mo_put_443 : decode b_Mo_put 443 = .ok (.iload_n 2, 1) := by decide +kernel
theorem d_Mo_put_444 : decode b_Mo_put 444 = .ok (.imul, 1) := by decide +kernel
theorem d_Mo_put_445 : decode b_Mo_put 445 = .ok (.iload_n 3, 1) := by decide +kernel
theorem d_Mo_put_446 : decode b_Mo_put 446 = .ok (.iadd, 1) := by decide +kernel
theorem d_Mo_put_447 : decode b_Mo_put 447 = .ok (.iaload, 1) := by decide +kernel
theorem d_Mo_put_448 : decode b_Mo_put 448 = .ok (.iastore, 1) := by decide +kernel
theorem d_Mo_put_449 : decode b_Mo_put 449 = .ok (.aload_n 0, 1) := by decide +kernel
theorem d_Mo_put_450 : decode b_Mo_put 450 = .ok (.getfield 87, 3) := by decide +kernel
theorem d_Mo_put_453 : decode b_Mo_put 453 = .ok (.iconst 2, 1) := by decide +kernel
theorem d_Mo_put_454 : decode b_Mo_put 454 = .ok (.iload_n 1, 1) := by decide +kernel
theorem d_Mo_put_455 : decode b_Mo_put 455 = .ok (.imul, 1) := by decide +kernel
theorem d_Mo_put_456 : decode b_Mo_put 456 = .ok (.iload_n 3, 1) := by decide +kernel
theorem d_Mo_put_457 : decode b_Mo_put 457 = .ok (.iadd, 1) := by decide +kernel
theorem d_Mo_put_458 : decode b_Mo_put 458 = .ok (.aload_n 0, 1) := by decide +kernel
theorem d_Mo_put_459 : decode b_Mo_put 459 = .ok (.getfield 87, 3) := by decide +kernel
theorem d_Mo_put_462 : decode b_Mo_put 462 = .ok (.iconst 2, 1) := by decide +kernel
theorem d_Mo_put_463 : decode b_Mo_put 463 = .ok (.iload_n 2, 1) := by decide +kernel
theorem d_Mo_put_464 : decode b_Mo_put 464 = .ok (.imul, 1) := by decide +kernel
theorem d_Mo_put_465 : decode b_Mo_put 465 = .ok (.iload_n 3, 1) := by decide +kernel
theorem d_Mo_put_466 : decode b_Mo_put 466 = .ok (.iadd, 1) := by decide +kernel
theorem d_Mo_put_467 : decode b_Mo_put 467 = .ok (.iaload, 1) := by decide +kernel
theorem d_Mo_put_468 : decode b_Mo_put 468 = .ok (.iastore, 1) := by decide +kernel
theorem d_Mo_put_469 : decode b_Mo_put 469 = .ok (.aload_n 0, 1) := by decide +kernel
theorem d_Mo_put_470 : decode b_Mo_put 470 = .ok (.getfield 90, 3) := by decide +kernel
theorem d_Mo_put_473 : decode b_Mo_put 473 = .ok (.iconst 2, 1) := by decide +kernel
theorem d_Mo_put_474 : decode b_Mo_put 474 = .ok (.iload_n 1, 1) := by decide +kernel
theorem d_Mo_put_475 : decode b_Mo_put 475 = .ok (.imul, 1) := by decide +kernel
theorem d_Mo_put_476 : decode b_Mo_put 476 = .ok (.iload_n 3, 1) := by decide +kernel
theorem d_Mo_put_477 : decode b_Mo_put 477 = .ok (.iadd, 1) := by decide +kernel
theorem d_Mo_put_478 : decode b_Mo_put 478 = .ok (.aload_n 0, 1) := by decide +kernel
theorem d_Mo_put_479 : decode b_Mo_put 479 = .ok (.getfield 90, 3) := by decide +kernel
theorem d_Mo_put_482 : decode b_Mo_put 482 = .ok (.iconst 2, 1) := by decide +kernel
theorem d_Mo_put_483 : decode b_Mo_put 483 = .ok (.iload_n 2, 1) := by decide +kernel
theorem d_Mo_put_484 : decode b_Mo_put 484 = .ok (.imul, 1) := by decide +kernel
theorem d_Mo_put_485 : decode b_Mo_put 485 = .ok (.iload_n 3, 1) := by decide +kernel
theorem d_Mo_put_486 : decode b_Mo_put 486 = .ok (.iadd, 1) := by decide +kernel
theorem d_Mo_put_487 : decode b_Mo_put 487 = .ok (.iaload, 1) := by decide +kernel
theorem d_Mo_put_488 : decode b_Mo_put 488 = .ok (.iastore, 1) := by decide +kernel
theorem d_Mo_put_489 : decode b_Mo_put 489 = .ok (.aload_n 0, 1) := by decide +kernel
theorem d_Mo_put_490 : decode b_Mo_put 490 = .ok (.getfield 93, 3) := by decide +kernel
theorem d_Mo_put_493 : decode b_Mo_put 493 = .ok (.iconst 2, 1) := by decide +kernel
theorem d_Mo_put_494 : decode b_Mo_put 494 = .ok (.iload_n 1, 1) := by decide +kernel
theorem d_Mo_put_495 : decode b_Mo_put 495 = .ok (.imul, 1) := by decide +kernel
theorem d_Mo_put_496 : decode b_Mo_put 496 = .ok (.iload_n 3, 1) := by decide +kernel
theorem d_Mo_put_497 : decode b_Mo_put 497 = .ok (.iadd, 1) := by decide +kernel
theorem d_Mo_put_498 : decode b_Mo_put 498 = .ok (.aload_n 0, 1) := by decide +kernel
theorem d_Mo_put_499 : decode b_Mo_put 499 = .ok (.getfield 93, 3) := by decide +kernel
theorem d_Mo_put_502 : decode b_Mo_put 502 = .ok (.iconst 2, 1) := by decide +kernel
theorem d_Mo_put_503 : decode b_Mo_put 503 = .ok (.iload_n 2, 1) := by decide +kernel
theorem d_Mo_put_504 : decode b_Mo_put 504 = .ok (.imul, 1) := by decide +kernel
theorem d_Mo_put_505 : decode b_Mo_put 505 = .ok (.iload_n 3, 1) := by decide +kernel
theorem d_Mo_put_506 : decode b_Mo_put 506 = .ok (.iadd, 1) := by decide +kernel
theorem d_Mo_put_507 : decode b_Mo_put 507 = .ok (.iaload, 1) := by decide +kernel
theorem d_Mo_put_508 : decode b_Mo_put 508 = .ok (.iastore, 1) := by decide +kernel
theorem d_Mo_put_509 : decode b_Mo_put 509 = .ok (.aload_n 0, 1) := by decide +kernel
theorem d_Mo_put_510 : decode b_Mo_put 510 = .ok (.getfield 96, 3) := by decide +kernel
theorem d_Mo_put_513 : decode b_Mo_put 513 = .ok (.iconst 2, 1) := by decide +kernel
theorem d_Mo_put_514 : decode b_Mo_put 514 = .ok (.iload_n 1, 1) := by decide +kernel
theorem d_Mo_put_515 : decode b_Mo_put 515 = .ok (.imul, 1) := by decide +kernel
theorem d_Mo_put_516 : decode b_Mo_put 516 = .ok (.iload_n 3, 1) := by decide +kernel
theorem d_Mo_put_517 : decode b_Mo_put 517 = .ok (.iadd, 1) := by decide +kernel
theorem d_Mo_put_518 : decode b_Mo_put 518 = .ok (.aload_n 0, 1) := by decide +kernel
theorem d_Mo_put_519 : decode b_Mo_put 519 = .ok (.getfield 96, 3) := by decide +kernel
theorem d_Mo_put_522 : decode b_Mo_put 522 = .ok (.iconst 2, 1) := by decide +kernel
theorem d_Mo_put_523 : decode b_Mo_put 523 = .ok (.iload_n 2, 1) := by decide +kernel
theorem d_Mo_put_524 : decode b_Mo_put 524 = .ok (.imul, 1) := by decide +kernel
theorem d_Mo_put_525 : decode b_Mo_put 525 = .ok (.iload_n 3, 1) := by decide +kernel
theorem d_Mo_put_526 : decode b_Mo_put 526 = .ok (.iadd, 1) := by decide +kernel
theorem d_Mo_put_527 : decode b_Mo_put 527 = .ok (.iaload, 1) := by decide +kernel
theorem d_Mo_put_528 : decode b_Mo_put 528 = .ok (.iastore, 1) := by decide +kernel
theorem d_Mo_put_529 : decode b_Mo_put 529 = .ok (.aload_n 0, 1) := by decide +kernel
theorem d_Mo_put_530 : decode b_Mo_put 530 = .ok (.getfield 99, 3) := by decide +kernel
theorem d_Mo_put_533 : decode b_Mo_put 533 = .ok (.iconst 2, 1) := by decide +kernel
theorem d_Mo_put_534 : decode b_Mo_put 534 = .ok (.iload_n 1, 1) := by decide +kernel
theorem d_Mo_put_535 : decode b_Mo_put 535 = .ok (.imul, 1) := by decide +kernel
theorem d_Mo_put_536 : decode b_Mo_put 536 = .ok (.iload_n 3, 1) := by decide +kernel
theorem d_Mo_put_537 : decode b_Mo_put 537 = .ok (.iadd, 1) := by decide +kernel
theorem d_Mo_put_538 : decode b_Mo_put 538 = .ok (.aload_n 0, 1) := by decide +kernel
theorem d_Mo_put_539 : decode b_Mo_put 539 = .ok (.getfield 99, 3) := by decide +kernel
theorem d_Mo_put_542 : decode b_Mo_put 542 = .ok (.iconst 2, 1) := by decide +kernel
theorem d_Mo_put_543 : decode b_Mo_put 543 = .ok (.iload_n 2, 1) := by decide +kernel
theorem d_Mo_put_544 : decode b_Mo_put 544 = .ok (.imul, 1) := by decide +kernel
theorem d_Mo_put_545 : decode b_Mo_put 545 = .ok (.iload_n 3, 1) := by decide +kernel
theorem d_Mo_put_546 : decode b_Mo_put 546 = .ok (.iadd, 1) := by decide +kernel
theorem d_Mo_put_547 : decode b_Mo_put 547 = .ok (.iaload, 1) := by decide +kernel
theorem d_Mo_put_548 : decode b_Mo_put 548 = .ok (.iastore, 1) := by decide +kernel
theorem d_Mo_put_549 : decode b_Mo_put 549 = .ok (.iinc 3 1, 3) := by decide +kernel
theorem d_Mo_put_552 : decode b_Mo_put 552 = .ok (.goto (-148), 3) := by decide +kernel
theorem d_Mo_put_555 : decode b_Mo_put 555 = .ok (.iconst 0, 1) := by decide +kernel
theorem d_Mo_put_556 : decode b_Mo_put 556 = .ok (.istore_n 3, 1) := by decide +kernel
theorem d_Mo_put_557 : decode b_Mo_put 557 = .ok (.iload_n 3, 1) := by decide +kernel
theorem d_Mo_put_558 : decode b_Mo_put 558 = .ok (.bipush 20, 2) := by decide +kernel
theorem d_Mo_put_560 : decode b_Mo_put 560 = .ok (.if_icmp .ge 31, 3) := by decide +kernel
theorem d_Mo_put_563 : decode b_Mo_put 563 = .ok (.aload_n 0, 1) := by decide +kernel
theorem d_Mo_put_564 : decode b_Mo_put 564 = .ok (.getfield 84, 3) := by decide +kernel
theorem d_Mo_put_567 : decode b_Mo_put 567 = .ok (.bipush 20, 2) := by decide +kernel
theorem d_Mo_put_569 : decode b_Mo_put 569 = .ok (.iload_n 1, 1) := by decide +kernel
theorem d_Mo_put_570 : decode b_Mo_put 570 = .ok (.imul, 1) := by decide +kernel
theorem d_Mo_put_571 : decode b_Mo_put 571 = .ok (.iload_n 3, 1) := by decide +kernel
theorem d_Mo_put_572 : decode b_Mo_put 572 = .ok (.iadd, 1) := by decide +kernel
theorem d_Mo_put_573 : decode b_Mo_put 573 = .ok (.aload_n 0, 1) := by decide +kernel
theorem d_Mo_put_574 : decode b_Mo_put 574 = .ok (.getfield 84, 3) := by decide +kernel
theorem d_Mo_put_577 : decode b_Mo_put 577 = .ok (.bipush 20, 2) := by decide +kernel
theorem d_Mo_put_579 : decode b_Mo_put 579 = .ok (.iload_n 2, 1) := by decide +kernel
theorem d_Mo_put_580 : decode b_Mo_put 580 = .ok (.imul, 1) := by decide +kernel
theorem d_Mo_put_581 : decode b_Mo_put 581 = .ok (.iload_n 3, 1) := by decide +kernel
theorem d_Mo_put_582 : decode b_Mo_put 582 = .ok (.iadd, 1) := by decide +kernel
theorem d_Mo_put_583 : decode b_Mo_put 583 = .ok (.iaload, 1) := by decide +kernel
theorem d_Mo_put_584 : decode b_Mo_put 584 = .ok (.iastore, 1) := by decide +kernel
theorem d_Mo_put_585 : decode b_Mo_put 585 = .ok (.iinc 3 1, 3) := by decide +kernel
theorem d_Mo_put_588 : decode b_Mo_put 588 = .ok (.goto (-31), 3) := by decide +kernel
theorem d_Mo_put_591 : decode b_Mo_put 591 = .ok (.return_, 1) := by decide +kernel
abbrev b_Mo_look : ByteArray := prog_14_method_5_code
def y_Mo_look : MethodName := ⟨"ZoneFilesModel", "look", "()I"⟩
theorem d_Mo_look_0 : decode b_Mo_look 0 = .ok (.aload_n 0, 1) := by decide +kernel
theorem d_Mo_look_1 : decode b_Mo_look 1 = .ok (.getfield 155, 3) := by decide +kernel
theorem d_Mo_look_4 : decode b_Mo_look 4 = .ok (.aload_n 0, 1) := by decide +kernel
theorem d_Mo_look_5 : decode b_Mo_look 5 = .ok (.getfield 158, 3) := by decide +kernel
theorem d_Mo_look_8 : decode b_Mo_look 8 = .ok (.if_icmp .ge 15, 3) := by decide +kernel
theorem d_Mo_look_11 : decode b_Mo_look 11 = .ok (.aload_n 0, 1) := by decide +kernel
theorem d_Mo_look_12 : decode b_Mo_look 12 = .ok (.getfield 7, 3) := by decide +kernel
theorem d_Mo_look_15 : decode b_Mo_look 15 = .ok (.aload_n 0, 1) := by decide +kernel
theorem d_Mo_look_16 : decode b_Mo_look 16 = .ok (.getfield 155, 3) := by decide +kernel
theorem d_Mo_look_19 : decode b_Mo_look 19 = .ok (.iaload, 1) := by decide +kernel
theorem d_Mo_look_20 : decode b_Mo_look 20 = .ok (.goto 4, 3) := by decide +kernel
theorem d_Mo_look_23 : decode b_Mo_look 23 = .ok (.iconst (-1), 1) := by decide +kernel
theorem d_Mo_look_24 : decode b_Mo_look 24 = .ok (.ireturn, 1) := by decide +kernel
abbrev b_Mo_cannot : ByteArray := prog_14_method_6_code
def y_Mo_cannot : MethodName := ⟨"ZoneFilesModel", "cannot", "(I)V"⟩
theorem d_Mo_cannot_0 : decode b_Mo_cannot 0 = .ok (.aload_n 0, 1) := by decide +kernel
theorem d_Mo_cannot_1 : decode b_Mo_cannot 1 = .ok (.getfield 161, 3) := by decide +kernel
theorem d_Mo_cannot_4 : decode b_Mo_cannot 4 = .ok (.ifCond .ne 13, 3) := by decide +kernel
theorem d_Mo_cannot_7 : decode b_Mo_cannot 7 = .ok (.aload_n 0, 1) := by decide +kernel
theorem d_Mo_cannot_8 : decode b_Mo_cannot 8 = .ok (.iconst 1, 1) := by decide +kernel
theorem d_Mo_cannot_9 : decode b_Mo_cannot 9 = .ok (.putfield 161, 3) := by decide +kernel
theorem d_Mo_cannot_12 : decode b_Mo_cannot 12 = .ok (.aload_n 0, 1) := by decide +kernel
theorem d_Mo_cannot_13 : decode b_Mo_cannot 13 = .ok (.iload_n 1, 1) := by decide +kernel
theorem d_Mo_cannot_14 : decode b_Mo_cannot 14 = .ok (.putfield 165, 3) := by decide +kernel
theorem d_Mo_cannot_17 : decode b_Mo_cannot 17 = .ok (.return_, 1) := by decide +kernel
abbrev b_Mo_isDigit : ByteArray := prog_14_method_7_code
def y_Mo_isDigit : MethodName := ⟨"ZoneFilesModel", "isDigit", "(I)Z"⟩
theorem d_Mo_isDigit_0 : decode b_Mo_isDigit 0 = .ok (.iload_n 0, 1) := by decide +kernel
theorem d_Mo_isDigit_1 : decode b_Mo_isDigit 1 = .ok (.bipush 48, 2) := by decide +kernel
theorem d_Mo_isDigit_3 : decode b_Mo_isDigit 3 = .ok (.if_icmp .lt 13, 3) := by decide +kernel
theorem d_Mo_isDigit_6 : decode b_Mo_isDigit 6 = .ok (.iload_n 0, 1) := by decide +kernel
theorem d_Mo_isDigit_7 : decode b_Mo_isDigit 7 = .ok (.bipush 57, 2) := by decide +kernel
theorem d_Mo_isDigit_9 : decode b_Mo_isDigit 9 = .ok (.if_icmp .gt 7, 3) := by decide +kernel
theorem d_Mo_isDigit_12 : decode b_Mo_isDigit 12 = .ok (.iconst 1, 1) := by decide +kernel
theorem d_Mo_isDigit_13 : decode b_Mo_isDigit 13 = .ok (.goto 4, 3) := by decide +kernel
theorem d_Mo_isDigit_16 : decode b_Mo_isDigit 16 = .ok (.iconst 0, 1) := by decide +kernel
theorem d_Mo_isDigit_17 : decode b_Mo_isDigit 17 = .ok (.ireturn, 1) := by decide +kernel
abbrev b_Mo_isLetter : ByteArray := prog_14_method_8_code
def y_Mo_isLetter : MethodName := ⟨"ZoneFilesModel", "isLetter", "(I)Z"⟩
theorem d_Mo_isLetter_0 : decode b_Mo_isLetter 0 = .ok (.iload_n 0, 1) := by decide +kernel
theorem d_Mo_isLetter_1 : decode b_Mo_isLetter 1 = .ok (.bipush 65, 2) := by decide +kernel
theorem d_Mo_isLetter_3 : decode b_Mo_isLetter 3 = .ok (.if_icmp .lt 9, 3) := by decide +kernel
theorem d_Mo_isLetter_6 : decode b_Mo_isLetter 6 = .ok (.iload_n 0, 1) := by decide +kernel
theorem d_Mo_isLetter_7 : decode b_Mo_isLetter 7 = .ok (.bipush 90, 2) := by decide +kernel
theorem d_Mo_isLetter_9 : decode b_Mo_isLetter 9 = .ok (.if_icmp .le 15, 3) := by decide +kernel
theorem d_Mo_isLetter_12 : decode b_Mo_isLetter 12 = .ok (.iload_n 0, 1) := by decide +kernel
theorem d_Mo_isLetter_13 : decode b_Mo_isLetter 13 = .ok (.bipush 97, 2) := by decide +kernel
theorem d_Mo_isLetter_15 : decode b_Mo_isLetter 15 = .ok (.if_icmp .lt 13, 3) := by decide +kernel
theorem d_Mo_isLetter_18 : decode b_Mo_isLetter 18 = .ok (.iload_n 0, 1) := by decide +kernel
theorem d_Mo_isLetter_19 : decode b_Mo_isLetter 19 = .ok (.bipush 122, 2) := by decide +kernel
theorem d_Mo_isLetter_21 : decode b_Mo_isLetter 21 = .ok (.if_icmp .gt 7, 3) := by decide +kernel
theorem d_Mo_isLetter_24 : decode b_Mo_isLetter 24 = .ok (.iconst 1, 1) := by decide +kernel
theorem d_Mo_isLetter_25 : decode b_Mo_isLetter 25 = .ok (.goto 4, 3) := by decide +kernel
theorem d_Mo_isLetter_28 : decode b_Mo_isLetter 28 = .ok (.iconst 0, 1) := by decide +kernel
theorem d_Mo_isLetter_29 : decode b_Mo_isLetter 29 = .ok (.ireturn, 1) := by decide +kernel
abbrev b_Mo_isNamed : ByteArray := prog_14_method_9_code
def y_Mo_isNamed : MethodName := ⟨"ZoneFilesModel", "isNamed", "(I)Z"⟩
theorem d_Mo_isNamed_0 : decode b_Mo_isNamed 0 = .ok (.iload_n 0, 1) := by decide +kernel
theorem d_Mo_isNamed_1 : decode b_Mo_isNamed 1 = .ok (.invokestatic 168, 3) := by decide +kernel
theorem d_Mo_isNamed_4 : decode b_Mo_isNamed 4 = .ok (.ifCond .ne 22, 3) := by decide +kernel
theorem d_Mo_isNamed_7 : decode b_Mo_isNamed 7 = .ok (.iload_n 0, 1) := by decide +kernel
theorem d_Mo_isNamed_8 : decode b_Mo_isNamed 8 = .ok (.invokestatic 172, 3) := by decide +kernel
theorem d_Mo_isNamed_11 : decode b_Mo_isNamed 11 = .ok (.ifCond .ne 15, 3) := by decide +kernel
theorem d_Mo_isNamed_14 : decode b_Mo_isNamed 14 = .ok (.iload_n 0, 1) := by decide +kernel
theorem d_Mo_isNamed_15 : decode b_Mo_isNamed 15 = .ok (.bipush 43, 2) := by decide +kernel
theorem d_Mo_isNamed_17 : decode b_Mo_isNamed 17 = .ok (.if_icmp .eq 9, 3) := by decide +kernel
theorem d_Mo_isNamed_20 : decode b_Mo_isNamed 20 = .ok (.iload_n 0, 1) := by decide +kernel
theorem d_Mo_isNamed_21 : decode b_Mo_isNamed 21 = .ok (.bipush 45, 2) := by decide +kernel
theorem d_Mo_isNamed_23 : decode b_Mo_isNamed 23 = .ok (.if_icmp .ne 7, 3) := by decide +kernel
theorem d_Mo_isNamed_26 : decode b_Mo_isNamed 26 = .ok (.iconst 1, 1) := by decide +kernel
theorem d_Mo_isNamed_27 : decode b_Mo_isNamed 27 = .ok (.goto 4, 3) := by decide +kernel
theorem d_Mo_isNamed_30 : decode b_Mo_isNamed 30 = .ok (.iconst 0, 1) := by decide +kernel
theorem d_Mo_isNamed_31 : decode b_Mo_isNamed 31 = .ok (.ireturn, 1) := by decide +kernel
abbrev b_Mo_sign : ByteArray := prog_14_method_10_code
def y_Mo_sign : MethodName := ⟨"ZoneFilesModel", "sign", "(I)V"⟩
theorem d_Mo_sign_0 : decode b_Mo_sign 0 = .ok (.aload_n 0, 1) := by decide +kernel
theorem d_Mo_sign_1 : decode b_Mo_sign 1 = .ok (.getfield 161, 3) := by decide +kernel
theorem d_Mo_sign_4 : decode b_Mo_sign 4 = .ok (.ifCond .ne 24, 3) := by decide +kernel
theorem d_Mo_sign_7 : decode b_Mo_sign 7 = .ok (.aload_n 0, 1) := by decide +kernel
theorem d_Mo_sign_8 : decode b_Mo_sign 8 = .ok (.invokevirtual 175, 3) := by decide +kernel
theorem d_Mo_sign_11 : decode b_Mo_sign 11 = .ok (.iload_n 1, 1) := by decide +kernel
theorem d_Mo_sign_12 : decode b_Mo_sign 12 = .ok (.if_icmp .ne 16, 3) := by decide +kernel
theorem d_Mo_sign_15 : decode b_Mo_sign 15 = .ok (.aload_n 0, 1) := by decide +kernel
theorem d_Mo_sign_16 : decode b_Mo_sign 16 = .ok (.dup, 1) := by decide +kernel
theorem d_Mo_sign_17 : decode b_Mo_sign 17 = .ok (.getfield 155, 3) := by decide +kernel
theorem d_Mo_sign_20 : decode b_Mo_sign 20 = .ok (.iconst 1, 1) := by decide +kernel
theorem d_Mo_sign_21 : decode b_Mo_sign 21 = .ok (.iadd, 1) := by decide +kernel
theorem d_Mo_sign_22 : decode b_Mo_sign 22 = .ok (.putfield 155, 3) := by decide +kernel
theorem d_Mo_sign_25 : decode b_Mo_sign 25 = .ok (.goto 11, 3) := by decide +kernel
theorem d_Mo_sign_28 : decode b_Mo_sign 28 = .ok (.aload_n 0, 1) := by decide +kernel
theorem d_Mo_sign_29 : decode b_Mo_sign 29 = .ok (.aload_n 0, 1) := by decide +kernel
theorem d_Mo_sign_30 : decode b_Mo_sign 30 = .ok (.getfield 155, 3) := by decide +kernel
theorem d_Mo_sign_33 : decode b_Mo_sign 33 = .ok (.invokevirtual 179, 3) := by decide +kernel
theorem d_Mo_sign_36 : decode b_Mo_sign 36 = .ok (.return_, 1) := by decide +kernel
abbrev b_Mo_number : ByteArray := prog_14_method_11_code
def y_Mo_number : MethodName := ⟨"ZoneFilesModel", "number", "(II)I"⟩
theorem d_Mo_number_0 : decode b_Mo_number 0 = .ok (.aload_n 0, 1) := by decide +kernel
theorem d_Mo_number_1 : decode b_Mo_number 1 = .ok (.getfield 155, 3) := by decide +kernel
theorem d_Mo_number_4 : decode b_Mo_number 4 = .ok (.istore_n 3, 1) := by decide +kernel
theorem d_Mo_number_5 : decode b_Mo_number 5 = .ok (.iconst 0, 1) := by decide +kernel
theorem d_Mo_number_6 : decode b_Mo_number 6 = .ok (.istore 4, 2) := by decide +kernel
theorem d_Mo_number_8 : decode b_Mo_number 8 = .ok (.aload_n 0, 1) := by decide +kernel
theorem d_Mo_number_9 : decode b_Mo_number 9 = .ok (.getfield 161, 3) := by decide +kernel
theorem d_Mo_number_12 : decode b_Mo_number 12 = .ok (.ifCond .ne 62, 3) := by decide +kernel
theorem d_Mo_number_15 : decode b_Mo_number 15 = .ok (.aload_n 0, 1) := by decide +kernel
theorem d_Mo_number_16 : decode b_Mo_number 16 = .ok (.invokevirtual 175, 3) := by decide +kernel
theorem d_Mo_number_19 : decode b_Mo_number 19 = .ok (.invokestatic 168, 3) := by decide +kernel
theorem d_Mo_number_22 : decode b_Mo_number 22 = .ok (.ifCond .eq 52, 3) := by decide +kernel
theorem d_Mo_number_25 : decode b_Mo_number 25 = .ok (.aload_n 0, 1) := by decide +kernel
theorem d_Mo_number_26 : decode b_Mo_number 26 = .ok (.getfield 155, 3) := by decide +kernel
theorem d_Mo_number_29 : decode b_Mo_number 29 = .ok (.iload_n 3, 1) := by decide +kernel
theorem d_Mo_number_30 : decode b_Mo_number 30 = .ok (.isub, 1) := by decide +kernel
theorem d_Mo_number_31 : decode b_Mo_number 31 = .ok (.iconst 3, 1) := by decide +kernel
theorem d_Mo_number_32 : decode b_Mo_number 32 = .ok (.if_icmp .ne 14, 3) := by decide +kernel
theorem d_Mo_number_35 : decode b_Mo_number 35 = .ok (.aload_n 0, 1) := by decide +kernel
theorem d_Mo_number_36 : decode b_Mo_number 36 = .ok (.aload_n 0, 1) := by decide +kernel
theorem d_Mo_number_37 : decode b_Mo_number 37 = .ok (.getfield 155, 3) := by decide +kernel
theorem d_Mo_number_40 : decode b_Mo_number 40 = .ok (.invokevirtual 179, 3) := by decide +kernel
theorem d_Mo_number_43 : decode b_Mo_number 43 = .ok (.goto (-35), 3) := by decide +kernel
theorem d_Mo_number_46 : decode b_Mo_number 46 = .ok (.bipush 10, 2) := by decide +kernel
theorem d_Mo_number_48 : decode b_Mo_number 48 = .ok (.iload 4, 2) := by decide +kernel
theorem d_Mo_number_50 : decode b_Mo_number 50 = .ok (.imul, 1) := by decide +kernel
theorem d_Mo_number_51 : decode b_Mo_number 51 = .ok (.aload_n 0, 1) := by decide +kernel
theorem d_Mo_number_52 : decode b_Mo_number 52 = .ok (.invokevirtual 175, 3) := by decide +kernel
theorem d_Mo_number_55 : decode b_Mo_number 55 = .ok (.iadd, 1) := by decide +kernel
theorem d_Mo_number_56 : decode b_Mo_number 56 = .ok (.bipush 48, 2) := by decide +kernel
theorem d_Mo_number_58 : decode b_Mo_number 58 = .ok (.isub, 1) := by decide +kernel
theorem d_Mo_number_59 : decode b_Mo_number 59 = .ok (.istore 4, 2) := by decide +kernel
theorem d_Mo_number_61 : decode b_Mo_number 61 = .ok (.aload_n 0, 1) := by decide +kernel
theorem d_Mo_number_62 : decode b_Mo_number 62 = .ok (.dup, 1) := by decide +kernel
theorem d_Mo_number_63 : decode b_Mo_number 63 = .ok (.getfield 155, 3) := by decide +kernel
theorem d_Mo_number_66 : decode b_Mo_number 66 = .ok (.iconst 1, 1) := by decide +kernel
theorem d_Mo_number_67 : decode b_Mo_number 67 = .ok (.iadd, 1) := by decide +kernel
theorem d_Mo_number_68 : decode b_Mo_number 68 = .ok (.putfield 155, 3) := by decide +kernel
theorem d_Mo_number_71 : decode b_Mo_number 71 = .ok (.goto (-63), 3) := by decide +kernel
theorem d_Mo_number_74 : decode b_Mo_number 74 = .ok (.aload_n 0, 1) := by decide +kernel
theorem d_Mo_number_75 : decode b_Mo_number 75 = .ok (.getfield 161, 3) := by decide +kernel
theorem d_Mo_number_78 : decode b_Mo_number 78 = .ok (.ifCond .ne 28, 3) := by decide +kernel
theorem d_Mo_number_81 : decode b_Mo_number 81 = .ok (.aload_n 0, 1) := by decide +kernel
theorem d_Mo_number_82 : decode b_Mo_number 82 = .ok (.getfield 155, 3) := by decide +kernel
theorem d_Mo_number_85 : decode b_Mo_number 85 = .ok (.iload_n 3, 1) := by decide +kernel
theorem d_Mo_number_86 : decode b_Mo_number 86 = .ok (.if_icmp .eq 15, 3) := by decide +kernel
theorem d_Mo_number_89 : decode b_Mo_number 89 = .ok (.iload 4, 2) := by decide +kernel
theorem d_Mo_number_91 : decode b_Mo_number 91 = .ok (.iload_n 1, 1) := by decide +kernel
theorem d_Mo_number_92 : decode b_Mo_number 92 = .ok (.if_icmp .lt 9, 3) := by decide +kernel
theorem d_Mo_number_95 : decode b_Mo_number 95 = .ok (.iload 4, 2) := by decide +kernel
theorem d_Mo_number_97 : decode b_Mo_number 97 = .ok (.iload_n 2, 1) := by decide +kernel
theorem d_Mo_number_98 : decode b_Mo_number 98 = .ok (.if_icmp .le 8, 3) := by decide +kernel
theorem d_Mo_number_101 : decode b_Mo_number 101 = .ok (.aload_n 0, 1) := by decide +kernel
theorem d_Mo_number_102 : decode b_Mo_number 102 = .ok (.iload_n 3, 1) := by decide +kernel
theorem d_Mo_number_103 : decode b_Mo_number 103 = .ok (.invokevirtual 179, 3) := by decide +kernel
theorem d_Mo_number_106 : decode b_Mo_number 106 = .ok (.iload 4, 2) := by decide +kernel
theorem d_Mo_number_108 : decode b_Mo_number 108 = .ok (.ireturn, 1) := by decide +kernel
abbrev b_Mo_nameText : ByteArray := prog_14_method_12_code
def y_Mo_nameText : MethodName := ⟨"ZoneFilesModel", "nameText", "(I)V"⟩
theorem d_Mo_nameText_0 : decode b_Mo_nameText 0 = .ok (.bipush 80, 2) := by decide +kernel
theorem d_Mo_nameText_2 : decode b_Mo_nameText 2 = .ok (.bipush 10, 2) := by decide +kernel
theorem d_Mo_nameText_4 : decode b_Mo_nameText 4 = .ok (.iload_n 1, 1) := by decide +kernel
theorem d_Mo_nameText_5 : decode b_Mo_nameText 5 = .ok (.imul, 1) := by decide +kernel
theorem d_Mo_nameText_6 : decode b_Mo_nameText 6 = .ok (.iadd, 1) := by decide +kernel
theorem d_Mo_nameText_7 : decode b_Mo_nameText 7 = .ok (.istore_n 2, 1) := by decide +kernel
theorem d_Mo_nameText_8 : decode b_Mo_nameText 8 = .ok (.aload_n 0, 1) := by decide +kernel
theorem d_Mo_nameText_9 : decode b_Mo_nameText 9 = .ok (.invokevirtual 175, 3) := by decide +kernel
theorem d_Mo_nameText_12 : decode b_Mo_nameText 12 = .ok (.bipush 60, 2) := by decide +kernel
theorem d_Mo_nameText_14 : decode b_Mo_nameText 14 = .ok (.if_icmp .ne 7, 3) := by decide +kernel
theorem d_Mo_nameText_17 : decode b_Mo_nameText 17 = .ok (.iconst 1, 1) := by decide +kernel
theorem d_Mo_nameText_18 : decode b_Mo_nameText 18 = .ok (.goto 4, 3) := by decide +kernel
theorem d_Mo_nameText_21 : decode b_Mo_nameText 21 = .ok (.iconst 0, 1) := by decide +kernel
theorem d_Mo_nameText_22 : decode b_Mo_nameText 22 = .ok (.istore_n 3, 1) := by decide +kernel
theorem d_Mo_nameText_23 : decode b_Mo_nameText 23 = .ok (.aload_n 0, 1) := by decide +kernel
theorem d_Mo_nameText_24 : decode b_Mo_nameText 24 = .ok (.dup, 1) := by decide +kernel
theorem d_Mo_nameText_25 : decode b_Mo_nameText 25 = .ok (.getfield 155, 3) := by decide +kernel
theorem d_Mo_nameText_28 : decode b_Mo_nameText 28 = .ok (.iload_n 3, 1) := by decide +kernel
theorem d_Mo_nameText_29 : decode b_Mo_nameText 29 = .ok (.ifCond .eq 7, 3) := by decide +kernel
theorem d_Mo_nameText_32 : decode b_Mo_nameText 32 = .ok (.iconst 1, 1) := by decide +kernel
theorem d_Mo_nameText_33 : decode b_Mo_nameText 33 = .ok (.goto 4, 3) := by decide +kernel
theorem d_Mo_nameText_36 : decode b_Mo_nameText 36 = .ok (.iconst 0, 1) := by decide +kernel
theorem d_Mo_nameText_37 : decode b_Mo_nameText 37 = .ok (.iadd, 1) := by decide +kernel
theorem d_Mo_nameText_38 : decode b_Mo_nameText 38 = .ok (.putfield 155, 3) := by decide +kernel
theorem d_Mo_nameText_41 : decode b_Mo_nameText 41 = .ok (.iconst 0, 1) := by decide +kernel
theorem d_Mo_nameText_42 : decode b_Mo_nameText 42 = .ok (.istore 4, 2) := by decide +kernel
theorem d_Mo_nameText_44 : decode b_Mo_nameText 44 = .ok (.aload_n 0, 1) := by decide +kernel
theorem d_Mo_nameText_45 : decode b_Mo_nameText 45 = .ok (.getfield 161, 3) := by decide +kernel
theorem d_Mo_nameText_48 : decode b_Mo_nameText 48 = .ok (.ifCond .ne 77, 3) := by decide +kernel
theorem d_Mo_nameText_51 : decode b_Mo_nameText 51 = .ok (.iload_n 3, 1) := by decide +kernel
theorem d_Mo_nameText_52 : decode b_Mo_nameText 52 = .ok (.ifCond .eq 16, 3) := by decide +kernel
theorem d_Mo_nameText_55 : decode b_Mo_nameText 55 = .ok (.aload_n 0, 1) := by decide +kernel
theorem d_Mo_nameText_56 : decode b_Mo_nameText 56 = .ok (.invokevirtual 175, 3) := by decide +kernel
theorem d_Mo_nameText_59 : decode b_Mo_nameText 59 = .ok (.invokestatic 183, 3) := by decide +kernel
theorem d_Mo_nameText_62 : decode b_Mo_nameText 62 = .ok (.ifCond .eq 63, 3) := by decide +kernel
theorem d_Mo_nameText_65 : decode b_Mo_nameText 65 = .ok (.goto 13, 3) := by decide +kernel
theorem d_Mo_nameText_68 : decode b_Mo_nameText 68 = .ok (.aload_n 0, 1) := by decide +kernel
theorem d_Mo_nameText_69 : decode b_Mo_nameText 69 = .ok (.invokevirtual 175, 3) := by decide +kernel
theorem d_Mo_nameText_72 : decode b_Mo_nameText 72 = .ok (.invokestatic 172, 3) := by decide +kernel
theorem d_Mo_nameText_75 : decode b_Mo_nameText 75 = .ok (.ifCond .eq 50, 3) := by decide +kernel
theorem d_Mo_nameText_78 : decode b_Mo_nameText 78 = .ok (.iload 4, 2) := by decide +kernel
theorem d_Mo_nameText_80 : decode b_Mo_nameText 80 = .ok (.bipush 10, 2) := by decide +kernel
theorem d_Mo_nameText_82 : decode b_Mo_nameText 82 = .ok (.if_icmp .ne 14, 3) := by decide +kernel
theorem d_Mo_nameText_85 : decode b_Mo_nameText 85 = .ok (.aload_n 0, 1) := by decide +kernel
theorem d_Mo_nameText_86 : decode b_Mo_nameText 86 = .ok (.aload_n 0, 1) := by decide +kernel
theorem d_Mo_nameText_87 : decode b_Mo_nameText 87 = .ok (.getfield 155, 3) := by decide +kernel
theorem d_Mo_nameText_90 : decode b_Mo_nameText 90 = .ok (.invokevirtual 179, 3) := by decide +kernel
theorem d_Mo_nameText_93 : decode b_Mo_nameText 93 = .ok (.goto (-49), 3) := by decide +kernel
theorem d_Mo_nameText_96 : decode b_Mo_nameText 96 = .ok (.aload_n 0, 1) := by decide +kernel
theorem d_Mo_nameText_97 : decode b_Mo_nameText 97 = .ok (.getfield 84, 3) := by decide +kernel
theorem d_Mo_nameText_100 : decode b_Mo_nameText 100 = .ok (.iload_n 2, 1) := by decide +kernel
theorem d_Mo_nameText_101 : decode b_Mo_nameText 101 = .ok (.iload 4, 2) := by decide +kernel
theorem d_Mo_nameText_103 : decode b_Mo_nameText 103 = .ok (.iadd, 1) := by decide +kernel
theorem d_Mo_nameText_104 : decode b_Mo_nameText 104 = .ok (.aload_n 0, 1) := by decide +kernel
theorem d_Mo_nameText_105 : decode b_Mo_nameText 105 = .ok (.invokevirtual 175, 3) := by decide +kernel
theorem d_Mo_nameText_108 : decode b_Mo_nameText 108 = .ok (.iastore, 1) := by decide +kernel
theorem d_Mo_nameText_109 : decode b_Mo_nameText 109 = .ok (.iinc 4 1, 3) := by decide +kernel
theorem d_Mo_nameText_112 : decode b_Mo_nameText 112 = .ok (.aload_n 0, 1) := by decide +kernel
theorem d_Mo_nameText_113 : decode b_Mo_nameText 113 = .ok (.dup, 1) := by decide +kernel
theorem d_Mo_nameText_114 : decode b_Mo_nameText 114 = .ok (.getfield 155, 3) := by decide +kernel
theorem d_Mo_nameText_117 : decode b_Mo_nameText 117 = .ok (.iconst 1, 1) := by decide +kernel
theorem d_Mo_nameText_118 : decode b_Mo_nameText 118 = .ok (.iadd, 1) := by decide +kernel
theorem d_Mo_nameText_119 : decode b_Mo_nameText 119 = .ok (.putfield 155, 3) := by decide +kernel
theorem d_Mo_nameText_122 : decode b_Mo_nameText 122 = .ok (.goto (-78), 3) := by decide +kernel
theorem d_Mo_nameText_125 : decode b_Mo_nameText 125 = .ok (.iload 4, 2) := by decide +kernel
theorem d_Mo_nameText_127 : decode b_Mo_nameText 127 = .ok (.iconst 3, 1) := by decide +kernel
theorem d_Mo_nameText_128 : decode b_Mo_nameText 128 = .ok (.if_icmp .ge 11, 3) := by decide +kernel
theorem d_Mo_nameText_131 : decode b_Mo_nameText 131 = .ok (.aload_n 0, 1) := by decide +kernel
theorem d_Mo_nameText_132 : decode b_Mo_nameText 132 = .ok (.aload_n 0, 1) := by decide +kernel
theorem d_Mo_nameText_133 : decode b_Mo_nameText 133 = .ok (.getfield 155, 3) := by decide +kernel
theorem d_Mo_nameText_136 : decode b_Mo_nameText 136 = .ok (.invokevirtual 179, 3) := by decide +kernel
theorem d_Mo_nameText_139 : decode b_Mo_nameText 139 = .ok (.iload_n 3, 1) := by decide +kernel
theorem d_Mo_nameText_140 : decode b_Mo_nameText 140 = .ok (.ifCond .eq 9, 3) := by decide +kernel
theorem d_Mo_nameText_143 : decode b_Mo_nameText 143 = .ok (.aload_n 0, 1) := by decide +kernel
theorem d_Mo_nameText_144 : decode b_Mo_nameText 144 = .ok (.bipush 62, 2) := by decide +kernel
theorem d_Mo_nameText_146 : decode b_Mo_nameText 146 = .ok (.invokevirtual 186, 3) := by decide +kernel
theorem d_Mo_nameText_149 : decode b_Mo_nameText 149 = .ok (.aload_n 0, 1) := by decide +kernel
theorem d_Mo_nameText_150 : decode b_Mo_nameText 150 = .ok (.getfield 81, 3) := by decide +kernel
theorem d_Mo_nameText_153 : decode b_Mo_nameText 153 = .ok (.bipush 8, 2) := by decide +kernel
theorem d_Mo_nameText_155 : decode b_Mo_nameText 155 = .ok (.iload_n 1, 1) := by decide +kernel
theorem d_Mo_nameText_156 : decode b_Mo_nameText 156 = .ok (.iadd, 1) := by decide +kernel
theorem d_Mo_nameText_157 : decode b_Mo_nameText 157 = .ok (.iload 4, 2) := by decide +kernel
theorem d_Mo_nameText_159 : decode b_Mo_nameText 159 = .ok (.iastore, 1) := by decide +kernel
theorem d_Mo_nameText_160 : decode b_Mo_nameText 160 = .ok (.return_, 1) := by decide +kernel
abbrev b_Mo_offsetText : ByteArray := prog_14_method_13_code
def y_Mo_offsetText : MethodName := ⟨"ZoneFilesModel", "offsetText", "(ZI)I"⟩
theorem d_Mo_offsetText_0 : decode b_Mo_offsetText 0 = .ok (.iconst 1, 1) := by decide +kernel
theorem d_Mo_offsetText_1 : decode b_Mo_offsetText 1 = .ok (.istore_n 3, 1) := by decide +kernel
theorem d_Mo_offsetText_2 : decode b_Mo_offsetText 2 = .ok (.aload_n 0, 1) := by decide +kernel
theorem d_Mo_offsetText_3 : decode b_Mo_offsetText 3 = .ok (.getfield 161, 3) := by decide +kernel
theorem d_Mo_offsetText_6 : decode b_Mo_offsetText 6 = .ok (.ifCond .ne 50, 3) := by decide +kernel
theorem d_Mo_offsetText_9 : decode b_Mo_offsetText 9 = .ok (.iload_n 1, 1) := by decide +kernel
theorem d_Mo_offsetText_10 : decode b_Mo_offsetText 10 = .ok (.ifCond .eq 46, 3) := by decide +kernel
theorem d_Mo_offsetText_13 : decode b_Mo_offsetText 13 = .ok (.aload_n 0, 1) := by decide +kernel
theorem d_Mo_offsetText_14 : decode b_Mo_offsetText 14 = .ok (.invokevirtual 175, 3) := by decide +kernel
theorem d_Mo_offsetText_17 : decode b_Mo_offsetText 17 = .ok (.bipush 43, 2) := by decide +kernel
theorem d_Mo_offsetText_19 : decode b_Mo_offsetText 19 = .ok (.if_icmp .eq 12, 3) := by decide +kernel
theorem d_Mo_offsetText_22 : decode b_Mo_offsetText 22 = .ok (.aload_n 0, 1) := by decide +kernel
theorem d_Mo_offsetText_23 : decode b_Mo_offsetText 23 = .ok (.invokevirtual 175, 3) := by decide +kernel
theorem d_Mo_offsetText_26 : decode b_Mo_offsetText 26 = .ok (.bipush 45, 2) := by decide +kernel
theorem d_Mo_offsetText_28 : decode b_Mo_offsetText 28 = .ok (.if_icmp .ne 28, 3) := by decide +kernel
theorem d_Mo_offsetText_31 : decode b_Mo_offsetText 31 = .ok (.aload_n 0, 1) := by decide +kernel
theorem d_Mo_offsetText_32 : decode b_Mo_offsetText 32 = .ok (.invokevirtual 175, 3) := by decide +kernel
theorem d_Mo_offsetText_35 : decode b_Mo_offsetText 35 = .ok (.bipush 45, 2) := by decide +kernel
theorem d_Mo_offsetText_37 : decode b_Mo_offsetText 37 = .ok (.if_icmp .ne 7, 3) := by decide +kernel
theorem d_Mo_offsetText_40 : decode b_Mo_offsetText 40 = .ok (.iconst (-1), 1) := by decide +kernel
theorem d_Mo_offsetText_41 : decode b_Mo_offsetText 41 = .ok (.goto 4, 3) := by decide +kernel
theorem d_Mo_offsetText_44 : decode b_Mo_offsetText 44 = .ok (.iconst 1, 1) := by decide +kernel
theorem d_Mo_offsetText_45 : decode b_Mo_offsetText 45 = .ok (.istore_n 3, 1) := by decide +kernel
theorem d_Mo_offsetText_46 : decode b_Mo_offsetText 46 = .ok (.aload_n 0, 1) := by decide +kernel
theorem d_Mo_offsetText_47 : decode b_Mo_offsetText 47 = .ok (.dup, 1) := by decide +kernel
theorem d_Mo_offsetText_48 : decode b_Mo_offsetText 48 = .ok (.getfield 155, 3) := by decide +kernel
theorem d_Mo_offsetText_51 : decode b_Mo_offsetText 51 = .ok (.iconst 1, 1) := by decide +kernel
theorem d_Mo_offsetText_52 : decode b_Mo_offsetText 52 = .ok (.iadd, 1) := by decide +kernel
theorem d_Mo_offsetText_53 : decode b_Mo_offsetText 53 = .ok (.putfield 155, 3) := by decide +kernel
theorem d_Mo_offsetText_56 : decode b_Mo_offsetText 56 = .ok (.sipush 3600, 3) := by decide +kernel
theorem d_Mo_offsetText_59 : decode b_Mo_offsetText 59 = .ok (.aload_n 0, 1) := by decide +kernel
theorem d_Mo_offsetText_60 : decode b_Mo_offsetText 60 = .ok (.iconst 0, 1) := by decide +kernel
theorem d_Mo_offsetText_61 : decode b_Mo_offsetText 61 = .ok (.iload_n 2, 1) := by decide +kernel
theorem d_Mo_offsetText_62 : decode b_Mo_offsetText 62 = .ok (.invokevirtual 189, 3) := by decide +kernel
theorem d_Mo_offsetText_65 : decode b_Mo_offsetText 65 = .ok (.imul, 1) := by decide +kernel
theorem d_Mo_offsetText_66 : decode b_Mo_offsetText 66 = .ok (.istore 4, 2) := by decide +kernel
theorem d_Mo_offsetText_68 : decode b_Mo_offsetText 68 = .ok (.aload_n 0, 1) := by decide +kernel
theorem d_Mo_offsetText_69 : decode b_Mo_offsetText 69 = .ok (.getfield 161, 3) := by decide +kernel
theorem d_Mo_offsetText_72 : decode b_Mo_offsetText 72 = .ok (.ifCond .ne 75, 3) := by decide +kernel
theorem d_Mo_offsetText_75 : decode b_Mo_offsetText 75 = .ok (.aload_n 0, 1) := by decide +kernel
theorem d_Mo_offsetText_76 : decode b_Mo_offsetText 76 = .ok (.invokevirtual 175, 3) := by decide +kernel
theorem d_Mo_offsetText_79 : decode b_Mo_offsetText 79 = .ok (.bipush 58, 2) := by decide +kernel
theorem d_Mo_offsetText_81 : decode b_Mo_offsetText 81 = .ok (.if_icmp .ne 66, 3) := by decide +kernel
theorem d_Mo_offsetText_84 : decode b_Mo_offsetText 84 = .ok (.aload_n 0, 1) := by decide +kernel
theorem d_Mo_offsetText_85 : decode b_Mo_offsetText 85 = .ok (.dup, 1) := by decide +kernel
theorem d_Mo_offsetText_86 : decode b_Mo_offsetText 86 = .ok (.getfield 155, 3) := by decide +kernel
theorem d_Mo_offsetText_89 : decode b_Mo_offsetText 89 = .ok (.iconst 1, 1) := by decide +kernel
theorem d_Mo_offsetText_90 : decode b_Mo_offsetText 90 = .ok (.iadd, 1) := by decide +kernel
theorem d_Mo_offsetText_91 : decode b_Mo_offsetText 91 = .ok (.putfield 155, 3) := by decide +kernel
theorem d_Mo_offsetText_94 : decode b_Mo_offsetText 94 = .ok (.iload 4, 2) := by decide +kernel
theorem d_Mo_offsetText_96 : decode b_Mo_offsetText 96 = .ok (.bipush 60, 2) := by decide +kernel
theorem d_Mo_offsetText_98 : decode b_Mo_offsetText 98 = .ok (.aload_n 0, 1) := by decide +kernel
theorem d_Mo_offsetText_99 : decode b_Mo_offsetText 99 = .ok (.iconst 0, 1) := by decide +kernel
theorem d_Mo_offsetText_100 : decode b_Mo_offsetText 100 = .ok (.bipush 59, 2) := by decide +kernel
theorem d_Mo_offsetText_102 : decode b_Mo_offsetText 102 = .ok (.invokevirtual 189, 3) := by decide +kernel
theorem d_Mo_offsetText_105 : decode b_Mo_offsetText 105 = .ok (.imul, 1) := by decide +kernel
theorem d_Mo_offsetText_106 : decode b_Mo_offsetText 106 = .ok (.iadd, 1) := by decide +kernel
theorem d_Mo_offsetText_107 : decode b_Mo_offsetText 107 = .ok (.istore 4, 2) := by decide +kernel
theorem d_Mo_offsetText_109 : decode b_Mo_offsetText 109 = .ok (.aload_n 0, 1) := by decide +kernel
theorem d_Mo_offsetText_110 : decode b_Mo_offsetText 110 = .ok (.getfield 161, 3) := by decide +kernel
theorem d_Mo_offsetText_113 : decode b_Mo_offsetText 113 = .ok (.ifCond .ne 34, 3) := by decide +kernel
theorem d_Mo_offsetText_116 : decode b_Mo_offsetText 116 = .ok (.aload_n 0, 1) := by decide +kernel
theorem d_Mo_offsetText_117 : decode b_Mo_offsetText 117 = .ok (.invokevirtual 175, 3) := by decide +kernel
theorem d_Mo_offsetText_120 : decode b_Mo_offsetText 120 = .ok (.bipush 58, 2) := by decide +kernel
theorem d_Mo_offsetText_122 : decode b_Mo_offsetText 122 = .ok (.if_icmp .ne 25, 3) := by decide +kernel
theorem d_Mo_offsetText_125 : decode b_Mo_offsetText 125 = .ok (.aload_n 0, 1) := by decide +kernel
theorem d_Mo_offsetText_126 : decode b_Mo_offsetText 126 = .ok (.dup, 1) := by decide +kernel
theorem d_Mo_offsetText_127 : decode b_Mo_offsetText 127 = .ok (.getfield 155, 3) := by decide +kernel
theorem d_Mo_offsetText_130 : decode b_Mo_offsetText 130 = .ok (.iconst 1, 1) := by decide +kernel
theorem d_Mo_offsetText_131 : decode b_Mo_offsetText 131 = .ok (.iadd, 1) := by decide +kernel
theorem d_Mo_offsetText_132 : decode b_Mo_offsetText 132 = .ok (.putfield 155, 3) := by decide +kernel
theorem d_Mo_offsetText_135 : decode b_Mo_offsetText 135 = .ok (.iload 4, 2) := by decide +kernel
theorem d_Mo_offsetText_137 : decode b_Mo_offsetText 137 = .ok (.aload_n 0, 1) := by decide +kernel
theorem d_Mo_offsetText_138 : decode b_Mo_offsetText 138 = .ok (.iconst 0, 1) := by decide +kernel
theorem d_Mo_offsetText_139 : decode b_Mo_offsetText 139 = .ok (.bipush 59, 2) := by decide +kernel
theorem d_Mo_offsetText_141 : decode b_Mo_offsetText 141 = .ok (.invokevirtual 189, 3) := by decide +kernel
theorem d_Mo_offsetText_144 : decode b_Mo_offsetText 144 = .ok (.iadd, 1) := by decide +kernel
theorem d_Mo_offsetText_145 : decode b_Mo_offsetText 145 = .ok (.istore 4, 2) := by decide +kernel
theorem d_Mo_offsetText_147 : decode b_Mo_offsetText 147 = .ok (.iload_n 3, 1) := by decide +kernel
theorem d_Mo_offsetText_148 : decode b_Mo_offsetText 148 = .ok (.iload 4, 2) := by decide +kernel
theorem d_Mo_offsetText_150 : decode b_Mo_offsetText 150 = .ok (.imul, 1) := by decide +kernel
theorem d_Mo_offsetText_151 : decode b_Mo_offsetText 151 = .ok (.ireturn, 1) := by decide +kernel
abbrev b_Mo_dayText : ByteArray := prog_14_method_14_code
def y_Mo_dayText : MethodName := ⟨"ZoneFilesModel", "dayText", "(II)V"⟩
theorem d_Mo_dayText_0 : decode b_Mo_dayText 0 = .ok (.bipush 8, 2) := by decide +kernel
theorem d_Mo_dayText_2 : decode b_Mo_dayText 2 = .ok (.iload_n 1, 1) := by decide +kernel
theorem d_Mo_dayText_3 : decode b_Mo_dayText 3 = .ok (.iadd, 1) := by decide +kernel
theorem d_Mo_dayText_4 : decode b_Mo_dayText 4 = .ok (.istore_n 3, 1) := by decide +kernel
theorem d_Mo_dayText_5 : decode b_Mo_dayText 5 = .ok (.aload_n 0, 1) := by decide +kernel
theorem d_Mo_dayText_6 : decode b_Mo_dayText 6 = .ok (.getfield 161, 3) := by decide +kernel
theorem d_Mo_dayText_9 : decode b_Mo_dayText 9 = .ok (.ifCond .eq 7, 3) := by decide +kernel
theorem d_Mo_dayText_12 : decode b_Mo_dayText 12 = .ok (.iconst (-1), 1) := by decide +kernel
theorem d_Mo_dayText_13 : decode b_Mo_dayText 13 = .ok (.goto 7, 3) := by decide +kernel
theorem d_Mo_dayText_16 : decode b_Mo_dayText 16 = .ok (.aload_n 0, 1) := by decide +kernel
theorem d_Mo_dayText_17 : decode b_Mo_dayText 17 = .ok (.invokevirtual 175, 3) := by decide +kernel
theorem d_Mo_dayText_20 : decode b_Mo_dayText 20 = .ok (.istore 4, 2) := by decide +kernel
theorem d_Mo_dayText_22 : decode b_Mo_dayText 22 = .ok (.aload_n 0, 1) := by decide +kernel
theorem d_Mo_dayText_23 : decode b_Mo_dayText 23 = .ok (.getfield 87, 3) := by decide +kernel
theorem d_Mo_dayText_26 : decode b_Mo_dayText 26 = .ok (.iload_n 3, 1) := by decide +kernel
theorem d_Mo_dayText_27 : decode b_Mo_dayText 27 = .ok (.iload 4, 2) := by decide +kernel
theorem d_Mo_dayText_29 : decode b_Mo_dayText 29 = .ok (.iastore, 1) := by decide +kernel
theorem d_Mo_dayText_30 : decode b_Mo_dayText 30 = .ok (.iload 4, 2) := by decide +kernel
theorem d_Mo_dayText_32 : decode b_Mo_dayText 32 = .ok (.bipush 74, 2) := by decide +kernel
theorem d_Mo_dayText_34 : decode b_Mo_dayText 34 = .ok (.if_icmp .ne 30, 3) := by decide +kernel
theorem d_Mo_dayText_37 : decode b_Mo_dayText 37 = .ok (.aload_n 0, 1) := by decide +kernel
theorem d_Mo_dayText_38 : decode b_Mo_dayText 38 = .ok (.dup, 1) := by decide +kernel
theorem d_Mo_dayText_39 : decode b_Mo_dayText 39 = .ok (.getfield 155, 3) := by decide +kernel
theorem d_Mo_dayText_42 : decode b_Mo_dayText 42 = .ok (.iconst 1, 1) := by decide +kernel
theorem d_Mo_dayText_43 : decode b_Mo_dayText 43 = .ok (.iadd, 1) := by decide +kernel
theorem d_Mo_dayText_44 : decode b_Mo_dayText 44 = .ok (.putfield 155, 3) := by decide +kernel
theorem d_Mo_dayText_47 : decode b_Mo_dayText 47 = .ok (.aload_n 0, 1) := by decide +kernel
theorem d_Mo_dayText_48 : decode b_Mo_dayText 48 = .ok (.getfield 90, 3) := by decide +kernel
theorem d_Mo_dayText_51 : decode b_Mo_dayText 51 = .ok (.iload_n 3, 1) := by decide +kernel
theorem d_Mo_dayText_52 : decode b_Mo_dayText 52 = .ok (.aload_n 0, 1) := by decide +kernel
theorem d_Mo_dayText_53 : decode b_Mo_dayText 53 = .ok (.iconst 1, 1) := by decide +kernel
theorem d_Mo_dayText_54 : decode b_Mo_dayText 54 = .ok (.sipush 365, 3) := by decide +kernel
theorem d_Mo_dayText_57 : decode b_Mo_dayText 57 = .ok (.invokevirtual 189, 3) := by decide +kernel
theorem d_Mo_dayText_60 : decode b_Mo_dayText 60 = .ok (.iastore, 1) := by decide +kernel
theorem d_Mo_dayText_61 : decode b_Mo_dayText 61 = .ok (.goto 94, 3) := by decide +kernel
theorem d_Mo_dayText_64 : decode b_Mo_dayText 64 = .ok (.iload 4, 2) := by decide +kernel
theorem d_Mo_dayText_66 : decode b_Mo_dayText 66 = .ok (.bipush 77, 2) := by decide +kernel
theorem d_Mo_dayText_68 : decode b_Mo_dayText 68 = .ok (.if_icmp .ne 66, 3) := by decide +kernel
theorem d_Mo_dayText_71 : decode b_Mo_dayText 71 = .ok (.aload_n 0, 1) := by decide +kernel
theorem d_Mo_dayText_72 : decode b_Mo_dayText 72 = .ok (.dup, 1) := by decide +kernel
theorem d_Mo_dayText_73 : decode b_Mo_dayText 73 = .ok (.getfield 155, 3) := by decide +kernel
theorem d_Mo_dayText_76 : decode b_Mo_dayText 76 = .ok (.iconst 1, 1) := by decide +kernel
theorem d_Mo_dayText_77 : decode b_Mo_dayText 77 = .ok (.iadd, 1) := by decide +kernel
theorem d_Mo_dayText_78 : decode b_Mo_dayText 78 = .ok (.putfield 155, 3) := by decide +kernel
theorem d_Mo_dayText_81 : decode b_Mo_dayText 81 = .ok (.aload_n 0, 1) := by decide +kernel
theorem d_Mo_dayText_82 : decode b_Mo_dayText 82 = .ok (.getfield 90, 3) := by decide +kernel
theorem d_Mo_dayText_85 : decode b_Mo_dayText 85 = .ok (.iload_n 3, 1) := by decide +kernel
theorem d_Mo_dayText_86 : decode b_Mo_dayText 86 = .ok (.aload_n 0, 1) := by decide +kernel
theorem d_Mo_dayText_87 : decode b_Mo_dayText 87 = .ok (.iconst 1, 1) := by decide +kernel
theorem d_Mo_dayText_88 : decode b_Mo_dayText 88 = .ok (.bipush 12, 2) := by decide +kernel
theorem d_Mo_dayText_90 : decode b_Mo_dayText 90 = .ok (.invokevirtual 189, 3) := by decide +kernel
theorem d_Mo_dayText_93 : decode b_Mo_dayText 93 = .ok (.iastore, 1) := by decide +kernel
theorem d_Mo_dayText_94 : decode b_Mo_dayText 94 = .ok (.aload_n 0, 1) := by decide +kernel
theorem d_Mo_dayText_95 : decode b_Mo_dayText 95 = .ok (.bipush 46, 2) := by decide +kernel
theorem d_Mo_dayText_97 : decode b_Mo_dayText 97 = .ok (.invokevirtual 186, 3) := by decide +kernel
theorem d_Mo_dayText_100 : decode b_Mo_dayText 100 = .ok (.aload_n 0, 1) := by decide +kernel
theorem d_Mo_dayText_101 : decode b_Mo_dayText 101 = .ok (.getfield 93, 3) := by decide +kernel
theorem d_Mo_dayText_104 : decode b_Mo_dayText 104 = .ok (.iload_n 3, 1) := by decide +kernel
theorem d_Mo_dayText_105 : decode b_Mo_dayText 105 = .ok (.aload_n 0, 1) := by decide +kernel
theorem d_Mo_dayText_106 : decode b_Mo_dayText 106 = .ok (.iconst 1, 1) := by decide +kernel
theorem d_Mo_dayText_107 : decode b_Mo_dayText 107 = .ok (.iconst 5, 1) := by decide +kernel
theorem d_Mo_dayText_108 : decode b_Mo_dayText 108 = .ok (.invokevirtual 189, 3) := by decide +kernel
theorem d_Mo_dayText_111 : decode b_Mo_dayText 111 = .ok (.iastore, 1) := by decide +kernel
theorem d_Mo_dayText_112 : decode b_Mo_dayText 112 = .ok (.aload_n 0, 1) := by decide +kernel
theorem d_Mo_dayText_113 : decode b_Mo_dayText 113 = .ok (.bipush 46, 2) := by decide +kernel
theorem d_Mo_dayText_115 : decode b_Mo_dayText 115 = .ok (.invokevirtual 186, 3) := by decide +kernel
theorem d_Mo_dayText_118 : decode b_Mo_dayText 118 = .ok (.aload_n 0, 1) := by decide +kernel
theorem d_Mo_dayText_119 : decode b_Mo_dayText 119 = .ok (.getfield 96, 3) := by decide +kernel
theorem d_Mo_dayText_122 : decode b_Mo_dayText 122 = .ok (.iload_n 3, 1) := by decide +kernel
theorem d_Mo_dayText_123 : decode b_Mo_dayText 123 = .ok (.aload_n 0, 1) := by decide +kernel
theorem d_Mo_dayText_124 : decode b_Mo_dayText 124 = .ok (.iconst 0, 1) := by decide +kernel
theorem d_Mo_dayText_125 : decode b_Mo_dayText 125 = .ok (.bipush 6, 2) := by decide +kernel
theorem d_Mo_dayText_127 : decode b_Mo_dayText 127 = .ok (.invokevirtual 189, 3) := by decide +kernel
theorem d_Mo_dayText_130 : decode b_Mo_dayText 130 = .ok (.iastore, 1) := by decide +kernel
theorem d_Mo_dayText_131 : decode b_Mo_dayText 131 = .ok (.goto 24, 3) := by decide +kernel
theorem d_Mo_dayText_134 : decode b_Mo_dayText 134 = .ok (.aload_n 0, 1) := by decide +kernel
theorem d_Mo_dayText_135 : decode b_Mo_dayText 135 = .ok (.getfield 87, 3) := by decide +kernel
theorem d_Mo_dayText_138 : decode b_Mo_dayText 138 = .ok (.iload_n 3, 1) := by decide +kernel
theorem d_Mo_dayText_139 : decode b_Mo_dayText 139 = .ok (.iconst 0, 1) := by decide +kernel
theorem d_Mo_dayText_140 : decode b_Mo_dayText 140 = .ok (.iastore, 1) := by decide +kernel
theorem d_Mo_dayText_141 : decode b_Mo_dayText 141 = .ok (.aload_n 0, 1) := by decide +kernel
theorem d_Mo_dayText_142 : decode b_Mo_dayText 142 = .ok (.getfield 90, 3) := by decide +kernel
theorem d_Mo_dayText_145 : decode b_Mo_dayText 145 = .ok (.iload_n 3, 1) := by decide +kernel
theorem d_Mo_dayText_146 : decode b_Mo_dayText 146 = .ok (.aload_n 0, 1) := by decide +kernel
theorem d_Mo_dayText_147 : decode b_Mo_dayText 147 = .ok (.iconst 0, 1) := by decide +kernel
theorem d_Mo_dayText_148 : decode b_Mo_dayText 148 = .ok (.sipush 365, 3) := by decide +kernel
theorem d_Mo_dayText_151 : decode b_Mo_dayText 151 = .ok (.invokevirtual 189, 3) := by decide +kernel
theorem d_Mo_dayText_154 : decode b_Mo_dayText 154 = .ok (.iastore, 1) := by decide +kernel
theorem d_Mo_dayText_155 : decode b_Mo_dayText 155 = .ok (.aload_n 0, 1) := by decide +kernel
theorem d_Mo_dayText_156 : decode b_Mo_dayText 156 = .ok (.getfield 99, 3) := by decide +kernel
theorem d_Mo_dayText_159 : decode b_Mo_dayText 159 = .ok (.iload_n 3, 1) := by decide +kernel
theorem d_Mo_dayText_160 : decode b_Mo_dayText 160 = .ok (.sipush 7200, 3) := by decide +kernel
theorem d_Mo_dayText_163 : decode b_Mo_dayText 163 = .ok (.iastore, 1) := by decide +kernel
theorem d_Mo_dayText_164 : decode b_Mo_dayText 164 = .ok (.aload_n 0, 1) := by decide +kernel
theorem d_Mo_dayText_165 : decode b_Mo_dayText 165 = .ok (.getfield 161, 3) := by decide +kernel
theorem d_Mo_dayText_168 : decode b_Mo_dayText 168 = .ok (.ifCond .ne 57, 3) := by decide +kernel
theorem d_Mo_dayText_171 : decode b_Mo_dayText 171 = .ok (.aload_n 0, 1) := by decide +kernel
theorem d_Mo_dayText_172 : decode b_Mo_dayText 172 = .ok (.invokevirtual 175, 3) := by decide +kernel
theorem d_Mo_dayText_175 : decode b_Mo_dayText 175 = .ok (.bipush 47, 2) := by decide +kernel
theorem d_Mo_dayText_177 : decode b_Mo_dayText 177 = .ok (.if_icmp .ne 48, 3) := by decide +kernel
theorem d_Mo_dayText_180 : decode b_Mo_dayText 180 = .ok (.aload_n 0, 1) := by decide +kernel
theorem d_Mo_dayText_181 : decode b_Mo_dayText 181 = .ok (.dup, 1) := by decide +kernel
theorem d_Mo_dayText_182 : decode b_Mo_dayText 182 = .ok (.getfield 155, 3) := by decide +kernel
theorem d_Mo_dayText_185 : decode b_Mo_dayText 185 = .ok (.iconst 1, 1) := by decide +kernel
theorem d_Mo_dayText_186 : decode b_Mo_dayText 186 = .ok (.iadd, 1) := by decide +kernel
theorem d_Mo_dayText_187 : decode b_Mo_dayText 187 = .ok (.putfield 155, 3) := by decide +kernel
theorem d_Mo_dayText_190 : decode b_Mo_dayText 190 = .ok (.aload_n 0, 1) := by decide +kernel
theorem d_Mo_dayText_191 : decode b_Mo_dayText 191 = .ok (.getfield 99, 3) := by decide +kernel
theorem d_Mo_dayText_194 : decode b_Mo_dayText 194 = .ok (.iload_n 3, 1) := by decide +kernel
theorem d_Mo_dayText_195 : decode b_Mo_dayText 195 = .ok (.aload_n 0, 1) := by decide +kernel
theorem d_Mo_dayText_196 : decode b_Mo_dayText 196 = .ok (.iload_n 2, 1) := by decide +kernel
theorem d_Mo_dayText_197 : decode b_Mo_dayText 197 = .ok (.bipush 51, 2) := by decide +kernel
theorem d_Mo_dayText_199 : decode b_Mo_dayText 199 = .ok (.if_icmp .ne 7, 3) := by decide +kernel
theorem d_Mo_dayText_202 : decode b_Mo_dayText 202 = .ok (.iconst 1, 1) := by decide +kernel
theorem d_Mo_dayText_203 : decode b_Mo_dayText 203 = .ok (.goto 4, 3) := by decide +kernel
theorem d_Mo_dayText_206 : decode b_Mo_dayText 206 = .ok (.iconst 0, 1) := by decide +kernel
theorem d_Mo_dayText_207 : decode b_Mo_dayText 207 = .ok (.iload_n 2, 1) := by decide +kernel
theorem d_Mo_dayText_208 : decode b_Mo_dayText 208 = .ok (.bipush 51, 2) := by decide +kernel
theorem d_Mo_dayText_210 : decode b_Mo_dayText 210 = .ok (.if_icmp .ne 9, 3) := by decide +kernel
theorem d_Mo_dayText_213 : decode b_Mo_dayText 213 = .ok (.sipush 167, 3) := by decide +kernel
theorem d_Mo_dayText_216 : decode b_Mo_dayText 216 = .ok (.goto 5, 3) := by decide +kernel
theorem d_Mo_dayText_219 : decode b_Mo_dayText 219 = .ok (.bipush 24, 2) := by decide +kernel
theorem d_Mo_dayText_221 : decode b_Mo_dayText 221 = .ok (.invokevirtual 193, 3) := by decide +kernel
theorem d_Mo_dayText_224 : decode b_Mo_dayText 224 = .ok (.iastore, 1) := by decide +kernel
theorem d_Mo_dayText_225 : decode b_Mo_dayText 225 = .ok (.return_, 1) := by decide +kernel
abbrev b_Mo_ruleText : ByteArray := prog_14_method_15_code
def y_Mo_ruleText : MethodName := ⟨"ZoneFilesModel", "ruleText", "(III)Z"⟩
theorem d_Mo_ruleText_0 : decode b_Mo_ruleText 0 = .ok (.aload_n 0, 1) := by decide +kernel
theorem d_Mo_ruleText_1 : decode b_Mo_ruleText 1 = .ok (.iload_n 2, 1) := by decide +kernel
theorem d_Mo_ruleText_2 : decode b_Mo_ruleText 2 = .ok (.putfield 155, 3) := by decide +kernel
theorem d_Mo_ruleText_5 : decode b_Mo_ruleText 5 = .ok (.aload_n 0, 1) := by decide +kernel
theorem d_Mo_ruleText_6 : decode b_Mo_ruleText 6 = .ok (.iload_n 3, 1) := by decide +kernel
theorem d_Mo_ruleText_7 : decode b_Mo_ruleText 7 = .ok (.putfield 158, 3) := by decide +kernel
theorem d_Mo_ruleText_10 : decode b_Mo_ruleText 10 = .ok (.aload_n 0, 1) := by decide +kernel
theorem d_Mo_ruleText_11 : decode b_Mo_ruleText 11 = .ok (.iconst 0, 1) := by decide +kernel
theorem d_Mo_ruleText_12 : decode b_Mo_ruleText 12 = .ok (.putfield 161, 3) := by decide +kernel
theorem d_Mo_ruleText_15 : decode b_Mo_ruleText 15 = .ok (.aload_n 0, 1) := by decide +kernel
theorem d_Mo_ruleText_16 : decode b_Mo_ruleText 16 = .ok (.iconst 0, 1) := by decide +kernel
theorem d_Mo_ruleText_17 : decode b_Mo_ruleText 17 = .ok (.invokevirtual 197, 3) := by decide +kernel
theorem d_Mo_ruleText_20 : decode b_Mo_ruleText 20 = .ok (.aload_n 0, 1) := by decide +kernel
theorem d_Mo_ruleText_21 : decode b_Mo_ruleText 21 = .ok (.getfield 78, 3) := by decide +kernel
theorem d_Mo_ruleText_24 : decode b_Mo_ruleText 24 = .ok (.bipush 8, 2) := by decide +kernel
theorem d_Mo_ruleText_26 : decode b_Mo_ruleText 26 = .ok (.aload_n 0, 1) := by decide +kernel
theorem d_Mo_ruleText_27 : decode b_Mo_ruleText 27 = .ok (.iconst 1, 1) := by decide +kernel
theorem d_Mo_ruleText_28 : decode b_Mo_ruleText 28 = .ok (.bipush 24, 2) := by decide +kernel
theorem d_Mo_ruleText_30 : decode b_Mo_ruleText 30 = .ok (.invokevirtual 193, 3) := by decide +kernel
theorem d_Mo_ruleText_33 : decode b_Mo_ruleText 33 = .ok (.ineg, 1) := by decide +kernel
theorem d_Mo_ruleText_34 : decode b_Mo_ruleText 34 = .ok (.iastore, 1) := by decide +kernel
theorem d_Mo_ruleText_35 : decode b_Mo_ruleText 35 = .ok (.aload_n 0, 1) := by decide +kernel
theorem d_Mo_ruleText_36 : decode b_Mo_ruleText 36 = .ok (.getfield 75, 3) := by decide +kernel
theorem d_Mo_ruleText_39 : decode b_Mo_ruleText 39 = .ok (.iconst 4, 1) := by decide +kernel
theorem d_Mo_ruleText_40 : decode b_Mo_ruleText 40 = .ok (.iconst 1, 1) := by decide +kernel
theorem d_Mo_ruleText_41 : decode b_Mo_ruleText 41 = .ok (.iastore, 1) := by decide +kernel
theorem d_Mo_ruleText_42 : decode b_Mo_ruleText 42 = .ok (.aload_n 0, 1) := by decide +kernel
theorem d_Mo_ruleText_43 : decode b_Mo_ruleText 43 = .ok (.getfield 161, 3) := by decide +kernel
theorem d_Mo_ruleText_46 : decode b_Mo_ruleText 46 = .ok (.ifCond .ne 152, 3) := by decide +kernel
theorem d_Mo_ruleText_49 : decode b_Mo_ruleText 49 = .ok (.aload_n 0, 1) := by decide +kernel
theorem d_Mo_ruleText_50 : decode b_Mo_ruleText 50 = .ok (.getfield 155, 3) := by decide +kernel
theorem d_Mo_ruleText_53 : decode b_Mo_ruleText 53 = .ok (.aload_n 0, 1) := by decide +kernel
theorem d_Mo_ruleText_54 : decode b_Mo_ruleText 54 = .ok (.getfield 158, 3) := by decide +kernel
theorem d_Mo_ruleText_57 : decode b_Mo_ruleText 57 = .ok (.if_icmp .ge 141, 3) := by decide +kernel
theorem d_Mo_ruleText_60 : decode b_Mo_ruleText 60 = .ok (.aload_n 0, 1) := by decide +kernel
theorem d_Mo_ruleText_61 : decode b_Mo_ruleText 61 = .ok (.getfield 75, 3) := by decide +kernel
theorem d_Mo_ruleText_64 : decode b_Mo_ruleText 64 = .ok (.iconst 4, 1) := by decide +kernel
theorem d_Mo_ruleText_65 : decode b_Mo_ruleText 65 = .ok (.iconst 2, 1) := by decide +kernel
theorem d_Mo_ruleText_66 : decode b_Mo_ruleText 66 = .ok (.iastore, 1) := by decide +kernel
theorem d_Mo_ruleText_67 : decode b_Mo_ruleText 67 = .ok (.aload_n 0, 1) := by decide +kernel
theorem d_Mo_ruleText_68 : decode b_Mo_ruleText 68 = .ok (.iconst 1, 1) := by decide +kernel
theorem d_Mo_ruleText_69 : decode b_Mo_ruleText 69 = .ok (.invokevirtual 197, 3) := by decide +kernel
theorem d_Mo_ruleText_72 : decode b_Mo_ruleText 72 = .ok (.aload_n 0, 1) := by decide +kernel
theorem d_Mo_ruleText_73 : decode b_Mo_ruleText 73 = .ok (.getfield 161, 3) := by decide +kernel
theorem d_Mo_ruleText_76 : decode b_Mo_ruleText 76 = .ok (.ifCond .ne 35, 3) := by decide +kernel
theorem d_Mo_ruleText_79 : decode b_Mo_ruleText 79 = .ok (.aload_n 0, 1) := by decide +kernel
theorem d_Mo_ruleText_80 : decode b_Mo_ruleText 80 = .ok (.invokevirtual 175, 3) := by decide +kernel
theorem d_Mo_ruleText_83 : decode b_Mo_ruleText 83 = .ok (.bipush 43, 2) := by decide +kernel
theorem d_Mo_ruleText_85 : decode b_Mo_ruleText 85 = .ok (.if_icmp .eq 22, 3) := by decide +kernel
theorem d_Mo_ruleText_88 : decode b_Mo_ruleText 88 = .ok (.aload_n 0, 1) := by decide +kernel
theorem d_Mo_ruleText_89 : decode b_Mo_ruleText 89 = .ok (.invokevirtual 175, 3) := by decide +kernel
theorem d_Mo_ruleText_92 : decode b_Mo_ruleText 92 = .ok (.bipush 45, 2) := by decide +kernel
theorem d_Mo_ruleText_94 : decode b_Mo_ruleText 94 = .ok (.if_icmp .eq 13, 3) := by decide +kernel
theorem d_Mo_ruleText_97 : decode b_Mo_ruleText 97 = .ok (.aload_n 0, 1) := by decide +kernel
theorem d_Mo_ruleText_98 : decode b_Mo_ruleText 98 = .ok (.invokevirtual 175, 3) := by decide +kernel
theorem d_Mo_ruleText_101 : decode b_Mo_ruleText 101 = .ok (.invokestatic 168, 3) := by decide +kernel
theorem d_Mo_ruleText_104 : decode b_Mo_ruleText 104 = .ok (.ifCond .eq 7, 3) := by decide +kernel
theorem d_Mo_ruleText_107 : decode b_Mo_ruleText 107 = .ok (.iconst 1, 1) := by decide +kernel
theorem d_Mo_ruleText_108 : decode b_Mo_ruleText 108 = .ok (.goto 4, 3) := by decide +kernel
theorem d_Mo_ruleText_111 : decode b_Mo_ruleText 111 = .ok (.iconst 0, 1) := by decide +kernel
theorem d_Mo_ruleText_112 : decode b_Mo_ruleText 112 = .ok (.istore 4, 2) := by decide +kernel
theorem d_Mo_ruleText_114 : decode b_Mo_ruleText 114 = .ok (.aload_n 0, 1) := by decide +kernel
theorem d_Mo_ruleText_115 : decode b_Mo_ruleText 115 = .ok (.getfield 78, 3) := by decide +kernel
theorem d_Mo_ruleText_118 : decode b_Mo_ruleText 118 = .ok (.bipush 9, 2) := by decide +kernel
theorem d_Mo_ruleText_120 : decode b_Mo_ruleText 120 = .ok (.iload 4, 2) := by decide +kernel
theorem d_Mo_ruleText_122 : decode b_Mo_ruleText 122 = .ok (.ifCond .eq 14, 3) := by decide +kernel
theorem d_Mo_ruleText_125 : decode b_Mo_ruleText 125 = .ok (.aload_n 0, 1) := by decide +kernel
theorem d_Mo_ruleText_126 : decode b_Mo_ruleText 126 = .ok (.iconst 1, 1) := by decide +kernel
theorem d_Mo_ruleText_127 : decode b_Mo_ruleText 127 = .ok (.bipush 24, 2) := by decide +kernel
theorem d_Mo_ruleText_129 : decode b_Mo_ruleText 129 = .ok (.invokevirtual 193, 3) := by decide +kernel
theorem d_Mo_ruleText_132 : decode b_Mo_ruleText 132 = .ok (.ineg, 1) := by decide +kernel
theorem d_Mo_ruleText_133 : decode b_Mo_ruleText 133 = .ok (.goto 14, 3) := by decide +kernel
theorem d_Mo_ruleText_136 : decode b_Mo_ruleText 136 = .ok (.aload_n 0, 1) := by decide +kernel
theorem d_Mo_ruleText_137 : decode b_Mo_ruleText 137 = .ok (.getfield 78, 3) := by decide +kernel
theorem d_Mo_ruleText_140 : decode b_Mo_ruleText 140 = .ok (.bipush 8, 2) := by decide +kernel
theorem d_Mo_ruleText_142 : decode b_Mo_ruleText 142 = .ok (.iaload, 1) := by decide +kernel
theorem d_Mo_ruleText_143 : decode b_Mo_ruleText 143 = .ok (.sipush 3600, 3) := by decide +kernel
theorem d_Mo_ruleText_146 : decode b_Mo_ruleText 146 = .ok (.iadd, 1) := by decide +kernel
theorem d_Mo_ruleText_147 : decode b_Mo_ruleText 147 = .ok (.iastore, 1) := by decide +kernel
theorem d_Mo_ruleText_148 : decode b_Mo_ruleText 148 = .ok (.aload_n 0, 1) := by decide +kernel
theorem d_Mo_ruleText_149 : decode b_Mo_ruleText 149 = .ok (.bipush 44, 2) := by decide +kernel
theorem d_Mo_ruleText_151 : decode b_Mo_ruleText 151 = .ok (.invokevirtual 186, 3) := by decide +kernel
theorem d_Mo_ruleText_154 : decode b_Mo_ruleText 154 = .ok (.aload_n 0, 1) := by decide +kernel
theorem d_Mo_ruleText_155 : decode b_Mo_ruleText 155 = .ok (.iconst 0, 1) := by decide +kernel
theorem d_Mo_ruleText_156 : decode b_Mo_ruleText 156 = .ok (.iload_n 1, 1) := by decide +kernel
theorem d_Mo_ruleText_157 : decode b_Mo_ruleText 157 = .ok (.invokevirtual 200, 3) := by decide +kernel
theorem d_Mo_ruleText_160 : decode b_Mo_ruleText 160 = .ok (.aload_n 0, 1) := by decide +kernel
theorem d_Mo_ruleText_161 : decode b_Mo_ruleText 161 = .ok (.bipush 44, 2) := by decide +kernel
theorem d_Mo_ruleText_163 : decode b_Mo_ruleText 163 = .ok (.invokevirtual 186, 3) := by decide +kernel
theorem d_Mo_ruleText_166 : decode b_Mo_ruleText 166 = .ok (.aload_n 0, 1) := by decide +kernel
theorem d_Mo_ruleText_167 : decode b_Mo_ruleText 167 = .ok (.iconst 1, 1) := by decide +kernel
theorem d_Mo_ruleText_168 : decode b_Mo_ruleText 168 = .ok (.iload_n 1, 1) := by decide +kernel
theorem d_Mo_ruleText_169 : decode b_Mo_ruleText 169 = .ok (.invokevirtual 200, 3) := by decide +kernel
theorem d_Mo_ruleText_172 : decode b_Mo_ruleText 172 = .ok (.aload_n 0, 1) := by decide +kernel
theorem d_Mo_ruleText_173 : decode b_Mo_ruleText 173 = .ok (.getfield 161, 3) := by decide +kernel
theorem d_Mo_ruleText_176 : decode b_Mo_ruleText 176 = .ok (.ifCond .ne 22, 3) := by decide +kernel
theorem d_Mo_ruleText_179 : decode b_Mo_ruleText 179 = .ok (.aload_n 0, 1) := by decide +kernel
theorem d_Mo_ruleText_180 : decode b_Mo_ruleText 180 = .ok (.getfield 155, 3) := by decide +kernel
theorem d_Mo_ruleText_183 : decode b_Mo_ruleText 183 = .ok (.aload_n 0, 1) := by decide +kernel
theorem d_Mo_ruleText_184 : decode b_Mo_ruleText 184 = .ok (.getfield 158, 3) := by decide +kernel
theorem d_Mo_ruleText_187 : decode b_Mo_ruleText 187 = .ok (.if_icmp .ge 11, 3) := by decide +kernel
theorem d_Mo_ruleText_190 : decode b_Mo_ruleText 190 = .ok (.aload_n 0, 1) := by decide +kernel
theorem d_Mo_ruleText_191 : decode b_Mo_ruleText 191 = .ok (.aload_n 0, 1) := by decide +kernel
theorem d_Mo_ruleText_192 : decode b_Mo_ruleText 192 = .ok (.getfield 155, 3) := by decide +kernel
theorem d_Mo_ruleText_195 : decode b_Mo_ruleText 195 = .ok (.invokevirtual 179, 3) := by decide +kernel
theorem d_Mo_ruleText_198 : decode b_Mo_ruleText 198 = .ok (.aload_n 0, 1) := by decide +kernel
theorem d_Mo_ruleText_199 : decode b_Mo_ruleText 199 = .ok (.getfield 161, 3) := by decide +kernel
theorem d_Mo_ruleText_202 : decode b_Mo_ruleText 202 = .ok (.ifCond .ne 7, 3) := by decide +kernel
theorem d_Mo_ruleText_205 : decode b_Mo_ruleText 205 = .ok (.iconst 1, 1) := by decide +kernel
theorem d_Mo_ruleText_206 : decode b_Mo_ruleText 206 = .ok (.goto 4, 3) := by decide +kernel
theorem d_Mo_ruleText_209 : decode b_Mo_ruleText 209 = .ok (.iconst 0, 1) := by decide +kernel
theorem d_Mo_ruleText_210 : decode b_Mo_ruleText 210 = .ok (.ireturn, 1) := by decide +kernel
-- ZoneFilesModel.thrown()I
def f_Mo_thrown_0 (nf : Nat) (si : Nat → Int32) : Option (Int32) :=
  some (si 3)
def f_Mo_thrown (nf : Nat) (si : Nat → Int32) (sj : Nat → Int64) (sa : Nat → Nat → Int32) (sb : Nat → Nat → Int64) : Option (Int32) :=
  f_Mo_thrown_0 nf si
section
variable {p : Program} {l : Launch} {e : Env} {R : Room} {s : State} {m : MethodId} {args : Array Value} {below : List Frame} {meth : Method} {c : Code} {Q : State → Prop} {dC : Nat → ClassId} {dI : Nat → Nat → Nat} {nf : Nat} {A : Nat → Prop} {h0 : Nat} {r : Nat → Nat} {cA : Nat → ClassId}
variable {si : Nat → Int32} {sj : Nat → Int64} {sa : Nat → Nat → Int32} {sb : Nat → Nat → Int64} {r0 : Int32}
set_option maxHeartbeats 400000 in
set_option maxRecDepth 100000 in
theorem k_Mo_thrown_0 (C0 : Cx p s m meth c args R b_Mo_thrown "ZoneFilesModel" 1 (some .int) 0 0) (hST : ST (fun _ => False) s s.heap) (hK : va_K (dC, dI) classes (moT cA) s) (hP : va_P (dC, dI) classes (moW h0 r cA si sj sa sb) s.heap) (hE : ∀ (pc : Nat) (ls : Array Slot), decode b_Mo_thrown pc = .ok (.ireturn, 1) → narrow .int (.int r0) = .int r0 → W p l e R s m args below meth c s.heap [] 0 0 Q (F0 m pc ls [.int r0])) (hf : f_Mo_thrown_0 nf si = some r0) {ls : Array Slot} (hl : lv_has ls 1 [(0, .ref h0)]) : W p l e R s m args below meth c s.heap [] 0 0 Q (F0 m 0 ls []) := by
  obtain ⟨hx, hb, hr, hml, hown, hts, hlocks, hRf, hRl⟩ := id C0
  obtain ⟨tms, hZms, hTms, tmg, hZmg, hTmg, hNW⟩ := id hST
  unfold f_Mo_thrown_0 at hf
  refine lv_aload_n hx hb d_Mo_thrown_0 rfl (lv_at hl 0 rfl) ?_
  refine mg_3 (v := si 3) hx hb hts hown hK hP rfl d_Mo_thrown_1 ?_
  cases rs hf
  exact hE _ _ d_Mo_thrown_4 rfl
end
set_option maxHeartbeats 400000 in
set_option maxRecDepth 100000 in
theorem c_Mo_thrown (l : Launch) (dC : Nat → ClassId) (dI : Nat → Nat → Nat) (h0 : Nat) (r : Nat → Nat) (cA : Nat → ClassId) (nf : Nat) (si : Nat → Int32) (sj : Nat → Int64) (sa : Nat → Nat → Int32) (sb : Nat → Nat → Int64) {r0 : Int32} (hf : f_Mo_thrown nf si sj sa sb = some r0) : Met l y_Mo_thrown (wd y_Mo_thrown b_Mo_thrown 1 (some .int)) ({ frames := 0, cells := 0, slots := 0, locals := 0 }) (RO dC dI (moW h0 r cA si sj sa sb) (moT cA) [.ref h0]) (SV (some (.int r0))) 0 0 (fun _ => False) :=
  met_S (plainFor_of_name (by decide)) (Nat.le_of_ble_eq_true rfl) (fun p e R s m args below meth c ls C0 hST hK hP hl => by
    obtain ⟨hx, hb, hr, hml, hown, hts, hlocks, hRf, hRl⟩ := id C0
    unfold f_Mo_thrown at hf
    exact k_Mo_thrown_0 C0 hST hK hP (fun pc ls hd hn => W.zret hx hb hr hn (fun t ht hW => ⟨rfl, ht⟩) (fun q h => by cases h) hd) hf (lv_sub hl [0] rfl))
-- ZoneFilesModel.feed(IJ)I
def f_Mo_feed_44 (nf : Nat) : Nat → Int32 → Int32 → Int64 → (Nat → Int32) → (Nat → Int64) → (Nat → Nat → Int32) → (Nat → Nat → Int64) → Option (Int32 × (Nat → Int32) × (Nat → Int64) × (Nat → Nat → Int32) × (Nat → Nat → Int64))
  | 0, _, _, _, _, _, _, _ => none
  | n + 1, x4, x1, x2, si, sj, sa, sb =>
    if x1 ≤ x4 then
    some ((si 1) + x1, va_up si 1 ((si 1) + x1), sj, sa, sb)
    else
    if ((si 1) + x4) < 0 ∨ 6000 ≤ ((si 1) + x4).toNatClampNeg then none else
      f_Mo_feed_44 nf n (x4 + 1) x1 x2 si sj (va_up sa 0 (upd (sa 0) ((si 1) + x4).toNatClampNeg (((x2 >>> ((8 * x4).toInt64 &&& 63)) &&& 255).toInt32))) sb
def f_Mo_feed_29 (nf : Nat) (x1 : Int32) (x2 : Int64) (s0 : Int32) (si : Nat → Int32) (sj : Nat → Int64) (sa : Nat → Nat → Int32) (sb : Nat → Nat → Int64) : Option (Int32 × (Nat → Int32) × (Nat → Int64) × (Nat → Nat → Int32) × (Nat → Nat → Int64)) :=
  if s0 ≤ 0 then
  f_Mo_feed_44 nf nf 0 x1 x2 (va_up si 3 s0) sj sa sb
  else
  some (0, va_up si 3 s0, sj, sa, sb)
def f_Mo_feed_24 (nf : Nat) (x1 : Int32) (x2 : Int64) (si : Nat → Int32) (sj : Nat → Int64) (sa : Nat → Nat → Int32) (sb : Nat → Nat → Int64) : Option (Int32 × (Nat → Int32) × (Nat → Int64) × (Nat → Nat → Int32) × (Nat → Nat → Int64)) :=
  f_Mo_feed_29 nf x1 x2 1 si sj sa sb
def f_Mo_feed_0 (nf : Nat) (x1 : Int32) (x2 : Int64) (si : Nat → Int32) (sj : Nat → Int64) (sa : Nat → Nat → Int32) (sb : Nat → Nat → Int64) : Option (Int32 × (Nat → Int32) × (Nat → Int64) × (Nat → Nat → Int32) × (Nat → Nat → Int64)) :=
  if x1 < (1 : Int32) then
  f_Mo_feed_24 nf x1 x2 si sj sa sb
  else
  if (8 : Int32) < x1 then
    f_Mo_feed_24 nf x1 x2 si sj sa sb
    else
    if ((si 1) + x1) ≤ (6000 : Int32) then
      f_Mo_feed_29 nf x1 x2 0 si sj sa sb
      else
      f_Mo_feed_24 nf x1 x2 si sj sa sb
def f_Mo_feed (nf : Nat) (p0 : Int32) (p1 : Int64) (si : Nat → Int32) (sj : Nat → Int64) (sa : Nat → Nat → Int32) (sb : Nat → Nat → Int64) : Option (Int32 × (Nat → Int32) × (Nat → Int64) × (Nat → Nat → Int32) × (Nat → Nat → Int64)) :=
  f_Mo_feed_0 nf p0 p1 si sj sa sb
section
variable {p : Program} {l : Launch} {e : Env} {R : Room} {s : State} {m : MethodId} {args : Array Value} {below : List Frame} {meth : Method} {c : Code} {Q : State → Prop} {dC : Nat → ClassId} {dI : Nat → Nat → Nat} {nf : Nat} {A : Nat → Prop} {h0 : Nat} {r : Nat → Nat} {cA : Nat → ClassId}
variable {r0 : Int32} {vi : Nat → Int32} {vj : Nat → Int64} {va : Nat → Nat → Int32} {vb : Nat → Nat → Int64}
set_option maxHeartbeats 400000 in
set_option maxRecDepth 100000 in
theorem k_Mo_feed_44 (C0 : Cx p s m meth c args R b_Mo_feed "ZoneFilesModel" 5 (some .int) 0 0) (hST : ST A s s.heap) (hA : ∀ q, s.heap.size ≤ q → A q) (hK : va_K (dC, dI) classes (moT cA) s) (hE : ∀ (pc : Nat) (ls : Array Slot) (H : Heap) (locs : List Loc), decode b_Mo_feed pc = .ok (.ireturn, 1) → narrow .int (.int r0) = .int r0 → va_P (dC, dI) classes (moW h0 r cA vi vj va vb) H → va_D A (moW h0 r cA vi vj va vb) → va_S A s.heap H locs → W p l e R s m args below meth c H locs 0 0 Q (F0 m pc ls [.int r0])) : ∀ (n : Nat) {x4 : Int32} {x1 : Int32} {x2 : Int64} {si : Nat → Int32} {sj : Nat → Int64} {sa : Nat → Nat → Int32} {sb : Nat → Nat → Int64}, f_Mo_feed_44 nf n x4 x1 x2 si sj sa sb = some (r0, vi, vj, va, vb) → ∀ {H : Heap} {locs : List Loc} {ls : Array Slot}, va_P (dC, dI) classes (moW h0 r cA si sj sa sb) H → va_D A (moW h0 r cA si sj sa sb) → va_S A s.heap H locs → lv_has ls 5 [(4, .int x4), (0, .ref h0), (1, .int x1), (2, .long x2)] → W p l e R s m args below meth c H locs 0 0 Q (F0 m 44 ls []) := by
  obtain ⟨hx, hb, hr, hml, hown, hts, hlocks, hRf, hRl⟩ := id C0
  intro n
  induction n with
  | zero =>
    intro x4 x1 x2 si sj sa sb hf
    exact absurd hf (by simp [f_Mo_feed_44])
  | succ n ih =>
    intro x4 x1 x2 si sj sa sb hf H locs ls hP hD hS hl
    unfold f_Mo_feed_44 at hf
    refine lv_iload hx hb d_Mo_feed_44 (lv_at hl 0 rfl) ?_
    refine lv_iload_n hx hb d_Mo_feed_46 rfl (lv_at hl 2 rfl) ?_
    refine lv_icmp_ge (tgt := 80) hx hb d_Mo_feed_47 (by decide) (fun c_3 => ?_) (fun c_3 => ?_)
    · have hf := it_t c_3 hf
      refine lv_aload_n hx hb d_Mo_feed_80 rfl (lv_at hl 1 rfl) ?_
      refine lv_dup hx hb d_Mo_feed_81 rfl ?_
      refine mg_1 (v := si 1) hx hb hts hown hK hP rfl d_Mo_feed_82 ?_
      refine lv_iload_n hx hb d_Mo_feed_85 rfl (lv_at hl 2 rfl) ?_
      refine lv_iadd hx hb d_Mo_feed_86 ?_
      refine mp_1 hx hb hts hown hK hP hD hS d_Mo_feed_87 (fun H locs hP hD hS => ?_)
      refine lv_aload_n hx hb d_Mo_feed_90 rfl (lv_at hl 1 rfl) ?_
      refine mg_1 (v := (si 1) + x1) hx hb hts hown hK hP rfl d_Mo_feed_91 ?_
      cases rs hf
      exact hE _ _ _ _ d_Mo_feed_94 rfl hP hD hS
    · have hf := it_f c_3 hf
      refine lv_aload_n hx hb d_Mo_feed_50 rfl (lv_at hl 1 rfl) ?_
      refine mg_0 hx hb hts hown hK hP d_Mo_feed_51 ?_
      refine lv_aload_n hx hb d_Mo_feed_54 rfl (lv_at hl 1 rfl) ?_
      refine mg_1 (v := si 1) hx hb hts hown hK hP rfl d_Mo_feed_55 ?_
      refine lv_iload hx hb d_Mo_feed_58 (lv_at hl 0 rfl) ?_
      refine lv_iadd hx hb d_Mo_feed_60 ?_
      refine lv_lload_n hx hb d_Mo_feed_61 rfl (lv_at hl 3 rfl) ?_
      refine lv_bipush (v := 8) hx hb d_Mo_feed_62 (by decide) ?_
      refine lv_iload hx hb d_Mo_feed_64 (lv_at hl 0 rfl) ?_
      refine lv_imul hx hb d_Mo_feed_66 ?_
      refine lv_lshr hx hb d_Mo_feed_67 rfl ?_
      refine lv_ldc2 (v := 255) hx hb hown (hts (.constantLong "ZoneFilesModel" 153 255) m_7_113) d_Mo_feed_68 ?_
      refine lv_land hx hb d_Mo_feed_71 ?_
      refine lv_l2i hx hb d_Mo_feed_72 rfl ?_
      obtain ⟨c_4, hf⟩ := it_n hf
      refine mz_0 hx hb hK hP hD hS c_4 d_Mo_feed_73 (fun H locs hP hD hS => ?_)
      refine lv_iinc (v := x4 + 1) (lv' := [(4, .int (x4 + 1)), (0, .ref h0), (1, .int x1), (2, .long x2)]) hx hb d_Mo_feed_74 hl (k := 0) rfl rfl (by decide) rfl (fun ls hl => ?_)
      refine lv_goto (tgt := 44) hx hb d_Mo_feed_77 (by decide) ?_
      exact ih hf hP hD hS (lv_sub hl [0, 1, 2, 3] rfl)
set_option maxHeartbeats 400000 in
set_option maxRecDepth 100000 in
theorem k_Mo_feed_29 (C0 : Cx p s m meth c args R b_Mo_feed "ZoneFilesModel" 5 (some .int) 0 0) (hST : ST A s s.heap) (hA : ∀ q, s.heap.size ≤ q → A q) (hK : va_K (dC, dI) classes (moT cA) s) (hE : ∀ (pc : Nat) (ls : Array Slot) (H : Heap) (locs : List Loc), decode b_Mo_feed pc = .ok (.ireturn, 1) → narrow .int (.int r0) = .int r0 → va_P (dC, dI) classes (moW h0 r cA vi vj va vb) H → va_D A (moW h0 r cA vi vj va vb) → va_S A s.heap H locs → W p l e R s m args below meth c H locs 0 0 Q (F0 m pc ls [.int r0])) {x1 : Int32} {x2 : Int64} {s0 : Int32} {si : Nat → Int32} {sj : Nat → Int64} {sa : Nat → Nat → Int32} {sb : Nat → Nat → Int64} (hf : f_Mo_feed_29 nf x1 x2 s0 si sj sa sb = some (r0, vi, vj, va, vb)) {H : Heap} {locs : List Loc} {ls : Array Slot} (hP : va_P (dC, dI) classes (moW h0 r cA si sj sa sb) H) (hD : va_D A (moW h0 r cA si sj sa sb)) (hS : va_S A s.heap H locs) (hl : lv_has ls 5 [(0, .ref h0), (1, .int x1), (2, .long x2)]) : W p l e R s m args below meth c H locs 0 0 Q (F0 m 29 ls [.int s0, .ref h0]) := by
  obtain ⟨hx, hb, hr, hml, hown, hts, hlocks, hRf, hRl⟩ := id C0
  unfold f_Mo_feed_29 at hf
  refine mp_3 hx hb hts hown hK hP hD hS d_Mo_feed_29 (fun H locs hP hD hS => ?_)
  refine lv_aload_n hx hb d_Mo_feed_32 rfl (lv_at hl 0 rfl) ?_
  refine mg_3 (v := s0) hx hb hts hown hK hP rfl d_Mo_feed_33 ?_
  refine lv_if_le (tgt := 41) hx hb d_Mo_feed_36 (by decide) (fun c_2 => ?_) (fun c_2 => ?_)
  · have hf := it_t c_2 hf
    refine lv_iconst (v := 0) hx hb d_Mo_feed_41 (by decide) ?_
    refine lv_istore (lv' := [(4, .int 0), (0, .ref h0), (1, .int x1), (2, .long x2)]) hx hb d_Mo_feed_42 hl (by decide) rfl (fun ls hl => ?_)
    exact k_Mo_feed_44 C0 hST hA hK hE nf hf hP hD hS (lv_sub hl [0, 1, 2, 3] rfl)
  · have hf := it_f c_2 hf
    refine lv_iconst (v := 0) hx hb d_Mo_feed_39 (by decide) ?_
    cases rs hf
    exact hE _ _ _ _ d_Mo_feed_40 rfl hP hD hS
set_option maxHeartbeats 400000 in
set_option maxRecDepth 100000 in
theorem k_Mo_feed_24 (C0 : Cx p s m meth c args R b_Mo_feed "ZoneFilesModel" 5 (some .int) 0 0) (hST : ST A s s.heap) (hA : ∀ q, s.heap.size ≤ q → A q) (hK : va_K (dC, dI) classes (moT cA) s) (hE : ∀ (pc : Nat) (ls : Array Slot) (H : Heap) (locs : List Loc), decode b_Mo_feed pc = .ok (.ireturn, 1) → narrow .int (.int r0) = .int r0 → va_P (dC, dI) classes (moW h0 r cA vi vj va vb) H → va_D A (moW h0 r cA vi vj va vb) → va_S A s.heap H locs → W p l e R s m args below meth c H locs 0 0 Q (F0 m pc ls [.int r0])) {x1 : Int32} {x2 : Int64} {si : Nat → Int32} {sj : Nat → Int64} {sa : Nat → Nat → Int32} {sb : Nat → Nat → Int64} (hf : f_Mo_feed_24 nf x1 x2 si sj sa sb = some (r0, vi, vj, va, vb)) {H : Heap} {locs : List Loc} {ls : Array Slot} (hP : va_P (dC, dI) classes (moW h0 r cA si sj sa sb) H) (hD : va_D A (moW h0 r cA si sj sa sb)) (hS : va_S A s.heap H locs) (hl : lv_has ls 5 [(0, .ref h0), (1, .int x1), (2, .long x2)]) : W p l e R s m args below meth c H locs 0 0 Q (F0 m 24 ls [.ref h0]) := by
  obtain ⟨hx, hb, hr, hml, hown, hts, hlocks, hRf, hRl⟩ := id C0
  unfold f_Mo_feed_24 at hf
  refine lv_iconst (v := 1) hx hb d_Mo_feed_24 (by decide) ?_
  refine lv_goto (tgt := 29) hx hb d_Mo_feed_25 (by decide) ?_
  exact k_Mo_feed_29 C0 hST hA hK hE hf hP hD hS (lv_sub hl [0, 1, 2] rfl)
set_option maxHeartbeats 400000 in
set_option maxRecDepth 100000 in
theorem k_Mo_feed_0 (C0 : Cx p s m meth c args R b_Mo_feed "ZoneFilesModel" 5 (some .int) 0 0) (hST : ST A s s.heap) (hA : ∀ q, s.heap.size ≤ q → A q) (hK : va_K (dC, dI) classes (moT cA) s) (hE : ∀ (pc : Nat) (ls : Array Slot) (H : Heap) (locs : List Loc), decode b_Mo_feed pc = .ok (.ireturn, 1) → narrow .int (.int r0) = .int r0 → va_P (dC, dI) classes (moW h0 r cA vi vj va vb) H → va_D A (moW h0 r cA vi vj va vb) → va_S A s.heap H locs → W p l e R s m args below meth c H locs 0 0 Q (F0 m pc ls [.int r0])) {x1 : Int32} {x2 : Int64} {si : Nat → Int32} {sj : Nat → Int64} {sa : Nat → Nat → Int32} {sb : Nat → Nat → Int64} (hf : f_Mo_feed_0 nf x1 x2 si sj sa sb = some (r0, vi, vj, va, vb)) {H : Heap} {locs : List Loc} {ls : Array Slot} (hP : va_P (dC, dI) classes (moW h0 r cA si sj sa sb) H) (hD : va_D A (moW h0 r cA si sj sa sb)) (hS : va_S A s.heap H locs) (hl : lv_has ls 5 [(0, .ref h0), (1, .int x1), (2, .long x2)]) : W p l e R s m args below meth c H locs 0 0 Q (F0 m 0 ls []) := by
  obtain ⟨hx, hb, hr, hml, hown, hts, hlocks, hRf, hRl⟩ := id C0
  unfold f_Mo_feed_0 at hf
  refine lv_aload_n hx hb d_Mo_feed_0 rfl (lv_at hl 0 rfl) ?_
  refine lv_iload_n hx hb d_Mo_feed_1 rfl (lv_at hl 1 rfl) ?_
  refine lv_iconst (v := 1) hx hb d_Mo_feed_2 (by decide) ?_
  refine lv_icmp_lt (tgt := 24) hx hb d_Mo_feed_3 (by decide) (fun c_1 => ?_) (fun c_1 => ?_)
  · have hf := it_t c_1 hf
    exact k_Mo_feed_24 C0 hST hA hK hE hf hP hD hS (lv_sub hl [0, 1, 2] rfl)
  · have hf := it_f c_1 hf
    refine lv_iload_n hx hb d_Mo_feed_6 rfl (lv_at hl 1 rfl) ?_
    refine lv_bipush (v := 8) hx hb d_Mo_feed_7 (by decide) ?_
    refine lv_icmp_gt (tgt := 24) hx hb d_Mo_feed_9 (by decide) (fun c_5 => ?_) (fun c_5 => ?_)
    · have hf := it_t c_5 hf
      exact k_Mo_feed_24 C0 hST hA hK hE hf hP hD hS (lv_sub hl [0, 1, 2] rfl)
    · have hf := it_f c_5 hf
      refine lv_aload_n hx hb d_Mo_feed_12 rfl (lv_at hl 0 rfl) ?_
      refine mg_1 (v := si 1) hx hb hts hown hK hP rfl d_Mo_feed_13 ?_
      refine lv_iload_n hx hb d_Mo_feed_16 rfl (lv_at hl 1 rfl) ?_
      refine lv_iadd hx hb d_Mo_feed_17 ?_
      refine lv_sipush (v := 6000) hx hb d_Mo_feed_18 (by decide) ?_
      refine lv_icmp_le (tgt := 28) hx hb d_Mo_feed_21 (by decide) (fun c_6 => ?_) (fun c_6 => ?_)
      · have hf := it_t c_6 hf
        refine lv_iconst (v := 0) hx hb d_Mo_feed_28 (by decide) ?_
        exact k_Mo_feed_29 C0 hST hA hK hE hf hP hD hS (lv_sub hl [0, 1, 2] rfl)
      · have hf := it_f c_6 hf
        exact k_Mo_feed_24 C0 hST hA hK hE hf hP hD hS (lv_sub hl [0, 1, 2] rfl)
end
set_option maxHeartbeats 400000 in
set_option maxRecDepth 100000 in
theorem c_Mo_feed (l : Launch) (dC : Nat → ClassId) (dI : Nat → Nat → Nat) (h0 : Nat) (r : Nat → Nat) (cA : Nat → ClassId) (sz : Nat) (nf : Nat) (p0 : Int32) (p1 : Int64) (si : Nat → Int32) (sj : Nat → Int64) (sa : Nat → Nat → Int32) (sb : Nat → Nat → Int64) {r0 : Int32} {vi : Nat → Int32} {vj : Nat → Int64} {va : Nat → Nat → Int32} {vb : Nat → Nat → Int64} (hf : f_Mo_feed nf p0 p1 si sj sa sb = some (r0, vi, vj, va, vb)) : Met l y_Mo_feed (wd y_Mo_feed b_Mo_feed 5 (some .int)) ({ frames := 0, cells := 0, slots := 0, locals := 0 }) (MU dC dI (moW h0 r cA si sj sa sb) (moT cA) sz [.ref h0, .int p0, .long p1]) (MV (some (.int r0)) (fun t => va_P (dC, dI) classes (moW h0 r cA vi vj va vb) t.heap) (va_A (moW h0 r cA si sj sa sb) sz)) 0 0 (va_A (moW h0 r cA si sj sa sb) sz) :=
  met_M (plainFor_of_name (by decide)) (Nat.le_of_ble_eq_true rfl) (fun p e R s m args below meth c ls hRc hRs hsz hin C0 hST hK hP hD hl => by
    obtain ⟨hx, hb, hr, hml, hown, hts, hlocks, hRf, hRl⟩ := id C0
    subst hsz
    have hA : ∀ q : Nat, s.heap.size ≤ q → va_A (moW h0 r cA si sj sa sb) s.heap.size q := fun q h => Or.inr h
    have hS : va_S (va_A (moW h0 r cA si sj sa sb) s.heap.size) s.heap s.heap [] := va_S.rf
    unfold f_Mo_feed at hf
    exact k_Mo_feed_0 C0 hST hA hK (fun pc ls H locs hd hn hP hD hS => W.zret hx hb hr hn (fun t ht hW => ⟨⟨rfl, mo_end ht hP⟩, hS.F ht⟩) hS.2.2 hd) hf hP hD hS (lv_sub hl [0, 1, 2] rfl))
-- ZoneFilesModel.put(II)V
def f_Mo_put_557 (nf : Nat) : Nat → Int32 → Int32 → Int32 → (Nat → Int32) → (Nat → Int64) → (Nat → Nat → Int32) → (Nat → Nat → Int64) → Option ((Nat → Int32) × (Nat → Int64) × (Nat → Nat → Int32) × (Nat → Nat → Int64))
  | 0, _, _, _, _, _, _, _ => none
  | n + 1, x3, x1, x2, si, sj, sa, sb =>
    if (20 : Int32) ≤ x3 then
    some (si, sj, sa, sb)
    else
    if ((20 * x2) + x3) < 0 ∨ 100 ≤ ((20 * x2) + x3).toNatClampNeg then none else
      if ((20 * x1) + x3) < 0 ∨ 100 ≤ ((20 * x1) + x3).toNatClampNeg then none else
      f_Mo_put_557 nf n (x3 + 1) x1 x2 si sj (va_up sa 26 (upd (sa 26) ((20 * x1) + x3).toNatClampNeg (sa 26 ((20 * x2) + x3).toNatClampNeg))) sb
def f_Mo_put_404 (nf : Nat) : Nat → Int32 → Int32 → Int32 → (Nat → Int32) → (Nat → Int64) → (Nat → Nat → Int32) → (Nat → Nat → Int64) → Option ((Nat → Int32) × (Nat → Int64) × (Nat → Nat → Int32) × (Nat → Nat → Int64))
  | 0, _, _, _, _, _, _, _ => none
  | n + 1, x3, x1, x2, si, sj, sa, sb =>
    if (2 : Int32) ≤ x3 then
    f_Mo_put_557 nf nf 0 x1 x2 si sj sa sb
    else
    if ((2 * x2) + x3) < 0 ∨ 10 ≤ ((2 * x2) + x3).toNatClampNeg then none else
      if ((2 * x1) + x3) < 0 ∨ 10 ≤ ((2 * x1) + x3).toNatClampNeg then none else
      if ((2 * x2) + x3) < 0 ∨ 10 ≤ ((2 * x2) + x3).toNatClampNeg then none else
      if ((2 * x1) + x3) < 0 ∨ 10 ≤ ((2 * x1) + x3).toNatClampNeg then none else
      if ((2 * x2) + x3) < 0 ∨ 10 ≤ ((2 * x2) + x3).toNatClampNeg then none else
      if ((2 * x1) + x3) < 0 ∨ 10 ≤ ((2 * x1) + x3).toNatClampNeg then none else
      if ((2 * x2) + x3) < 0 ∨ 10 ≤ ((2 * x2) + x3).toNatClampNeg then none else
      if ((2 * x1) + x3) < 0 ∨ 10 ≤ ((2 * x1) + x3).toNatClampNeg then none else
      if ((2 * x2) + x3) < 0 ∨ 10 ≤ ((2 * x2) + x3).toNatClampNeg then none else
      if ((2 * x1) + x3) < 0 ∨ 10 ≤ ((2 * x1) + x3).toNatClampNeg then none else
      if ((2 * x2) + x3) < 0 ∨ 10 ≤ ((2 * x2) + x3).toNatClampNeg then none else
      if ((2 * x1) + x3) < 0 ∨ 10 ≤ ((2 * x1) + x3).toNatClampNeg then none else
      if ((2 * x2) + x3) < 0 ∨ 10 ≤ ((2 * x2) + x3).toNatClampNeg then none else
      if ((2 * x1) + x3) < 0 ∨ 10 ≤ ((2 * x1) + x3).toNatClampNeg then none else
      f_Mo_put_404 nf n (x3 + 1) x1 x2 si sj (va_up (va_up (va_up (va_up (va_up (va_up (va_up sa 24 (upd (sa 24) ((2 * x1) + x3).toNatClampNeg (sa 24 ((2 * x2) + x3).toNatClampNeg))) 25 (upd (sa 25) ((2 * x1) + x3).toNatClampNeg (sa 25 ((2 * x2) + x3).toNatClampNeg))) 27 (upd (sa 27) ((2 * x1) + x3).toNatClampNeg (sa 27 ((2 * x2) + x3).toNatClampNeg))) 28 (upd (sa 28) ((2 * x1) + x3).toNatClampNeg (sa 28 ((2 * x2) + x3).toNatClampNeg))) 29 (upd (sa 29) ((2 * x1) + x3).toNatClampNeg (sa 29 ((2 * x2) + x3).toNatClampNeg))) 30 (upd (sa 30) ((2 * x1) + x3).toNatClampNeg (sa 30 ((2 * x2) + x3).toNatClampNeg))) 31 (upd (sa 31) ((2 * x1) + x3).toNatClampNeg (sa 31 ((2 * x2) + x3).toNatClampNeg))) sb
def f_Mo_put_365 (nf : Nat) : Nat → Int32 → Int32 → Int32 → (Nat → Int32) → (Nat → Int64) → (Nat → Nat → Int32) → (Nat → Nat → Int64) → Option ((Nat → Int32) × (Nat → Int64) × (Nat → Nat → Int32) × (Nat → Nat → Int64))
  | 0, _, _, _, _, _, _, _ => none
  | n + 1, x3, x1, x2, si, sj, sa, sb =>
    if (128 : Int32) ≤ x3 then
    f_Mo_put_404 nf nf 0 x1 x2 si sj sa sb
    else
    if ((128 * x2) + x3) < 0 ∨ 640 ≤ ((128 * x2) + x3).toNatClampNeg then none else
      if ((128 * x1) + x3) < 0 ∨ 640 ≤ ((128 * x1) + x3).toNatClampNeg then none else
      f_Mo_put_365 nf n (x3 + 1) x1 x2 si sj (va_up sa 22 (upd (sa 22) ((128 * x1) + x3).toNatClampNeg (sa 22 ((128 * x2) + x3).toNatClampNeg))) sb
def f_Mo_put_197 (nf : Nat) : Nat → Int32 → Int32 → Int32 → (Nat → Int32) → (Nat → Int64) → (Nat → Nat → Int32) → (Nat → Nat → Int64) → Option ((Nat → Int32) × (Nat → Int64) × (Nat → Nat → Int32) × (Nat → Nat → Int64))
  | 0, _, _, _, _, _, _, _ => none
  | n + 1, x3, x1, x2, si, sj, sa, sb =>
    if (40 : Int32) ≤ x3 then
    f_Mo_put_365 nf nf 0 x1 x2 si sj sa sb
    else
    if ((40 * x2) + x3) < 0 ∨ 200 ≤ ((40 * x2) + x3).toNatClampNeg then none else
      if ((40 * x1) + x3) < 0 ∨ 200 ≤ ((40 * x1) + x3).toNatClampNeg then none else
      if ((40 * x2) + x3) < 0 ∨ 200 ≤ ((40 * x2) + x3).toNatClampNeg then none else
      if ((40 * x1) + x3) < 0 ∨ 200 ≤ ((40 * x1) + x3).toNatClampNeg then none else
      if ((40 * x2) + x3) < 0 ∨ 200 ≤ ((40 * x2) + x3).toNatClampNeg then none else
      if ((40 * x1) + x3) < 0 ∨ 200 ≤ ((40 * x1) + x3).toNatClampNeg then none else
      if ((40 * x2) + x3) < 0 ∨ 200 ≤ ((40 * x2) + x3).toNatClampNeg then none else
      if ((40 * x1) + x3) < 0 ∨ 200 ≤ ((40 * x1) + x3).toNatClampNeg then none else
      if ((40 * x2) + x3) < 0 ∨ 200 ≤ ((40 * x2) + x3).toNatClampNeg then none else
      if ((40 * x1) + x3) < 0 ∨ 200 ≤ ((40 * x1) + x3).toNatClampNeg then none else
      if ((40 * x2) + x3) < 0 ∨ 200 ≤ ((40 * x2) + x3).toNatClampNeg then none else
      if ((40 * x1) + x3) < 0 ∨ 200 ≤ ((40 * x1) + x3).toNatClampNeg then none else
      if ((40 * x2) + x3) < 0 ∨ 200 ≤ ((40 * x2) + x3).toNatClampNeg then none else
      if ((40 * x1) + x3) < 0 ∨ 200 ≤ ((40 * x1) + x3).toNatClampNeg then none else
      f_Mo_put_197 nf n (x3 + 1) x1 x2 si sj (va_up (va_up (va_up (va_up (va_up sa 14 (upd (sa 14) ((40 * x1) + x3).toNatClampNeg (sa 14 ((40 * x2) + x3).toNatClampNeg))) 15 (upd (sa 15) ((40 * x1) + x3).toNatClampNeg (sa 15 ((40 * x2) + x3).toNatClampNeg))) 16 (upd (sa 16) ((40 * x1) + x3).toNatClampNeg (sa 16 ((40 * x2) + x3).toNatClampNeg))) 20 (upd (sa 20) ((40 * x1) + x3).toNatClampNeg (sa 20 ((40 * x2) + x3).toNatClampNeg))) 21 (upd (sa 21) ((40 * x1) + x3).toNatClampNeg (sa 21 ((40 * x2) + x3).toNatClampNeg))) (va_up (va_up sb 18 (vp_updL (sb 18) ((40 * x1) + x3).toNatClampNeg (sb 18 ((40 * x2) + x3).toNatClampNeg))) 19 (vp_updL (sb 19) ((40 * x1) + x3).toNatClampNeg (sb 19 ((40 * x2) + x3).toNatClampNeg)))
def f_Mo_put_110 (nf : Nat) : Nat → Int32 → Int32 → Int32 → (Nat → Int32) → (Nat → Int64) → (Nat → Nat → Int32) → (Nat → Nat → Int64) → Option ((Nat → Int32) × (Nat → Int64) × (Nat → Nat → Int32) × (Nat → Nat → Int64))
  | 0, _, _, _, _, _, _, _ => none
  | n + 1, x3, x1, x2, si, sj, sa, sb =>
    if (200 : Int32) ≤ x3 then
    f_Mo_put_197 nf nf 0 x1 x2 si sj sa sb
    else
    if ((200 * x2) + x3) < 0 ∨ 1000 ≤ ((200 * x2) + x3).toNatClampNeg then none else
      if ((200 * x1) + x3) < 0 ∨ 1000 ≤ ((200 * x1) + x3).toNatClampNeg then none else
      if ((200 * x2) + x3) < 0 ∨ 1000 ≤ ((200 * x2) + x3).toNatClampNeg then none else
      if ((200 * x1) + x3) < 0 ∨ 1000 ≤ ((200 * x1) + x3).toNatClampNeg then none else
      if ((200 * x2) + x3) < 0 ∨ 1000 ≤ ((200 * x2) + x3).toNatClampNeg then none else
      if ((200 * x1) + x3) < 0 ∨ 1000 ≤ ((200 * x1) + x3).toNatClampNeg then none else
      f_Mo_put_110 nf n (x3 + 1) x1 x2 si sj (va_up (va_up sa 13 (upd (sa 13) ((200 * x1) + x3).toNatClampNeg (sa 13 ((200 * x2) + x3).toNatClampNeg))) 17 (upd (sa 17) ((200 * x1) + x3).toNatClampNeg (sa 17 ((200 * x2) + x3).toNatClampNeg))) (va_up sb 12 (vp_updL (sb 12) ((200 * x1) + x3).toNatClampNeg (sb 12 ((200 * x2) + x3).toNatClampNeg)))
def f_Mo_put_0 (nf : Nat) (x1 : Int32) (x2 : Int32) (si : Nat → Int32) (sj : Nat → Int64) (sa : Nat → Nat → Int32) (sb : Nat → Nat → Int64) : Option ((Nat → Int32) × (Nat → Int64) × (Nat → Nat → Int32) × (Nat → Nat → Int64)) :=
  if x2 < 0 ∨ 5 ≤ x2.toNatClampNeg then none else
  if x1 < 0 ∨ 5 ≤ x1.toNatClampNeg then none else
  if x2 < 0 ∨ 5 ≤ x2.toNatClampNeg then none else
  if x1 < 0 ∨ 5 ≤ x1.toNatClampNeg then none else
  if x2 < 0 ∨ 5 ≤ x2.toNatClampNeg then none else
  if x1 < 0 ∨ 5 ≤ x1.toNatClampNeg then none else
  if x2 < 0 ∨ 5 ≤ x2.toNatClampNeg then none else
  if x1 < 0 ∨ 5 ≤ x1.toNatClampNeg then none else
  if x2 < 0 ∨ 5 ≤ x2.toNatClampNeg then none else
  if x1 < 0 ∨ 5 ≤ x1.toNatClampNeg then none else
  if x2 < 0 ∨ 5 ≤ x2.toNatClampNeg then none else
  if x1 < 0 ∨ 5 ≤ x1.toNatClampNeg then none else
  if x2 < 0 ∨ 5 ≤ x2.toNatClampNeg then none else
  if x1 < 0 ∨ 5 ≤ x1.toNatClampNeg then none else
  if x2 < 0 ∨ 5 ≤ x2.toNatClampNeg then none else
  if x1 < 0 ∨ 5 ≤ x1.toNatClampNeg then none else
  if x2 < 0 ∨ 5 ≤ x2.toNatClampNeg then none else
  if x1 < 0 ∨ 5 ≤ x1.toNatClampNeg then none else
  f_Mo_put_110 nf nf 0 x1 x2 si sj (va_up (va_up (va_up (va_up (va_up (va_up (va_up (va_up (va_up sa 4 (upd (sa 4) x1.toNatClampNeg (sa 4 x2.toNatClampNeg))) 5 (upd (sa 5) x1.toNatClampNeg (sa 5 x2.toNatClampNeg))) 6 (upd (sa 6) x1.toNatClampNeg (sa 6 x2.toNatClampNeg))) 7 (upd (sa 7) x1.toNatClampNeg (sa 7 x2.toNatClampNeg))) 8 (upd (sa 8) x1.toNatClampNeg (sa 8 x2.toNatClampNeg))) 9 (upd (sa 9) x1.toNatClampNeg (sa 9 x2.toNatClampNeg))) 10 (upd (sa 10) x1.toNatClampNeg (sa 10 x2.toNatClampNeg))) 11 (upd (sa 11) x1.toNatClampNeg (sa 11 x2.toNatClampNeg))) 23 (upd (sa 23) x1.toNatClampNeg (sa 23 x2.toNatClampNeg))) sb
def f_Mo_put (nf : Nat) (p0 : Int32) (p1 : Int32) (si : Nat → Int32) (sj : Nat → Int64) (sa : Nat → Nat → Int32) (sb : Nat → Nat → Int64) : Option ((Nat → Int32) × (Nat → Int64) × (Nat → Nat → Int32) × (Nat → Nat → Int64)) :=
  f_Mo_put_0 nf p0 p1 si sj sa sb
section
variable {p : Program} {l : Launch} {e : Env} {R : Room} {s : State} {m : MethodId} {args : Array Value} {below : List Frame} {meth : Method} {c : Code} {Q : State → Prop} {dC : Nat → ClassId} {dI : Nat → Nat → Nat} {nf : Nat} {A : Nat → Prop} {h0 : Nat} {r : Nat → Nat} {cA : Nat → ClassId}
variable {vi : Nat → Int32} {vj : Nat → Int64} {va : Nat → Nat → Int32} {vb : Nat → Nat → Int64}
set_option maxHeartbeats 400000 in
set_option maxRecDepth 100000 in
theorem k_Mo_put_557 (C0 : Cx p s m meth c args R b_Mo_put "ZoneFilesModel" 4 none 0 0) (hST : ST A s s.heap) (hA : ∀ q, s.heap.size ≤ q → A q) (hK : va_K (dC, dI) classes (moT cA) s) (hE : ∀ (pc : Nat) (ls : Array Slot) (H : Heap) (locs : List Loc), decode b_Mo_put pc = .ok (.return_, 1) → va_P (dC, dI) classes (moW h0 r cA vi vj va vb) H → va_D A (moW h0 r cA vi vj va vb) → va_S A s.heap H locs → W p l e R s m args below meth c H locs 0 0 Q (F0 m pc ls [])) : ∀ (n : Nat) {x3 : Int32} {x1 : Int32} {x2 : Int32} {si : Nat → Int32} {sj : Nat → Int64} {sa : Nat → Nat → Int32} {sb : Nat → Nat → Int64}, f_Mo_put_557 nf n x3 x1 x2 si sj sa sb = some (vi, vj, va, vb) → ∀ {H : Heap} {locs : List Loc} {ls : Array Slot}, va_P (dC, dI) classes (moW h0 r cA si sj sa sb) H → va_D A (moW h0 r cA si sj sa sb) → va_S A s.heap H locs → lv_has ls 4 [(3, .int x3), (0, .ref h0), (1, .int x1), (2, .int x2)] → W p l e R s m args below meth c H locs 0 0 Q (F0 m 557 ls []) := by
  obtain ⟨hx, hb, hr, hml, hown, hts, hlocks, hRf, hRl⟩ := id C0
  intro n
  induction n with
  | zero =>
    intro x3 x1 x2 si sj sa sb hf
    exact absurd hf (by simp [f_Mo_put_557])
  | succ n ih =>
    intro x3 x1 x2 si sj sa sb hf H locs ls hP hD hS hl
    unfold f_Mo_put_557 at hf
    refine lv_iload_n hx hb d_Mo_put_557 rfl (lv_at hl 0 rfl) ?_
    refine lv_bipush (v := 20) hx hb d_Mo_put_558 (by decide) ?_
    refine lv_icmp_ge (tgt := 591) hx hb d_Mo_put_560 (by decide) (fun c_23 => ?_) (fun c_23 => ?_)
    · have hf := it_t c_23 hf
      cases rs hf
      exact hE _ _ _ _ d_Mo_put_591 hP hD hS
    · have hf := it_f c_23 hf
      refine lv_aload_n hx hb d_Mo_put_563 rfl (lv_at hl 1 rfl) ?_
      refine mg_26 hx hb hts hown hK hP d_Mo_put_564 ?_
      refine lv_bipush (v := 20) hx hb d_Mo_put_567 (by decide) ?_
      refine lv_iload_n hx hb d_Mo_put_569 rfl (lv_at hl 2 rfl) ?_
      refine lv_imul hx hb d_Mo_put_570 ?_
      refine lv_iload_n hx hb d_Mo_put_571 rfl (lv_at hl 0 rfl) ?_
      refine lv_iadd hx hb d_Mo_put_572 ?_
      refine lv_aload_n hx hb d_Mo_put_573 rfl (lv_at hl 1 rfl) ?_
      refine mg_26 hx hb hts hown hK hP d_Mo_put_574 ?_
      refine lv_bipush (v := 20) hx hb d_Mo_put_577 (by decide) ?_
      refine lv_iload_n hx hb d_Mo_put_579 rfl (lv_at hl 3 rfl) ?_
      refine lv_imul hx hb d_Mo_put_580 ?_
      refine lv_iload_n hx hb d_Mo_put_581 rfl (lv_at hl 0 rfl) ?_
      refine lv_iadd hx hb d_Mo_put_582 ?_
      obtain ⟨c_24, hf⟩ := it_n hf
      refine ma_26 (v := sa 26 ((20 * x2) + x3).toNatClampNeg) hx hb hK hP c_24 rfl d_Mo_put_583 ?_
      obtain ⟨c_25, hf⟩ := it_n hf
      refine mz_26 hx hb hK hP hD hS c_25 d_Mo_put_584 (fun H locs hP hD hS => ?_)
      refine lv_iinc (v := x3 + 1) (lv' := [(3, .int (x3 + 1)), (0, .ref h0), (1, .int x1), (2, .int x2)]) hx hb d_Mo_put_585 hl (k := 0) rfl rfl (by decide) rfl (fun ls hl => ?_)
      refine lv_goto (tgt := 557) hx hb d_Mo_put_588 (by decide) ?_
      exact ih hf hP hD hS (lv_sub hl [0, 1, 2, 3] rfl)
set_option maxHeartbeats 400000 in
set_option maxRecDepth 100000 in
theorem k_Mo_put_404 (C0 : Cx p s m meth c args R b_Mo_put "ZoneFilesModel" 4 none 0 0) (hST : ST A s s.heap) (hA : ∀ q, s.heap.size ≤ q → A q) (hK : va_K (dC, dI) classes (moT cA) s) (hE : ∀ (pc : Nat) (ls : Array Slot) (H : Heap) (locs : List Loc), decode b_Mo_put pc = .ok (.return_, 1) → va_P (dC, dI) classes (moW h0 r cA vi vj va vb) H → va_D A (moW h0 r cA vi vj va vb) → va_S A s.heap H locs → W p l e R s m args below meth c H locs 0 0 Q (F0 m pc ls [])) : ∀ (n : Nat) {x3 : Int32} {x1 : Int32} {x2 : Int32} {si : Nat → Int32} {sj : Nat → Int64} {sa : Nat → Nat → Int32} {sb : Nat → Nat → Int64}, f_Mo_put_404 nf n x3 x1 x2 si sj sa sb = some (vi, vj, va, vb) → ∀ {H : Heap} {locs : List Loc} {ls : Array Slot}, va_P (dC, dI) classes (moW h0 r cA si sj sa sb) H → va_D A (moW h0 r cA si sj sa sb) → va_S A s.heap H locs → lv_has ls 4 [(3, .int x3), (0, .ref h0), (1, .int x1), (2, .int x2)] → W p l e R s m args below meth c H locs 0 0 Q (F0 m 404 ls []) := by
  obtain ⟨hx, hb, hr, hml, hown, hts, hlocks, hRf, hRl⟩ := id C0
  intro n
  induction n with
  | zero =>
    intro x3 x1 x2 si sj sa sb hf
    exact absurd hf (by simp [f_Mo_put_404])
  | succ n ih =>
    intro x3 x1 x2 si sj sa sb hf H locs ls hP hD hS hl
    unfold f_Mo_put_404 at hf
    refine lv_iload_n hx hb d_Mo_put_404 rfl (lv_at hl 0 rfl) ?_
    refine lv_iconst (v := 2) hx hb d_Mo_put_405 (by decide) ?_
    refine lv_icmp_ge (tgt := 555) hx hb d_Mo_put_406 (by decide) (fun c_22 => ?_) (fun c_22 => ?_)
    · have hf := it_t c_22 hf
      refine lv_iconst (v := 0) hx hb d_Mo_put_555 (by decide) ?_
      refine lv_istore_n (lv' := [(3, .int 0), (0, .ref h0), (1, .int x1), (2, .int x2)]) hx hb d_Mo_put_556 rfl hl (by decide) rfl (fun ls hl => ?_)
      exact k_Mo_put_557 C0 hST hA hK hE nf hf hP hD hS (lv_sub hl [0, 1, 2, 3] rfl)
    · have hf := it_f c_22 hf
      refine lv_aload_n hx hb d_Mo_put_409 rfl (lv_at hl 1 rfl) ?_
      refine mg_24 hx hb hts hown hK hP d_Mo_put_410 ?_
      refine lv_iconst (v := 2) hx hb d_Mo_put_413 (by decide) ?_
      refine lv_iload_n hx hb d_Mo_put_414 rfl (lv_at hl 2 rfl) ?_
      refine lv_imul hx hb d_Mo_put_415 ?_
      refine lv_iload_n hx hb d_Mo_put_416 rfl (lv_at hl 0 rfl) ?_
      refine lv_iadd hx hb d_Mo_put_417 ?_
      refine lv_aload_n hx hb d_Mo_put_418 rfl (lv_at hl 1 rfl) ?_
      refine mg_24 hx hb hts hown hK hP d_Mo_put_419 ?_
      refine lv_iconst (v := 2) hx hb d_Mo_put_422 (by decide) ?_
      refine lv_iload_n hx hb d_Mo_put_423 rfl (lv_at hl 3 rfl) ?_
      refine lv_imul hx hb d_Mo_put_424 ?_
      refine lv_iload_n hx hb d_Mo_put_425 rfl (lv_at hl 0 rfl) ?_
      refine lv_iadd hx hb d_Mo_put_426 ?_
      obtain ⟨c_26, hf⟩ := it_n hf
      refine ma_24 (v := sa 24 ((2 * x2) + x3).toNatClampNeg) hx hb hK hP c_26 rfl d_Mo_put_427 ?_
      obtain ⟨c_27, hf⟩ := it_n hf
      refine mz_24 hx hb hK hP hD hS c_27 d_Mo_put_428 (fun H locs hP hD hS => ?_)
      refine lv_aload_n hx hb d_Mo_put_429 rfl (lv_at hl 1 rfl) ?_
      refine mg_25 hx hb hts hown hK hP d_Mo_put_430 ?_
      refine lv_iconst (v := 2) hx hb d_Mo_put_433 (by decide) ?_
      refine lv_iload_n hx hb d_Mo_put_434 rfl (lv_at hl 2 rfl) ?_
      refine lv_imul hx hb d_Mo_put_435 ?_
      refine lv_iload_n hx hb d_Mo_put_436 rfl (lv_at hl 0 rfl) ?_
      refine lv_iadd hx hb d_Mo_put_437 ?_
      refine lv_aload_n hx hb d_Mo_put_438 rfl (lv_at hl 1 rfl) ?_
      refine mg_25 hx hb hts hown hK hP d_Mo_put_439 ?_
      refine lv_iconst (v := 2) hx hb d_Mo_put_442 (by decide) ?_
      refine lv_iload_n hx hb d_Mo_put_443 rfl (lv_at hl 3 rfl) ?_
      refine lv_imul hx hb d_Mo_put_444 ?_
      refine lv_iload_n hx hb d_Mo_put_445 rfl (lv_at hl 0 rfl) ?_
      refine lv_iadd hx hb d_Mo_put_446 ?_
      obtain ⟨c_28, hf⟩ := it_n hf
      refine ma_25 (v := sa 25 ((2 * x2) + x3).toNatClampNeg) hx hb hK hP c_28 rfl d_Mo_put_447 ?_
      obtain ⟨c_29, hf⟩ := it_n hf
      refine mz_25 hx hb hK hP hD hS c_29 d_Mo_put_448 (fun H locs hP hD hS => ?_)
      refine lv_aload_n hx hb d_Mo_put_449 rfl (lv_at hl 1 rfl) ?_
      refine mg_27 hx hb hts hown hK hP d_Mo_put_450 ?_
      refine lv_iconst (v := 2) hx hb d_Mo_put_453 (by decide) ?_
      refine lv_iload_n hx hb d_Mo_put_454 rfl (lv_at hl 2 rfl) ?_
      refine lv_imul hx hb d_Mo_put_455 ?_
      refine lv_iload_n hx hb d_Mo_put_456 rfl (lv_at hl 0 rfl) ?_
      refine lv_iadd hx hb d_Mo_put_457 ?_
      refine lv_aload_n hx hb d_Mo_put_458 rfl (lv_at hl 1 rfl) ?_
      refine mg_27 hx hb hts hown hK hP d_Mo_put_459 ?_
      refine lv_iconst (v := 2) hx hb d_Mo_put_462 (by decide) ?_
      refine lv_iload_n hx hb d_Mo_put_463 rfl (lv_at hl 3 rfl) ?_
      refine lv_imul hx hb d_Mo_put_464 ?_
      refine lv_iload_n hx hb d_Mo_put_465 rfl (lv_at hl 0 rfl) ?_
      refine lv_iadd hx hb d_Mo_put_466 ?_
      obtain ⟨c_30, hf⟩ := it_n hf
      refine ma_27 (v := sa 27 ((2 * x2) + x3).toNatClampNeg) hx hb hK hP c_30 rfl d_Mo_put_467 ?_
      obtain ⟨c_31, hf⟩ := it_n hf
      refine mz_27 hx hb hK hP hD hS c_31 d_Mo_put_468 (fun H locs hP hD hS => ?_)
      refine lv_aload_n hx hb d_Mo_put_469 rfl (lv_at hl 1 rfl) ?_
      refine mg_28 hx hb hts hown hK hP d_Mo_put_470 ?_
      refine lv_iconst (v := 2) hx hb d_Mo_put_473 (by decide) ?_
      refine lv_iload_n hx hb d_Mo_put_474 rfl (lv_at hl 2 rfl) ?_
      refine lv_imul hx hb d_Mo_put_475 ?_
      refine lv_iload_n hx hb d_Mo_put_476 rfl (lv_at hl 0 rfl) ?_
      refine lv_iadd hx hb d_Mo_put_477 ?_
      refine lv_aload_n hx hb d_Mo_put_478 rfl (lv_at hl 1 rfl) ?_
      refine mg_28 hx hb hts hown hK hP d_Mo_put_479 ?_
      refine lv_iconst (v := 2) hx hb d_Mo_put_482 (by decide) ?_
      refine lv_iload_n hx hb d_Mo_put_483 rfl (lv_at hl 3 rfl) ?_
      refine lv_imul hx hb d_Mo_put_484 ?_
      refine lv_iload_n hx hb d_Mo_put_485 rfl (lv_at hl 0 rfl) ?_
      refine lv_iadd hx hb d_Mo_put_486 ?_
      obtain ⟨c_32, hf⟩ := it_n hf
      refine ma_28 (v := sa 28 ((2 * x2) + x3).toNatClampNeg) hx hb hK hP c_32 rfl d_Mo_put_487 ?_
      obtain ⟨c_33, hf⟩ := it_n hf
      refine mz_28 hx hb hK hP hD hS c_33 d_Mo_put_488 (fun H locs hP hD hS => ?_)
      refine lv_aload_n hx hb d_Mo_put_489 rfl (lv_at hl 1 rfl) ?_
      refine mg_29 hx hb hts hown hK hP d_Mo_put_490 ?_
      refine lv_iconst (v := 2) hx hb d_Mo_put_493 (by decide) ?_
      refine lv_iload_n hx hb d_Mo_put_494 rfl (lv_at hl 2 rfl) ?_
      refine lv_imul hx hb d_Mo_put_495 ?_
      refine lv_iload_n hx hb d_Mo_put_496 rfl (lv_at hl 0 rfl) ?_
      refine lv_iadd hx hb d_Mo_put_497 ?_
      refine lv_aload_n hx hb d_Mo_put_498 rfl (lv_at hl 1 rfl) ?_
      refine mg_29 hx hb hts hown hK hP d_Mo_put_499 ?_
      refine lv_iconst (v := 2) hx hb d_Mo_put_502 (by decide) ?_
      refine lv_iload_n hx hb d_Mo_put_503 rfl (lv_at hl 3 rfl) ?_
      refine lv_imul hx hb d_Mo_put_504 ?_
      refine lv_iload_n hx hb d_Mo_put_505 rfl (lv_at hl 0 rfl) ?_
      refine lv_iadd hx hb d_Mo_put_506 ?_
      obtain ⟨c_34, hf⟩ := it_n hf
      refine ma_29 (v := sa 29 ((2 * x2) + x3).toNatClampNeg) hx hb hK hP c_34 rfl d_Mo_put_507 ?_
      obtain ⟨c_35, hf⟩ := it_n hf
      refine mz_29 hx hb hK hP hD hS c_35 d_Mo_put_508 (fun H locs hP hD hS => ?_)
      refine lv_aload_n hx hb d_Mo_put_509 rfl (lv_at hl 1 rfl) ?_
      refine mg_30 hx hb hts hown hK hP d_Mo_put_510 ?_
      refine lv_iconst (v := 2) hx hb d_Mo_put_513 (by decide) ?_
      refine lv_iload_n hx hb d_Mo_put_514 rfl (lv_at hl 2 rfl) ?_
      refine lv_imul hx hb d_Mo_put_515 ?_
      refine lv_iload_n hx hb d_Mo_put_516 rfl (lv_at hl 0 rfl) ?_
      refine lv_iadd hx hb d_Mo_put_517 ?_
      refine lv_aload_n hx hb d_Mo_put_518 rfl (lv_at hl 1 rfl) ?_
      refine mg_30 hx hb hts hown hK hP d_Mo_put_519 ?_
      refine lv_iconst (v := 2) hx hb d_Mo_put_522 (by decide) ?_
      refine lv_iload_n hx hb d_Mo_put_523 rfl (lv_at hl 3 rfl) ?_
      refine lv_imul hx hb d_Mo_put_524 ?_
      refine lv_iload_n hx hb d_Mo_put_525 rfl (lv_at hl 0 rfl) ?_
      refine lv_iadd hx hb d_Mo_put_526 ?_
      obtain ⟨c_36, hf⟩ := it_n hf
      refine ma_30 (v := sa 30 ((2 * x2) + x3).toNatClampNeg) hx hb hK hP c_36 rfl d_Mo_put_527 ?_
      obtain ⟨c_37, hf⟩ := it_n hf
      refine mz_30 hx hb hK hP hD hS c_37 d_Mo_put_528 (fun H locs hP hD hS => ?_)
      refine lv_aload_n hx hb d_Mo_put_529 rfl (lv_at hl 1 rfl) ?_
      refine mg_31 hx hb hts hown hK hP d_Mo_put_530 ?_
      refine lv_iconst (v := 2) hx hb d_Mo_put_533 (by decide) ?_
      refine lv_iload_n hx hb d_Mo_put_534 rfl (lv_at hl 2 rfl) ?_
      refine lv_imul hx hb d_Mo_put_535 ?_
      refine lv_iload_n hx hb d_Mo_put_536 rfl (lv_at hl 0 rfl) ?_
      refine lv_iadd hx hb d_Mo_put_537 ?_
      refine lv_aload_n hx hb d_Mo_put_538 rfl (lv_at hl 1 rfl) ?_
      refine mg_31 hx hb hts hown hK hP d_Mo_put_539 ?_
      refine lv_iconst (v := 2) hx hb d_Mo_put_542 (by decide) ?_
      refine lv_iload_n hx hb d_Mo_put_543 rfl (lv_at hl 3 rfl) ?_
      refine lv_imul hx hb d_Mo_put_544 ?_
      refine lv_iload_n hx hb d_Mo_put_545 rfl (lv_at hl 0 rfl) ?_
      refine lv_iadd hx hb d_Mo_put_546 ?_
      obtain ⟨c_38, hf⟩ := it_n hf
      refine ma_31 (v := sa 31 ((2 * x2) + x3).toNatClampNeg) hx hb hK hP c_38 rfl d_Mo_put_547 ?_
      obtain ⟨c_39, hf⟩ := it_n hf
      refine mz_31 hx hb hK hP hD hS c_39 d_Mo_put_548 (fun H locs hP hD hS => ?_)
      refine lv_iinc (v := x3 + 1) (lv' := [(3, .int (x3 + 1)), (0, .ref h0), (1, .int x1), (2, .int x2)]) hx hb d_Mo_put_549 hl (k := 0) rfl rfl (by decide) rfl (fun ls hl => ?_)
      refine lv_goto (tgt := 404) hx hb d_Mo_put_552 (by decide) ?_
      exact ih hf hP hD hS (lv_sub hl [0, 1, 2, 3] rfl)
set_option maxHeartbeats 400000 in
set_option maxRecDepth 100000 in
theorem k_Mo_put_365 (C0 : Cx p s m meth c args R b_Mo_put "ZoneFilesModel" 4 none 0 0) (hST : ST A s s.heap) (hA : ∀ q, s.heap.size ≤ q → A q) (hK : va_K (dC, dI) classes (moT cA) s) (hE : ∀ (pc : Nat) (ls : Array Slot) (H : Heap) (locs : List Loc), decode b_Mo_put pc = .ok (.return_, 1) → va_P (dC, dI) classes (moW h0 r cA vi vj va vb) H → va_D A (moW h0 r cA vi vj va vb) → va_S A s.heap H locs → W p l e R s m args below meth c H locs 0 0 Q (F0 m pc ls [])) : ∀ (n : Nat) {x3 : Int32} {x1 : Int32} {x2 : Int32} {si : Nat → Int32} {sj : Nat → Int64} {sa : Nat → Nat → Int32} {sb : Nat → Nat → Int64}, f_Mo_put_365 nf n x3 x1 x2 si sj sa sb = some (vi, vj, va, vb) → ∀ {H : Heap} {locs : List Loc} {ls : Array Slot}, va_P (dC, dI) classes (moW h0 r cA si sj sa sb) H → va_D A (moW h0 r cA si sj sa sb) → va_S A s.heap H locs → lv_has ls 4 [(3, .int x3), (0, .ref h0), (1, .int x1), (2, .int x2)] → W p l e R s m args below meth c H locs 0 0 Q (F0 m 365 ls []) := by
  obtain ⟨hx, hb, hr, hml, hown, hts, hlocks, hRf, hRl⟩ := id C0
  intro n
  induction n with
  | zero =>
    intro x3 x1 x2 si sj sa sb hf
    exact absurd hf (by simp [f_Mo_put_365])
  | succ n ih =>
    intro x3 x1 x2 si sj sa sb hf H locs ls hP hD hS hl
    unfold f_Mo_put_365 at hf
    refine lv_iload_n hx hb d_Mo_put_365 rfl (lv_at hl 0 rfl) ?_
    refine lv_sipush (v := 128) hx hb d_Mo_put_366 (by decide) ?_
    refine lv_icmp_ge (tgt := 402) hx hb d_Mo_put_369 (by decide) (fun c_21 => ?_) (fun c_21 => ?_)
    · have hf := it_t c_21 hf
      refine lv_iconst (v := 0) hx hb d_Mo_put_402 (by decide) ?_
      refine lv_istore_n (lv' := [(3, .int 0), (0, .ref h0), (1, .int x1), (2, .int x2)]) hx hb d_Mo_put_403 rfl hl (by decide) rfl (fun ls hl => ?_)
      exact k_Mo_put_404 C0 hST hA hK hE nf hf hP hD hS (lv_sub hl [0, 1, 2, 3] rfl)
    · have hf := it_f c_21 hf
      refine lv_aload_n hx hb d_Mo_put_372 rfl (lv_at hl 1 rfl) ?_
      refine mg_22 hx hb hts hown hK hP d_Mo_put_373 ?_
      refine lv_sipush (v := 128) hx hb d_Mo_put_376 (by decide) ?_
      refine lv_iload_n hx hb d_Mo_put_379 rfl (lv_at hl 2 rfl) ?_
      refine lv_imul hx hb d_Mo_put_380 ?_
      refine lv_iload_n hx hb d_Mo_put_381 rfl (lv_at hl 0 rfl) ?_
      refine lv_iadd hx hb d_Mo_put_382 ?_
      refine lv_aload_n hx hb d_Mo_put_383 rfl (lv_at hl 1 rfl) ?_
      refine mg_22 hx hb hts hown hK hP d_Mo_put_384 ?_
      refine lv_sipush (v := 128) hx hb d_Mo_put_387 (by decide) ?_
      refine lv_iload_n hx hb d_Mo_put_390 rfl (lv_at hl 3 rfl) ?_
      refine lv_imul hx hb d_Mo_put_391 ?_
      refine lv_iload_n hx hb d_Mo_put_392 rfl (lv_at hl 0 rfl) ?_
      refine lv_iadd hx hb d_Mo_put_393 ?_
      obtain ⟨c_40, hf⟩ := it_n hf
      refine ma_22 (v := sa 22 ((128 * x2) + x3).toNatClampNeg) hx hb hK hP c_40 rfl d_Mo_put_394 ?_
      obtain ⟨c_41, hf⟩ := it_n hf
      refine mz_22 hx hb hK hP hD hS c_41 d_Mo_put_395 (fun H locs hP hD hS => ?_)
      refine lv_iinc (v := x3 + 1) (lv' := [(3, .int (x3 + 1)), (0, .ref h0), (1, .int x1), (2, .int x2)]) hx hb d_Mo_put_396 hl (k := 0) rfl rfl (by decide) rfl (fun ls hl => ?_)
      refine lv_goto (tgt := 365) hx hb d_Mo_put_399 (by decide) ?_
      exact ih hf hP hD hS (lv_sub hl [0, 1, 2, 3] rfl)
set_option maxHeartbeats 400000 in
set_option maxRecDepth 100000 in
theorem k_Mo_put_197 (C0 : Cx p s m meth c args R b_Mo_put "ZoneFilesModel" 4 none 0 0) (hST : ST A s s.heap) (hA : ∀ q, s.heap.size ≤ q → A q) (hK : va_K (dC, dI) classes (moT cA) s) (hE : ∀ (pc : Nat) (ls : Array Slot) (H : Heap) (locs : List Loc), decode b_Mo_put pc = .ok (.return_, 1) → va_P (dC, dI) classes (moW h0 r cA vi vj va vb) H → va_D A (moW h0 r cA vi vj va vb) → va_S A s.heap H locs → W p l e R s m args below meth c H locs 0 0 Q (F0 m pc ls [])) : ∀ (n : Nat) {x3 : Int32} {x1 : Int32} {x2 : Int32} {si : Nat → Int32} {sj : Nat → Int64} {sa : Nat → Nat → Int32} {sb : Nat → Nat → Int64}, f_Mo_put_197 nf n x3 x1 x2 si sj sa sb = some (vi, vj, va, vb) → ∀ {H : Heap} {locs : List Loc} {ls : Array Slot}, va_P (dC, dI) classes (moW h0 r cA si sj sa sb) H → va_D A (moW h0 r cA si sj sa sb) → va_S A s.heap H locs → lv_has ls 4 [(3, .int x3), (0, .ref h0), (1, .int x1), (2, .int x2)] → W p l e R s m args below meth c H locs 0 0 Q (F0 m 197 ls []) := by
  obtain ⟨hx, hb, hr, hml, hown, hts, hlocks, hRf, hRl⟩ := id C0
  intro n
  induction n with
  | zero =>
    intro x3 x1 x2 si sj sa sb hf
    exact absurd hf (by simp [f_Mo_put_197])
  | succ n ih =>
    intro x3 x1 x2 si sj sa sb hf H locs ls hP hD hS hl
    unfold f_Mo_put_197 at hf
    refine lv_iload_n hx hb d_Mo_put_197 rfl (lv_at hl 0 rfl) ?_
    refine lv_bipush (v := 40) hx hb d_Mo_put_198 (by decide) ?_
    refine lv_icmp_ge (tgt := 363) hx hb d_Mo_put_200 (by decide) (fun c_20 => ?_) (fun c_20 => ?_)
    · have hf := it_t c_20 hf
      refine lv_iconst (v := 0) hx hb d_Mo_put_363 (by decide) ?_
      refine lv_istore_n (lv' := [(3, .int 0), (0, .ref h0), (1, .int x1), (2, .int x2)]) hx hb d_Mo_put_364 rfl hl (by decide) rfl (fun ls hl => ?_)
      exact k_Mo_put_365 C0 hST hA hK hE nf hf hP hD hS (lv_sub hl [0, 1, 2, 3] rfl)
    · have hf := it_f c_20 hf
      refine lv_aload_n hx hb d_Mo_put_203 rfl (lv_at hl 1 rfl) ?_
      refine mg_14 hx hb hts hown hK hP d_Mo_put_204 ?_
      refine lv_bipush (v := 40) hx hb d_Mo_put_207 (by decide) ?_
      refine lv_iload_n hx hb d_Mo_put_209 rfl (lv_at hl 2 rfl) ?_
      refine lv_imul hx hb d_Mo_put_210 ?_
      refine lv_iload_n hx hb d_Mo_put_211 rfl (lv_at hl 0 rfl) ?_
      refine lv_iadd hx hb d_Mo_put_212 ?_
      refine lv_aload_n hx hb d_Mo_put_213 rfl (lv_at hl 1 rfl) ?_
      refine mg_14 hx hb hts hown hK hP d_Mo_put_214 ?_
      refine lv_bipush (v := 40) hx hb d_Mo_put_217 (by decide) ?_
      refine lv_iload_n hx hb d_Mo_put_219 rfl (lv_at hl 3 rfl) ?_
      refine lv_imul hx hb d_Mo_put_220 ?_
      refine lv_iload_n hx hb d_Mo_put_221 rfl (lv_at hl 0 rfl) ?_
      refine lv_iadd hx hb d_Mo_put_222 ?_
      obtain ⟨c_42, hf⟩ := it_n hf
      refine ma_14 (v := sa 14 ((40 * x2) + x3).toNatClampNeg) hx hb hK hP c_42 rfl d_Mo_put_223 ?_
      obtain ⟨c_43, hf⟩ := it_n hf
      refine mz_14 hx hb hK hP hD hS c_43 d_Mo_put_224 (fun H locs hP hD hS => ?_)
      refine lv_aload_n hx hb d_Mo_put_225 rfl (lv_at hl 1 rfl) ?_
      refine mg_15 hx hb hts hown hK hP d_Mo_put_226 ?_
      refine lv_bipush (v := 40) hx hb d_Mo_put_229 (by decide) ?_
      refine lv_iload_n hx hb d_Mo_put_231 rfl (lv_at hl 2 rfl) ?_
      refine lv_imul hx hb d_Mo_put_232 ?_
      refine lv_iload_n hx hb d_Mo_put_233 rfl (lv_at hl 0 rfl) ?_
      refine lv_iadd hx hb d_Mo_put_234 ?_
      refine lv_aload_n hx hb d_Mo_put_235 rfl (lv_at hl 1 rfl) ?_
      refine mg_15 hx hb hts hown hK hP d_Mo_put_236 ?_
      refine lv_bipush (v := 40) hx hb d_Mo_put_239 (by decide) ?_
      refine lv_iload_n hx hb d_Mo_put_241 rfl (lv_at hl 3 rfl) ?_
      refine lv_imul hx hb d_Mo_put_242 ?_
      refine lv_iload_n hx hb d_Mo_put_243 rfl (lv_at hl 0 rfl) ?_
      refine lv_iadd hx hb d_Mo_put_244 ?_
      obtain ⟨c_44, hf⟩ := it_n hf
      refine ma_15 (v := sa 15 ((40 * x2) + x3).toNatClampNeg) hx hb hK hP c_44 rfl d_Mo_put_245 ?_
      obtain ⟨c_45, hf⟩ := it_n hf
      refine mz_15 hx hb hK hP hD hS c_45 d_Mo_put_246 (fun H locs hP hD hS => ?_)
      refine lv_aload_n hx hb d_Mo_put_247 rfl (lv_at hl 1 rfl) ?_
      refine mg_16 hx hb hts hown hK hP d_Mo_put_248 ?_
      refine lv_bipush (v := 40) hx hb d_Mo_put_251 (by decide) ?_
      refine lv_iload_n hx hb d_Mo_put_253 rfl (lv_at hl 2 rfl) ?_
      refine lv_imul hx hb d_Mo_put_254 ?_
      refine lv_iload_n hx hb d_Mo_put_255 rfl (lv_at hl 0 rfl) ?_
      refine lv_iadd hx hb d_Mo_put_256 ?_
      refine lv_aload_n hx hb d_Mo_put_257 rfl (lv_at hl 1 rfl) ?_
      refine mg_16 hx hb hts hown hK hP d_Mo_put_258 ?_
      refine lv_bipush (v := 40) hx hb d_Mo_put_261 (by decide) ?_
      refine lv_iload_n hx hb d_Mo_put_263 rfl (lv_at hl 3 rfl) ?_
      refine lv_imul hx hb d_Mo_put_264 ?_
      refine lv_iload_n hx hb d_Mo_put_265 rfl (lv_at hl 0 rfl) ?_
      refine lv_iadd hx hb d_Mo_put_266 ?_
      obtain ⟨c_46, hf⟩ := it_n hf
      refine ma_16 (v := sa 16 ((40 * x2) + x3).toNatClampNeg) hx hb hK hP c_46 rfl d_Mo_put_267 ?_
      obtain ⟨c_47, hf⟩ := it_n hf
      refine mz_16 hx hb hK hP hD hS c_47 d_Mo_put_268 (fun H locs hP hD hS => ?_)
      refine lv_aload_n hx hb d_Mo_put_269 rfl (lv_at hl 1 rfl) ?_
      refine mg_18 hx hb hts hown hK hP d_Mo_put_270 ?_
      refine lv_bipush (v := 40) hx hb d_Mo_put_273 (by decide) ?_
      refine lv_iload_n hx hb d_Mo_put_275 rfl (lv_at hl 2 rfl) ?_
      refine lv_imul hx hb d_Mo_put_276 ?_
      refine lv_iload_n hx hb d_Mo_put_277 rfl (lv_at hl 0 rfl) ?_
      refine lv_iadd hx hb d_Mo_put_278 ?_
      refine lv_aload_n hx hb d_Mo_put_279 rfl (lv_at hl 1 rfl) ?_
      refine mg_18 hx hb hts hown hK hP d_Mo_put_280 ?_
      refine lv_bipush (v := 40) hx hb d_Mo_put_283 (by decide) ?_
      refine lv_iload_n hx hb d_Mo_put_285 rfl (lv_at hl 3 rfl) ?_
      refine lv_imul hx hb d_Mo_put_286 ?_
      refine lv_iload_n hx hb d_Mo_put_287 rfl (lv_at hl 0 rfl) ?_
      refine lv_iadd hx hb d_Mo_put_288 ?_
      obtain ⟨c_48, hf⟩ := it_n hf
      refine ma_18 (v := sb 18 ((40 * x2) + x3).toNatClampNeg) hx hb hK hP c_48 rfl d_Mo_put_289 ?_
      obtain ⟨c_49, hf⟩ := it_n hf
      refine mz_18 hx hb hK hP hD hS c_49 d_Mo_put_290 (fun H locs hP hD hS => ?_)
      refine lv_aload_n hx hb d_Mo_put_291 rfl (lv_at hl 1 rfl) ?_
      refine mg_19 hx hb hts hown hK hP d_Mo_put_292 ?_
      refine lv_bipush (v := 40) hx hb d_Mo_put_295 (by decide) ?_
      refine lv_iload_n hx hb d_Mo_put_297 rfl (lv_at hl 2 rfl) ?_
      refine lv_imul hx hb d_Mo_put_298 ?_
      refine lv_iload_n hx hb d_Mo_put_299 rfl (lv_at hl 0 rfl) ?_
      refine lv_iadd hx hb d_Mo_put_300 ?_
      refine lv_aload_n hx hb d_Mo_put_301 rfl (lv_at hl 1 rfl) ?_
      refine mg_19 hx hb hts hown hK hP d_Mo_put_302 ?_
      refine lv_bipush (v := 40) hx hb d_Mo_put_305 (by decide) ?_
      refine lv_iload_n hx hb d_Mo_put_307 rfl (lv_at hl 3 rfl) ?_
      refine lv_imul hx hb d_Mo_put_308 ?_
      refine lv_iload_n hx hb d_Mo_put_309 rfl (lv_at hl 0 rfl) ?_
      refine lv_iadd hx hb d_Mo_put_310 ?_
      obtain ⟨c_50, hf⟩ := it_n hf
      refine ma_19 (v := sb 19 ((40 * x2) + x3).toNatClampNeg) hx hb hK hP c_50 rfl d_Mo_put_311 ?_
      obtain ⟨c_51, hf⟩ := it_n hf
      refine mz_19 hx hb hK hP hD hS c_51 d_Mo_put_312 (fun H locs hP hD hS => ?_)
      refine lv_aload_n hx hb d_Mo_put_313 rfl (lv_at hl 1 rfl) ?_
      refine mg_20 hx hb hts hown hK hP d_Mo_put_314 ?_
      refine lv_bipush (v := 40) hx hb d_Mo_put_317 (by decide) ?_
      refine lv_iload_n hx hb d_Mo_put_319 rfl (lv_at hl 2 rfl) ?_
      refine lv_imul hx hb d_Mo_put_320 ?_
      refine lv_iload_n hx hb d_Mo_put_321 rfl (lv_at hl 0 rfl) ?_
      refine lv_iadd hx hb d_Mo_put_322 ?_
      refine lv_aload_n hx hb d_Mo_put_323 rfl (lv_at hl 1 rfl) ?_
      refine mg_20 hx hb hts hown hK hP d_Mo_put_324 ?_
      refine lv_bipush (v := 40) hx hb d_Mo_put_327 (by decide) ?_
      refine lv_iload_n hx hb d_Mo_put_329 rfl (lv_at hl 3 rfl) ?_
      refine lv_imul hx hb d_Mo_put_330 ?_
      refine lv_iload_n hx hb d_Mo_put_331 rfl (lv_at hl 0 rfl) ?_
      refine lv_iadd hx hb d_Mo_put_332 ?_
      obtain ⟨c_52, hf⟩ := it_n hf
      refine ma_20 (v := sa 20 ((40 * x2) + x3).toNatClampNeg) hx hb hK hP c_52 rfl d_Mo_put_333 ?_
      obtain ⟨c_53, hf⟩ := it_n hf
      refine mz_20 hx hb hK hP hD hS c_53 d_Mo_put_334 (fun H locs hP hD hS => ?_)
      refine lv_aload_n hx hb d_Mo_put_335 rfl (lv_at hl 1 rfl) ?_
      refine mg_21 hx hb hts hown hK hP d_Mo_put_336 ?_
      refine lv_bipush (v := 40) hx hb d_Mo_put_339 (by decide) ?_
      refine lv_iload_n hx hb d_Mo_put_341 rfl (lv_at hl 2 rfl) ?_
      refine lv_imul hx hb d_Mo_put_342 ?_
      refine lv_iload_n hx hb d_Mo_put_343 rfl (lv_at hl 0 rfl) ?_
      refine lv_iadd hx hb d_Mo_put_344 ?_
      refine lv_aload_n hx hb d_Mo_put_345 rfl (lv_at hl 1 rfl) ?_
      refine mg_21 hx hb hts hown hK hP d_Mo_put_346 ?_
      refine lv_bipush (v := 40) hx hb d_Mo_put_349 (by decide) ?_
      refine lv_iload_n hx hb d_Mo_put_351 rfl (lv_at hl 3 rfl) ?_
      refine lv_imul hx hb d_Mo_put_352 ?_
      refine lv_iload_n hx hb d_Mo_put_353 rfl (lv_at hl 0 rfl) ?_
      refine lv_iadd hx hb d_Mo_put_354 ?_
      obtain ⟨c_54, hf⟩ := it_n hf
      refine ma_21 (v := sa 21 ((40 * x2) + x3).toNatClampNeg) hx hb hK hP c_54 rfl d_Mo_put_355 ?_
      obtain ⟨c_55, hf⟩ := it_n hf
      refine mz_21 hx hb hK hP hD hS c_55 d_Mo_put_356 (fun H locs hP hD hS => ?_)
      refine lv_iinc (v := x3 + 1) (lv' := [(3, .int (x3 + 1)), (0, .ref h0), (1, .int x1), (2, .int x2)]) hx hb d_Mo_put_357 hl (k := 0) rfl rfl (by decide) rfl (fun ls hl => ?_)
      refine lv_goto (tgt := 197) hx hb d_Mo_put_360 (by decide) ?_
      exact ih hf hP hD hS (lv_sub hl [0, 1, 2, 3] rfl)
set_option maxHeartbeats 400000 in
set_option maxRecDepth 100000 in
theorem k_Mo_put_110 (C0 : Cx p s m meth c args R b_Mo_put "ZoneFilesModel" 4 none 0 0) (hST : ST A s s.heap) (hA : ∀ q, s.heap.size ≤ q → A q) (hK : va_K (dC, dI) classes (moT cA) s) (hE : ∀ (pc : Nat) (ls : Array Slot) (H : Heap) (locs : List Loc), decode b_Mo_put pc = .ok (.return_, 1) → va_P (dC, dI) classes (moW h0 r cA vi vj va vb) H → va_D A (moW h0 r cA vi vj va vb) → va_S A s.heap H locs → W p l e R s m args below meth c H locs 0 0 Q (F0 m pc ls [])) : ∀ (n : Nat) {x3 : Int32} {x1 : Int32} {x2 : Int32} {si : Nat → Int32} {sj : Nat → Int64} {sa : Nat → Nat → Int32} {sb : Nat → Nat → Int64}, f_Mo_put_110 nf n x3 x1 x2 si sj sa sb = some (vi, vj, va, vb) → ∀ {H : Heap} {locs : List Loc} {ls : Array Slot}, va_P (dC, dI) classes (moW h0 r cA si sj sa sb) H → va_D A (moW h0 r cA si sj sa sb) → va_S A s.heap H locs → lv_has ls 4 [(3, .int x3), (0, .ref h0), (1, .int x1), (2, .int x2)] → W p l e R s m args below meth c H locs 0 0 Q (F0 m 110 ls []) := by
  obtain ⟨hx, hb, hr, hml, hown, hts, hlocks, hRf, hRl⟩ := id C0
  intro n
  induction n with
  | zero =>
    intro x3 x1 x2 si sj sa sb hf
    exact absurd hf (by simp [f_Mo_put_110])
  | succ n ih =>
    intro x3 x1 x2 si sj sa sb hf H locs ls hP hD hS hl
    unfold f_Mo_put_110 at hf
    refine lv_iload_n hx hb d_Mo_put_110 rfl (lv_at hl 0 rfl) ?_
    refine lv_sipush (v := 200) hx hb d_Mo_put_111 (by decide) ?_
    refine lv_icmp_ge (tgt := 195) hx hb d_Mo_put_114 (by decide) (fun c_19 => ?_) (fun c_19 => ?_)
    · have hf := it_t c_19 hf
      refine lv_iconst (v := 0) hx hb d_Mo_put_195 (by decide) ?_
      refine lv_istore_n (lv' := [(3, .int 0), (0, .ref h0), (1, .int x1), (2, .int x2)]) hx hb d_Mo_put_196 rfl hl (by decide) rfl (fun ls hl => ?_)
      exact k_Mo_put_197 C0 hST hA hK hE nf hf hP hD hS (lv_sub hl [0, 1, 2, 3] rfl)
    · have hf := it_f c_19 hf
      refine lv_aload_n hx hb d_Mo_put_117 rfl (lv_at hl 1 rfl) ?_
      refine mg_12 hx hb hts hown hK hP d_Mo_put_118 ?_
      refine lv_sipush (v := 200) hx hb d_Mo_put_121 (by decide) ?_
      refine lv_iload_n hx hb d_Mo_put_124 rfl (lv_at hl 2 rfl) ?_
      refine lv_imul hx hb d_Mo_put_125 ?_
      refine lv_iload_n hx hb d_Mo_put_126 rfl (lv_at hl 0 rfl) ?_
      refine lv_iadd hx hb d_Mo_put_127 ?_
      refine lv_aload_n hx hb d_Mo_put_128 rfl (lv_at hl 1 rfl) ?_
      refine mg_12 hx hb hts hown hK hP d_Mo_put_129 ?_
      refine lv_sipush (v := 200) hx hb d_Mo_put_132 (by decide) ?_
      refine lv_iload_n hx hb d_Mo_put_135 rfl (lv_at hl 3 rfl) ?_
      refine lv_imul hx hb d_Mo_put_136 ?_
      refine lv_iload_n hx hb d_Mo_put_137 rfl (lv_at hl 0 rfl) ?_
      refine lv_iadd hx hb d_Mo_put_138 ?_
      obtain ⟨c_56, hf⟩ := it_n hf
      refine ma_12 (v := sb 12 ((200 * x2) + x3).toNatClampNeg) hx hb hK hP c_56 rfl d_Mo_put_139 ?_
      obtain ⟨c_57, hf⟩ := it_n hf
      refine mz_12 hx hb hK hP hD hS c_57 d_Mo_put_140 (fun H locs hP hD hS => ?_)
      refine lv_aload_n hx hb d_Mo_put_141 rfl (lv_at hl 1 rfl) ?_
      refine mg_13 hx hb hts hown hK hP d_Mo_put_142 ?_
      refine lv_sipush (v := 200) hx hb d_Mo_put_145 (by decide) ?_
      refine lv_iload_n hx hb d_Mo_put_148 rfl (lv_at hl 2 rfl) ?_
      refine lv_imul hx hb d_Mo_put_149 ?_
      refine lv_iload_n hx hb d_Mo_put_150 rfl (lv_at hl 0 rfl) ?_
      refine lv_iadd hx hb d_Mo_put_151 ?_
      refine lv_aload_n hx hb d_Mo_put_152 rfl (lv_at hl 1 rfl) ?_
      refine mg_13 hx hb hts hown hK hP d_Mo_put_153 ?_
      refine lv_sipush (v := 200) hx hb d_Mo_put_156 (by decide) ?_
      refine lv_iload_n hx hb d_Mo_put_159 rfl (lv_at hl 3 rfl) ?_
      refine lv_imul hx hb d_Mo_put_160 ?_
      refine lv_iload_n hx hb d_Mo_put_161 rfl (lv_at hl 0 rfl) ?_
      refine lv_iadd hx hb d_Mo_put_162 ?_
      obtain ⟨c_58, hf⟩ := it_n hf
      refine ma_13 (v := sa 13 ((200 * x2) + x3).toNatClampNeg) hx hb hK hP c_58 rfl d_Mo_put_163 ?_
      obtain ⟨c_59, hf⟩ := it_n hf
      refine mz_13 hx hb hK hP hD hS c_59 d_Mo_put_164 (fun H locs hP hD hS => ?_)
      refine lv_aload_n hx hb d_Mo_put_165 rfl (lv_at hl 1 rfl) ?_
      refine mg_17 hx hb hts hown hK hP d_Mo_put_166 ?_
      refine lv_sipush (v := 200) hx hb d_Mo_put_169 (by decide) ?_
      refine lv_iload_n hx hb d_Mo_put_172 rfl (lv_at hl 2 rfl) ?_
      refine lv_imul hx hb d_Mo_put_173 ?_
      refine lv_iload_n hx hb d_Mo_put_174 rfl (lv_at hl 0 rfl) ?_
      refine lv_iadd hx hb d_Mo_put_175 ?_
      refine lv_aload_n hx hb d_Mo_put_176 rfl (lv_at hl 1 rfl) ?_
      refine mg_17 hx hb hts hown hK hP d_Mo_put_177 ?_
      refine lv_sipush (v := 200) hx hb d_Mo_put_180 (by decide) ?_
      refine lv_iload_n hx hb d_Mo_put_183 rfl (lv_at hl 3 rfl) ?_
      refine lv_imul hx hb d_Mo_put_184 ?_
      refine lv_iload_n hx hb d_Mo_put_185 rfl (lv_at hl 0 rfl) ?_
      refine lv_iadd hx hb d_Mo_put_186 ?_
      obtain ⟨c_60, hf⟩ := it_n hf
      refine ma_17 (v := sa 17 ((200 * x2) + x3).toNatClampNeg) hx hb hK hP c_60 rfl d_Mo_put_187 ?_
      obtain ⟨c_61, hf⟩ := it_n hf
      refine mz_17 hx hb hK hP hD hS c_61 d_Mo_put_188 (fun H locs hP hD hS => ?_)
      refine lv_iinc (v := x3 + 1) (lv' := [(3, .int (x3 + 1)), (0, .ref h0), (1, .int x1), (2, .int x2)]) hx hb d_Mo_put_189 hl (k := 0) rfl rfl (by decide) rfl (fun ls hl => ?_)
      refine lv_goto (tgt := 110) hx hb d_Mo_put_192 (by decide) ?_
      exact ih hf hP hD hS (lv_sub hl [0, 1, 2, 3] rfl)
set_option maxHeartbeats 400000 in
set_option maxRecDepth 100000 in
theorem k_Mo_put_0 (C0 : Cx p s m meth c args R b_Mo_put "ZoneFilesModel" 4 none 0 0) (hST : ST A s s.heap) (hA : ∀ q, s.heap.size ≤ q → A q) (hK : va_K (dC, dI) classes (moT cA) s) (hE : ∀ (pc : Nat) (ls : Array Slot) (H : Heap) (locs : List Loc), decode b_Mo_put pc = .ok (.return_, 1) → va_P (dC, dI) classes (moW h0 r cA vi vj va vb) H → va_D A (moW h0 r cA vi vj va vb) → va_S A s.heap H locs → W p l e R s m args below meth c H locs 0 0 Q (F0 m pc ls [])) {x1 : Int32} {x2 : Int32} {si : Nat → Int32} {sj : Nat → Int64} {sa : Nat → Nat → Int32} {sb : Nat → Nat → Int64} (hf : f_Mo_put_0 nf x1 x2 si sj sa sb = some (vi, vj, va, vb)) {H : Heap} {locs : List Loc} {ls : Array Slot} (hP : va_P (dC, dI) classes (moW h0 r cA si sj sa sb) H) (hD : va_D A (moW h0 r cA si sj sa sb)) (hS : va_S A s.heap H locs) (hl : lv_has ls 4 [(0, .ref h0), (1, .int x1), (2, .int x2)]) : W p l e R s m args below meth c H locs 0 0 Q (F0 m 0 ls []) := by
  obtain ⟨hx, hb, hr, hml, hown, hts, hlocks, hRf, hRl⟩ := id C0
  unfold f_Mo_put_0 at hf
  refine lv_aload_n hx hb d_Mo_put_0 rfl (lv_at hl 0 rfl) ?_
  refine mg_4 hx hb hts hown hK hP d_Mo_put_1 ?_
  refine lv_iload_n hx hb d_Mo_put_4 rfl (lv_at hl 1 rfl) ?_
  refine lv_aload_n hx hb d_Mo_put_5 rfl (lv_at hl 0 rfl) ?_
  refine mg_4 hx hb hts hown hK hP d_Mo_put_6 ?_
  refine lv_iload_n hx hb d_Mo_put_9 rfl (lv_at hl 2 rfl) ?_
  obtain ⟨c_1, hf⟩ := it_n hf
  refine ma_4 (v := sa 4 x2.toNatClampNeg) hx hb hK hP c_1 rfl d_Mo_put_10 ?_
  obtain ⟨c_2, hf⟩ := it_n hf
  refine mz_4 hx hb hK hP hD hS c_2 d_Mo_put_11 (fun H locs hP hD hS => ?_)
  refine lv_aload_n hx hb d_Mo_put_12 rfl (lv_at hl 0 rfl) ?_
  refine mg_5 hx hb hts hown hK hP d_Mo_put_13 ?_
  refine lv_iload_n hx hb d_Mo_put_16 rfl (lv_at hl 1 rfl) ?_
  refine lv_aload_n hx hb d_Mo_put_17 rfl (lv_at hl 0 rfl) ?_
  refine mg_5 hx hb hts hown hK hP d_Mo_put_18 ?_
  refine lv_iload_n hx hb d_Mo_put_21 rfl (lv_at hl 2 rfl) ?_
  obtain ⟨c_3, hf⟩ := it_n hf
  refine ma_5 (v := sa 5 x2.toNatClampNeg) hx hb hK hP c_3 rfl d_Mo_put_22 ?_
  obtain ⟨c_4, hf⟩ := it_n hf
  refine mz_5 hx hb hK hP hD hS c_4 d_Mo_put_23 (fun H locs hP hD hS => ?_)
  refine lv_aload_n hx hb d_Mo_put_24 rfl (lv_at hl 0 rfl) ?_
  refine mg_6 hx hb hts hown hK hP d_Mo_put_25 ?_
  refine lv_iload_n hx hb d_Mo_put_28 rfl (lv_at hl 1 rfl) ?_
  refine lv_aload_n hx hb d_Mo_put_29 rfl (lv_at hl 0 rfl) ?_
  refine mg_6 hx hb hts hown hK hP d_Mo_put_30 ?_
  refine lv_iload_n hx hb d_Mo_put_33 rfl (lv_at hl 2 rfl) ?_
  obtain ⟨c_5, hf⟩ := it_n hf
  refine ma_6 (v := sa 6 x2.toNatClampNeg) hx hb hK hP c_5 rfl d_Mo_put_34 ?_
  obtain ⟨c_6, hf⟩ := it_n hf
  refine mz_6 hx hb hK hP hD hS c_6 d_Mo_put_35 (fun H locs hP hD hS => ?_)
  refine lv_aload_n hx hb d_Mo_put_36 rfl (lv_at hl 0 rfl) ?_
  refine mg_7 hx hb hts hown hK hP d_Mo_put_37 ?_
  refine lv_iload_n hx hb d_Mo_put_40 rfl (lv_at hl 1 rfl) ?_
  refine lv_aload_n hx hb d_Mo_put_41 rfl (lv_at hl 0 rfl) ?_
  refine mg_7 hx hb hts hown hK hP d_Mo_put_42 ?_
  refine lv_iload_n hx hb d_Mo_put_45 rfl (lv_at hl 2 rfl) ?_
  obtain ⟨c_7, hf⟩ := it_n hf
  refine ma_7 (v := sa 7 x2.toNatClampNeg) hx hb hK hP c_7 rfl d_Mo_put_46 ?_
  obtain ⟨c_8, hf⟩ := it_n hf
  refine mz_7 hx hb hK hP hD hS c_8 d_Mo_put_47 (fun H locs hP hD hS => ?_)
  refine lv_aload_n hx hb d_Mo_put_48 rfl (lv_at hl 0 rfl) ?_
  refine mg_8 hx hb hts hown hK hP d_Mo_put_49 ?_
  refine lv_iload_n hx hb d_Mo_put_52 rfl (lv_at hl 1 rfl) ?_
  refine lv_aload_n hx hb d_Mo_put_53 rfl (lv_at hl 0 rfl) ?_
  refine mg_8 hx hb hts hown hK hP d_Mo_put_54 ?_
  refine lv_iload_n hx hb d_Mo_put_57 rfl (lv_at hl 2 rfl) ?_
  obtain ⟨c_9, hf⟩ := it_n hf
  refine ma_8 (v := sa 8 x2.toNatClampNeg) hx hb hK hP c_9 rfl d_Mo_put_58 ?_
  obtain ⟨c_10, hf⟩ := it_n hf
  refine mz_8 hx hb hK hP hD hS c_10 d_Mo_put_59 (fun H locs hP hD hS => ?_)
  refine lv_aload_n hx hb d_Mo_put_60 rfl (lv_at hl 0 rfl) ?_
  refine mg_9 hx hb hts hown hK hP d_Mo_put_61 ?_
  refine lv_iload_n hx hb d_Mo_put_64 rfl (lv_at hl 1 rfl) ?_
  refine lv_aload_n hx hb d_Mo_put_65 rfl (lv_at hl 0 rfl) ?_
  refine mg_9 hx hb hts hown hK hP d_Mo_put_66 ?_
  refine lv_iload_n hx hb d_Mo_put_69 rfl (lv_at hl 2 rfl) ?_
  obtain ⟨c_11, hf⟩ := it_n hf
  refine ma_9 (v := sa 9 x2.toNatClampNeg) hx hb hK hP c_11 rfl d_Mo_put_70 ?_
  obtain ⟨c_12, hf⟩ := it_n hf
  refine mz_9 hx hb hK hP hD hS c_12 d_Mo_put_71 (fun H locs hP hD hS => ?_)
  refine lv_aload_n hx hb d_Mo_put_72 rfl (lv_at hl 0 rfl) ?_
  refine mg_10 hx hb hts hown hK hP d_Mo_put_73 ?_
  refine lv_iload_n hx hb d_Mo_put_76 rfl (lv_at hl 1 rfl) ?_
  refine lv_aload_n hx hb d_Mo_put_77 rfl (lv_at hl 0 rfl) ?_
  refine mg_10 hx hb hts hown hK hP d_Mo_put_78 ?_
  refine lv_iload_n hx hb d_Mo_put_81 rfl (lv_at hl 2 rfl) ?_
  obtain ⟨c_13, hf⟩ := it_n hf
  refine ma_10 (v := sa 10 x2.toNatClampNeg) hx hb hK hP c_13 rfl d_Mo_put_82 ?_
  obtain ⟨c_14, hf⟩ := it_n hf
  refine mz_10 hx hb hK hP hD hS c_14 d_Mo_put_83 (fun H locs hP hD hS => ?_)
  refine lv_aload_n hx hb d_Mo_put_84 rfl (lv_at hl 0 rfl) ?_
  refine mg_11 hx hb hts hown hK hP d_Mo_put_85 ?_
  refine lv_iload_n hx hb d_Mo_put_88 rfl (lv_at hl 1 rfl) ?_
  refine lv_aload_n hx hb d_Mo_put_89 rfl (lv_at hl 0 rfl) ?_
  refine mg_11 hx hb hts hown hK hP d_Mo_put_90 ?_
  refine lv_iload_n hx hb d_Mo_put_93 rfl (lv_at hl 2 rfl) ?_
  obtain ⟨c_15, hf⟩ := it_n hf
  refine ma_11 (v := sa 11 x2.toNatClampNeg) hx hb hK hP c_15 rfl d_Mo_put_94 ?_
  obtain ⟨c_16, hf⟩ := it_n hf
  refine mz_11 hx hb hK hP hD hS c_16 d_Mo_put_95 (fun H locs hP hD hS => ?_)
  refine lv_aload_n hx hb d_Mo_put_96 rfl (lv_at hl 0 rfl) ?_
  refine mg_23 hx hb hts hown hK hP d_Mo_put_97 ?_
  refine lv_iload_n hx hb d_Mo_put_100 rfl (lv_at hl 1 rfl) ?_
  refine lv_aload_n hx hb d_Mo_put_101 rfl (lv_at hl 0 rfl) ?_
  refine mg_23 hx hb hts hown hK hP d_Mo_put_102 ?_
  refine lv_iload_n hx hb d_Mo_put_105 rfl (lv_at hl 2 rfl) ?_
  obtain ⟨c_17, hf⟩ := it_n hf
  refine ma_23 (v := sa 23 x2.toNatClampNeg) hx hb hK hP c_17 rfl d_Mo_put_106 ?_
  obtain ⟨c_18, hf⟩ := it_n hf
  refine mz_23 hx hb hK hP hD hS c_18 d_Mo_put_107 (fun H locs hP hD hS => ?_)
  refine lv_iconst (v := 0) hx hb d_Mo_put_108 (by decide) ?_
  refine lv_istore_n (lv' := [(3, .int 0), (0, .ref h0), (1, .int x1), (2, .int x2)]) hx hb d_Mo_put_109 rfl hl (by decide) rfl (fun ls hl => ?_)
  exact k_Mo_put_110 C0 hST hA hK hE nf hf hP hD hS (lv_sub hl [0, 1, 2, 3] rfl)
end
set_option maxHeartbeats 400000 in
set_option maxRecDepth 100000 in
theorem c_Mo_put (l : Launch) (dC : Nat → ClassId) (dI : Nat → Nat → Nat) (h0 : Nat) (r : Nat → Nat) (cA : Nat → ClassId) (sz : Nat) (nf : Nat) (p0 : Int32) (p1 : Int32) (si : Nat → Int32) (sj : Nat → Int64) (sa : Nat → Nat → Int32) (sb : Nat → Nat → Int64) {vi : Nat → Int32} {vj : Nat → Int64} {va : Nat → Nat → Int32} {vb : Nat → Nat → Int64} (hf : f_Mo_put nf p0 p1 si sj sa sb = some (vi, vj, va, vb)) : Met l y_Mo_put (wd y_Mo_put b_Mo_put 4 none) ({ frames := 0, cells := 0, slots := 0, locals := 0 }) (MU dC dI (moW h0 r cA si sj sa sb) (moT cA) sz [.ref h0, .int p0, .int p1]) (MV none (fun t => va_P (dC, dI) classes (moW h0 r cA vi vj va vb) t.heap) (va_A (moW h0 r cA si sj sa sb) sz)) 0 0 (va_A (moW h0 r cA si sj sa sb) sz) :=
  met_M (plainFor_of_name (by decide)) (Nat.le_of_ble_eq_true rfl) (fun p e R s m args below meth c ls hRc hRs hsz hin C0 hST hK hP hD hl => by
    obtain ⟨hx, hb, hr, hml, hown, hts, hlocks, hRf, hRl⟩ := id C0
    subst hsz
    have hA : ∀ q : Nat, s.heap.size ≤ q → va_A (moW h0 r cA si sj sa sb) s.heap.size q := fun q h => Or.inr h
    have hS : va_S (va_A (moW h0 r cA si sj sa sb) s.heap.size) s.heap s.heap [] := va_S.rf
    unfold f_Mo_put at hf
    exact k_Mo_put_0 C0 hST hA hK (fun pc ls H locs hd hP hD hS => W.vret hx hb hr (fun t ht hW => ⟨⟨rfl, mo_end ht hP⟩, hS.F ht⟩) hS.2.2 hd) hf hP hD hS (lv_sub hl [0, 1, 2] rfl))
-- ZoneFilesModel.look()I
def f_Mo_look_24 (nf : Nat) (s0 : Int32) : Option (Int32) :=
  some s0
def f_Mo_look_0 (nf : Nat) (si : Nat → Int32) (sa : Nat → Nat → Int32) : Option (Int32) :=
  if (si 33) ≤ (si 32) then
  f_Mo_look_24 nf (-1)
  else
  if (si 32) < 0 ∨ 6000 ≤ (si 32).toNatClampNeg then none else
    f_Mo_look_24 nf (sa 0 (si 32).toNatClampNeg)
def f_Mo_look (nf : Nat) (si : Nat → Int32) (sj : Nat → Int64) (sa : Nat → Nat → Int32) (sb : Nat → Nat → Int64) : Option (Int32) :=
  f_Mo_look_0 nf si sa
section
variable {p : Program} {l : Launch} {e : Env} {R : Room} {s : State} {m : MethodId} {args : Array Value} {below : List Frame} {meth : Method} {c : Code} {Q : State → Prop} {dC : Nat → ClassId} {dI : Nat → Nat → Nat} {nf : Nat} {A : Nat → Prop} {h0 : Nat} {r : Nat → Nat} {cA : Nat → ClassId}
variable {si : Nat → Int32} {sj : Nat → Int64} {sa : Nat → Nat → Int32} {sb : Nat → Nat → Int64} {r0 : Int32}
set_option maxHeartbeats 400000 in
set_option maxRecDepth 100000 in
theorem k_Mo_look_24 (C0 : Cx p s m meth c args R b_Mo_look "ZoneFilesModel" 1 (some .int) 0 0) (hST : ST (fun _ => False) s s.heap) (hK : va_K (dC, dI) classes (moT cA) s) (hP : va_P (dC, dI) classes (moW h0 r cA si sj sa sb) s.heap) (hE : ∀ (pc : Nat) (ls : Array Slot), decode b_Mo_look pc = .ok (.ireturn, 1) → narrow .int (.int r0) = .int r0 → W p l e R s m args below meth c s.heap [] 0 0 Q (F0 m pc ls [.int r0])) {s0 : Int32} (hf : f_Mo_look_24 nf s0 = some r0) {ls : Array Slot} (hl : lv_has ls 1 []) : W p l e R s m args below meth c s.heap [] 0 0 Q (F0 m 24 ls [.int s0]) := by
  obtain ⟨hx, hb, hr, hml, hown, hts, hlocks, hRf, hRl⟩ := id C0
  obtain ⟨tms, hZms, hTms, tmg, hZmg, hTmg, hNW⟩ := id hST
  unfold f_Mo_look_24 at hf
  cases rs hf
  exact hE _ _ d_Mo_look_24 rfl
set_option maxHeartbeats 400000 in
set_option maxRecDepth 100000 in
theorem k_Mo_look_0 (C0 : Cx p s m meth c args R b_Mo_look "ZoneFilesModel" 1 (some .int) 0 0) (hST : ST (fun _ => False) s s.heap) (hK : va_K (dC, dI) classes (moT cA) s) (hP : va_P (dC, dI) classes (moW h0 r cA si sj sa sb) s.heap) (hE : ∀ (pc : Nat) (ls : Array Slot), decode b_Mo_look pc = .ok (.ireturn, 1) → narrow .int (.int r0) = .int r0 → W p l e R s m args below meth c s.heap [] 0 0 Q (F0 m pc ls [.int r0])) (hf : f_Mo_look_0 nf si sa = some r0) {ls : Array Slot} (hl : lv_has ls 1 [(0, .ref h0)]) : W p l e R s m args below meth c s.heap [] 0 0 Q (F0 m 0 ls []) := by
  obtain ⟨hx, hb, hr, hml, hown, hts, hlocks, hRf, hRl⟩ := id C0
  obtain ⟨tms, hZms, hTms, tmg, hZmg, hTmg, hNW⟩ := id hST
  unfold f_Mo_look_0 at hf
  refine lv_aload_n hx hb d_Mo_look_0 rfl (lv_at hl 0 rfl) ?_
  refine mg_32 (v := si 32) hx hb hts hown hK hP rfl d_Mo_look_1 ?_
  refine lv_aload_n hx hb d_Mo_look_4 rfl (lv_at hl 0 rfl) ?_
  refine mg_33 (v := si 33) hx hb hts hown hK hP rfl d_Mo_look_5 ?_
  refine lv_icmp_ge (tgt := 23) hx hb d_Mo_look_8 (by decide) (fun c_1 => ?_) (fun c_1 => ?_)
  · have hf := it_t c_1 hf
    refine lv_iconst (v := -1) hx hb d_Mo_look_23 (by decide) ?_
    exact k_Mo_look_24 C0 hST hK hP hE hf (lv_sub hl [] rfl)
  · have hf := it_f c_1 hf
    refine lv_aload_n hx hb d_Mo_look_11 rfl (lv_at hl 0 rfl) ?_
    refine mg_0 hx hb hts hown hK hP d_Mo_look_12 ?_
    refine lv_aload_n hx hb d_Mo_look_15 rfl (lv_at hl 0 rfl) ?_
    refine mg_32 (v := si 32) hx hb hts hown hK hP rfl d_Mo_look_16 ?_
    obtain ⟨c_2, hf⟩ := it_n hf
    refine ma_0 (v := sa 0 (si 32).toNatClampNeg) hx hb hK hP c_2 rfl d_Mo_look_19 ?_
    refine lv_goto (tgt := 24) hx hb d_Mo_look_20 (by decide) ?_
    exact k_Mo_look_24 C0 hST hK hP hE hf (lv_sub hl [] rfl)
end
set_option maxHeartbeats 400000 in
set_option maxRecDepth 100000 in
theorem c_Mo_look (l : Launch) (dC : Nat → ClassId) (dI : Nat → Nat → Nat) (h0 : Nat) (r : Nat → Nat) (cA : Nat → ClassId) (nf : Nat) (si : Nat → Int32) (sj : Nat → Int64) (sa : Nat → Nat → Int32) (sb : Nat → Nat → Int64) {r0 : Int32} (hf : f_Mo_look nf si sj sa sb = some r0) : Met l y_Mo_look (wd y_Mo_look b_Mo_look 1 (some .int)) ({ frames := 0, cells := 0, slots := 0, locals := 0 }) (RO dC dI (moW h0 r cA si sj sa sb) (moT cA) [.ref h0]) (SV (some (.int r0))) 0 0 (fun _ => False) :=
  met_S (plainFor_of_name (by decide)) (Nat.le_of_ble_eq_true rfl) (fun p e R s m args below meth c ls C0 hST hK hP hl => by
    obtain ⟨hx, hb, hr, hml, hown, hts, hlocks, hRf, hRl⟩ := id C0
    unfold f_Mo_look at hf
    exact k_Mo_look_0 C0 hST hK hP (fun pc ls hd hn => W.zret hx hb hr hn (fun t ht hW => ⟨rfl, ht⟩) (fun q h => by cases h) hd) hf (lv_sub hl [0] rfl))
-- ZoneFilesModel.cannot(I)V
def f_Mo_cannot_17 (nf : Nat) (si : Nat → Int32) (sj : Nat → Int64) (sa : Nat → Nat → Int32) (sb : Nat → Nat → Int64) : Option ((Nat → Int32) × (Nat → Int64) × (Nat → Nat → Int32) × (Nat → Nat → Int64)) :=
  some (si, sj, sa, sb)
def f_Mo_cannot_0 (nf : Nat) (x1 : Int32) (si : Nat → Int32) (sj : Nat → Int64) (sa : Nat → Nat → Int32) (sb : Nat → Nat → Int64) : Option ((Nat → Int32) × (Nat → Int64) × (Nat → Nat → Int32) × (Nat → Nat → Int64)) :=
  if (si 34) = 0 then
  f_Mo_cannot_17 nf (va_up (va_up si 34 1) 35 x1) sj sa sb
  else
  f_Mo_cannot_17 nf si sj sa sb
def f_Mo_cannot (nf : Nat) (p0 : Int32) (si : Nat → Int32) (sj : Nat → Int64) (sa : Nat → Nat → Int32) (sb : Nat → Nat → Int64) : Option ((Nat → Int32) × (Nat → Int64) × (Nat → Nat → Int32) × (Nat → Nat → Int64)) :=
  f_Mo_cannot_0 nf p0 si sj sa sb
section
variable {p : Program} {l : Launch} {e : Env} {R : Room} {s : State} {m : MethodId} {args : Array Value} {below : List Frame} {meth : Method} {c : Code} {Q : State → Prop} {dC : Nat → ClassId} {dI : Nat → Nat → Nat} {nf : Nat} {A : Nat → Prop} {h0 : Nat} {r : Nat → Nat} {cA : Nat → ClassId}
variable {vi : Nat → Int32} {vj : Nat → Int64} {va : Nat → Nat → Int32} {vb : Nat → Nat → Int64}
set_option maxHeartbeats 400000 in
set_option maxRecDepth 100000 in
theorem k_Mo_cannot_17 (C0 : Cx p s m meth c args R b_Mo_cannot "ZoneFilesModel" 2 none 0 0) (hST : ST A s s.heap) (hA : ∀ q, s.heap.size ≤ q → A q) (hK : va_K (dC, dI) classes (moT cA) s) (hE : ∀ (pc : Nat) (ls : Array Slot) (H : Heap) (locs : List Loc), decode b_Mo_cannot pc = .ok (.return_, 1) → va_P (dC, dI) classes (moW h0 r cA vi vj va vb) H → va_D A (moW h0 r cA vi vj va vb) → va_S A s.heap H locs → W p l e R s m args below meth c H locs 0 0 Q (F0 m pc ls [])) {si : Nat → Int32} {sj : Nat → Int64} {sa : Nat → Nat → Int32} {sb : Nat → Nat → Int64} (hf : f_Mo_cannot_17 nf si sj sa sb = some (vi, vj, va, vb)) {H : Heap} {locs : List Loc} {ls : Array Slot} (hP : va_P (dC, dI) classes (moW h0 r cA si sj sa sb) H) (hD : va_D A (moW h0 r cA si sj sa sb)) (hS : va_S A s.heap H locs) (hl : lv_has ls 2 []) : W p l e R s m args below meth c H locs 0 0 Q (F0 m 17 ls []) := by
  obtain ⟨hx, hb, hr, hml, hown, hts, hlocks, hRf, hRl⟩ := id C0
  unfold f_Mo_cannot_17 at hf
  cases rs hf
  exact hE _ _ _ _ d_Mo_cannot_17 hP hD hS
set_option maxHeartbeats 400000 in
set_option maxRecDepth 100000 in
theorem k_Mo_cannot_0 (C0 : Cx p s m meth c args R b_Mo_cannot "ZoneFilesModel" 2 none 0 0) (hST : ST A s s.heap) (hA : ∀ q, s.heap.size ≤ q → A q) (hK : va_K (dC, dI) classes (moT cA) s) (hE : ∀ (pc : Nat) (ls : Array Slot) (H : Heap) (locs : List Loc), decode b_Mo_cannot pc = .ok (.return_, 1) → va_P (dC, dI) classes (moW h0 r cA vi vj va vb) H → va_D A (moW h0 r cA vi vj va vb) → va_S A s.heap H locs → W p l e R s m args below meth c H locs 0 0 Q (F0 m pc ls [])) {x1 : Int32} {si : Nat → Int32} {sj : Nat → Int64} {sa : Nat → Nat → Int32} {sb : Nat → Nat → Int64} (hf : f_Mo_cannot_0 nf x1 si sj sa sb = some (vi, vj, va, vb)) {H : Heap} {locs : List Loc} {ls : Array Slot} (hP : va_P (dC, dI) classes (moW h0 r cA si sj sa sb) H) (hD : va_D A (moW h0 r cA si sj sa sb)) (hS : va_S A s.heap H locs) (hl : lv_has ls 2 [(0, .ref h0), (1, .int x1)]) : W p l e R s m args below meth c H locs 0 0 Q (F0 m 0 ls []) := by
  obtain ⟨hx, hb, hr, hml, hown, hts, hlocks, hRf, hRl⟩ := id C0
  unfold f_Mo_cannot_0 at hf
  refine lv_aload_n hx hb d_Mo_cannot_0 rfl (lv_at hl 0 rfl) ?_
  refine mg_34 (v := si 34) hx hb hts hown hK hP rfl d_Mo_cannot_1 ?_
  refine lv_if_ne (tgt := 17) hx hb d_Mo_cannot_4 (by decide) (fun c_1 => ?_) (fun c_1 => ?_)
  · have hf := it_f c_1 hf
    exact k_Mo_cannot_17 C0 hST hA hK hE hf hP hD hS (lv_sub hl [] rfl)
  · have hf := it_t c_1 hf
    refine lv_aload_n hx hb d_Mo_cannot_7 rfl (lv_at hl 0 rfl) ?_
    refine lv_iconst (v := 1) hx hb d_Mo_cannot_8 (by decide) ?_
    refine mp_34 hx hb hts hown hK hP hD hS (by decide) d_Mo_cannot_9 (fun H locs hP hD hS => ?_)
    refine lv_aload_n hx hb d_Mo_cannot_12 rfl (lv_at hl 0 rfl) ?_
    refine lv_iload_n hx hb d_Mo_cannot_13 rfl (lv_at hl 1 rfl) ?_
    refine mp_35 hx hb hts hown hK hP hD hS d_Mo_cannot_14 (fun H locs hP hD hS => ?_)
    exact k_Mo_cannot_17 C0 hST hA hK hE hf hP hD hS (lv_sub hl [] rfl)
end
set_option maxHeartbeats 400000 in
set_option maxRecDepth 100000 in
theorem c_Mo_cannot (l : Launch) (dC : Nat → ClassId) (dI : Nat → Nat → Nat) (h0 : Nat) (r : Nat → Nat) (cA : Nat → ClassId) (sz : Nat) (nf : Nat) (p0 : Int32) (si : Nat → Int32) (sj : Nat → Int64) (sa : Nat → Nat → Int32) (sb : Nat → Nat → Int64) {vi : Nat → Int32} {vj : Nat → Int64} {va : Nat → Nat → Int32} {vb : Nat → Nat → Int64} (hf : f_Mo_cannot nf p0 si sj sa sb = some (vi, vj, va, vb)) : Met l y_Mo_cannot (wd y_Mo_cannot b_Mo_cannot 2 none) ({ frames := 0, cells := 0, slots := 0, locals := 0 }) (MU dC dI (moW h0 r cA si sj sa sb) (moT cA) sz [.ref h0, .int p0]) (MV none (fun t => va_P (dC, dI) classes (moW h0 r cA vi vj va vb) t.heap) (va_A (moW h0 r cA si sj sa sb) sz)) 0 0 (va_A (moW h0 r cA si sj sa sb) sz) :=
  met_M (plainFor_of_name (by decide)) (Nat.le_of_ble_eq_true rfl) (fun p e R s m args below meth c ls hRc hRs hsz hin C0 hST hK hP hD hl => by
    obtain ⟨hx, hb, hr, hml, hown, hts, hlocks, hRf, hRl⟩ := id C0
    subst hsz
    have hA : ∀ q : Nat, s.heap.size ≤ q → va_A (moW h0 r cA si sj sa sb) s.heap.size q := fun q h => Or.inr h
    have hS : va_S (va_A (moW h0 r cA si sj sa sb) s.heap.size) s.heap s.heap [] := va_S.rf
    unfold f_Mo_cannot at hf
    exact k_Mo_cannot_0 C0 hST hA hK (fun pc ls H locs hd hP hD hS => W.vret hx hb hr (fun t ht hW => ⟨⟨rfl, mo_end ht hP⟩, hS.F ht⟩) hS.2.2 hd) hf hP hD hS (lv_sub hl [0, 1] rfl))
-- ZoneFilesModel.isDigit(I)Z
def f_Mo_isDigit_17 (nf : Nat) (s0 : Int32) : Option (Int32) :=
  if s0 = 0 ∨ s0 = 1 then some s0 else none
def f_Mo_isDigit_16 (nf : Nat) : Option (Int32) :=
  f_Mo_isDigit_17 nf 0
def f_Mo_isDigit_0 (nf : Nat) (x0 : Int32) : Option (Int32) :=
  if x0 < (48 : Int32) then
  f_Mo_isDigit_16 nf
  else
  if (57 : Int32) < x0 then
    f_Mo_isDigit_16 nf
    else
    f_Mo_isDigit_17 nf 1
def f_Mo_isDigit (nf : Nat) (p0 : Int32) : Option (Int32) :=
  f_Mo_isDigit_0 nf p0
section
variable {p : Program} {l : Launch} {e : Env} {R : Room} {s : State} {m : MethodId} {args : Array Value} {below : List Frame} {meth : Method} {c : Code} {Q : State → Prop} {dC : Nat → ClassId} {dI : Nat → Nat → Nat} {nf : Nat}
variable {r0 : Int32}
set_option maxHeartbeats 400000 in
set_option maxRecDepth 100000 in
theorem k_Mo_isDigit_17 (C0 : Cx p s m meth c args R b_Mo_isDigit "ZoneFilesModel" 1 (some .boolean) 0 0) (hST : ST (fun _ => False) s s.heap) (hK : va_K (dC, dI) classes [] s) (hE : ∀ (pc : Nat) (ls : Array Slot), decode b_Mo_isDigit pc = .ok (.ireturn, 1) → narrow .boolean (.int r0) = .int r0 → W p l e R s m args below meth c s.heap [] 0 0 Q (F0 m pc ls [.int r0])) {s0 : Int32} (hf : f_Mo_isDigit_17 nf s0 = some r0) {ls : Array Slot} (hl : lv_has ls 1 []) : W p l e R s m args below meth c s.heap [] 0 0 Q (F0 m 17 ls [.int s0]) := by
  obtain ⟨hx, hb, hr, hml, hown, hts, hlocks, hRf, hRl⟩ := id C0
  obtain ⟨tms, hZms, hTms, tmg, hZmg, hTmg, hNW⟩ := id hST
  unfold f_Mo_isDigit_17 at hf
  obtain ⟨c_2, hf⟩ := it_g hf
  have e := rs hf
  subst e
  exact hE _ _ d_Mo_isDigit_17 (nb_of c_2)
set_option maxHeartbeats 400000 in
set_option maxRecDepth 100000 in
theorem k_Mo_isDigit_16 (C0 : Cx p s m meth c args R b_Mo_isDigit "ZoneFilesModel" 1 (some .boolean) 0 0) (hST : ST (fun _ => False) s s.heap) (hK : va_K (dC, dI) classes [] s) (hE : ∀ (pc : Nat) (ls : Array Slot), decode b_Mo_isDigit pc = .ok (.ireturn, 1) → narrow .boolean (.int r0) = .int r0 → W p l e R s m args below meth c s.heap [] 0 0 Q (F0 m pc ls [.int r0])) (hf : f_Mo_isDigit_16 nf = some r0) {ls : Array Slot} (hl : lv_has ls 1 []) : W p l e R s m args below meth c s.heap [] 0 0 Q (F0 m 16 ls []) := by
  obtain ⟨hx, hb, hr, hml, hown, hts, hlocks, hRf, hRl⟩ := id C0
  obtain ⟨tms, hZms, hTms, tmg, hZmg, hTmg, hNW⟩ := id hST
  unfold f_Mo_isDigit_16 at hf
  refine lv_iconst (v := 0) hx hb d_Mo_isDigit_16 (by decide) ?_
  exact k_Mo_isDigit_17 C0 hST hK hE hf (lv_sub hl [] rfl)
set_option maxHeartbeats 400000 in
set_option maxRecDepth 100000 in
theorem k_Mo_isDigit_0 (C0 : Cx p s m meth c args R b_Mo_isDigit "ZoneFilesModel" 1 (some .boolean) 0 0) (hST : ST (fun _ => False) s s.heap) (hK : va_K (dC, dI) classes [] s) (hE : ∀ (pc : Nat) (ls : Array Slot), decode b_Mo_isDigit pc = .ok (.ireturn, 1) → narrow .boolean (.int r0) = .int r0 → W p l e R s m args below meth c s.heap [] 0 0 Q (F0 m pc ls [.int r0])) {x0 : Int32} (hf : f_Mo_isDigit_0 nf x0 = some r0) {ls : Array Slot} (hl : lv_has ls 1 [(0, .int x0)]) : W p l e R s m args below meth c s.heap [] 0 0 Q (F0 m 0 ls []) := by
  obtain ⟨hx, hb, hr, hml, hown, hts, hlocks, hRf, hRl⟩ := id C0
  obtain ⟨tms, hZms, hTms, tmg, hZmg, hTmg, hNW⟩ := id hST
  unfold f_Mo_isDigit_0 at hf
  refine lv_iload_n hx hb d_Mo_isDigit_0 rfl (lv_at hl 0 rfl) ?_
  refine lv_bipush (v := 48) hx hb d_Mo_isDigit_1 (by decide) ?_
  refine lv_icmp_lt (tgt := 16) hx hb d_Mo_isDigit_3 (by decide) (fun c_1 => ?_) (fun c_1 => ?_)
  · have hf := it_t c_1 hf
    exact k_Mo_isDigit_16 C0 hST hK hE hf (lv_sub hl [] rfl)
  · have hf := it_f c_1 hf
    refine lv_iload_n hx hb d_Mo_isDigit_6 rfl (lv_at hl 0 rfl) ?_
    refine lv_bipush (v := 57) hx hb d_Mo_isDigit_7 (by decide) ?_
    refine lv_icmp_gt (tgt := 16) hx hb d_Mo_isDigit_9 (by decide) (fun c_3 => ?_) (fun c_3 => ?_)
    · have hf := it_t c_3 hf
      exact k_Mo_isDigit_16 C0 hST hK hE hf (lv_sub hl [] rfl)
    · have hf := it_f c_3 hf
      refine lv_iconst (v := 1) hx hb d_Mo_isDigit_12 (by decide) ?_
      refine lv_goto (tgt := 17) hx hb d_Mo_isDigit_13 (by decide) ?_
      exact k_Mo_isDigit_17 C0 hST hK hE hf (lv_sub hl [] rfl)
end
set_option maxHeartbeats 400000 in
set_option maxRecDepth 100000 in
theorem c_Mo_isDigit (l : Launch) (dC : Nat → ClassId) (dI : Nat → Nat → Nat) (nf : Nat) (p0 : Int32) {r0 : Int32} (hf : f_Mo_isDigit nf p0 = some r0) : Met l y_Mo_isDigit (wd y_Mo_isDigit b_Mo_isDigit 1 (some .boolean)) ({ frames := 0, cells := 0, slots := 0, locals := 0 }) (RO dC dI [] [] [.int p0]) (SV (some (.int r0))) 0 0 (fun _ => False) :=
  met_S (plainFor_of_name (by decide)) (Nat.le_of_ble_eq_true rfl) (fun p e R s m args below meth c ls C0 hST hK hP hl => by
    obtain ⟨hx, hb, hr, hml, hown, hts, hlocks, hRf, hRl⟩ := id C0
    unfold f_Mo_isDigit at hf
    exact k_Mo_isDigit_0 C0 hST hK (fun pc ls hd hn => W.zret hx hb hr hn (fun t ht hW => ⟨rfl, ht⟩) (fun q h => by cases h) hd) hf (lv_sub hl [0] rfl))
-- ZoneFilesModel.isLetter(I)Z
def f_Mo_isLetter_29 (nf : Nat) (s0 : Int32) : Option (Int32) :=
  if s0 = 0 ∨ s0 = 1 then some s0 else none
def f_Mo_isLetter_28 (nf : Nat) : Option (Int32) :=
  f_Mo_isLetter_29 nf 0
def f_Mo_isLetter_24 (nf : Nat) : Option (Int32) :=
  f_Mo_isLetter_29 nf 1
def f_Mo_isLetter_12 (nf : Nat) (x0 : Int32) : Option (Int32) :=
  if x0 < (97 : Int32) then
  f_Mo_isLetter_28 nf
  else
  if (122 : Int32) < x0 then
    f_Mo_isLetter_28 nf
    else
    f_Mo_isLetter_24 nf
def f_Mo_isLetter_0 (nf : Nat) (x0 : Int32) : Option (Int32) :=
  if x0 < (65 : Int32) then
  f_Mo_isLetter_12 nf x0
  else
  if x0 ≤ (90 : Int32) then
    f_Mo_isLetter_24 nf
    else
    f_Mo_isLetter_12 nf x0
def f_Mo_isLetter (nf : Nat) (p0 : Int32) : Option (Int32) :=
  f_Mo_isLetter_0 nf p0
section
variable {p : Program} {l : Launch} {e : Env} {R : Room} {s : State} {m : MethodId} {args : Array Value} {below : List Frame} {meth : Method} {c : Code} {Q : State → Prop} {dC : Nat → ClassId} {dI : Nat → Nat → Nat} {nf : Nat}
variable {r0 : Int32}
set_option maxHeartbeats 400000 in
set_option maxRecDepth 100000 in
theorem k_Mo_isLetter_29 (C0 : Cx p s m meth c args R b_Mo_isLetter "ZoneFilesModel" 1 (some .boolean) 0 0) (hST : ST (fun _ => False) s s.heap) (hK : va_K (dC, dI) classes [] s) (hE : ∀ (pc : Nat) (ls : Array Slot), decode b_Mo_isLetter pc = .ok (.ireturn, 1) → narrow .boolean (.int r0) = .int r0 → W p l e R s m args below meth c s.heap [] 0 0 Q (F0 m pc ls [.int r0])) {s0 : Int32} (hf : f_Mo_isLetter_29 nf s0 = some r0) {ls : Array Slot} (hl : lv_has ls 1 []) : W p l e R s m args below meth c s.heap [] 0 0 Q (F0 m 29 ls [.int s0]) := by
  obtain ⟨hx, hb, hr, hml, hown, hts, hlocks, hRf, hRl⟩ := id C0
  obtain ⟨tms, hZms, hTms, tmg, hZmg, hTmg, hNW⟩ := id hST
  unfold f_Mo_isLetter_29 at hf
  obtain ⟨c_3, hf⟩ := it_g hf
  have e := rs hf
  subst e
  exact hE _ _ d_Mo_isLetter_29 (nb_of c_3)
set_option maxHeartbeats 400000 in
set_option maxRecDepth 100000 in
theorem k_Mo_isLetter_28 (C0 : Cx p s m meth c args R b_Mo_isLetter "ZoneFilesModel" 1 (some .boolean) 0 0) (hST : ST (fun _ => False) s s.heap) (hK : va_K (dC, dI) classes [] s) (hE : ∀ (pc : Nat) (ls : Array Slot), decode b_Mo_isLetter pc = .ok (.ireturn, 1) → narrow .boolean (.int r0) = .int r0 → W p l e R s m args below meth c s.heap [] 0 0 Q (F0 m pc ls [.int r0])) (hf : f_Mo_isLetter_28 nf = some r0) {ls : Array Slot} (hl : lv_has ls 1 []) : W p l e R s m args below meth c s.heap [] 0 0 Q (F0 m 28 ls []) := by
  obtain ⟨hx, hb, hr, hml, hown, hts, hlocks, hRf, hRl⟩ := id C0
  obtain ⟨tms, hZms, hTms, tmg, hZmg, hTmg, hNW⟩ := id hST
  unfold f_Mo_isLetter_28 at hf
  refine lv_iconst (v := 0) hx hb d_Mo_isLetter_28 (by decide) ?_
  exact k_Mo_isLetter_29 C0 hST hK hE hf (lv_sub hl [] rfl)
set_option maxHeartbeats 400000 in
set_option maxRecDepth 100000 in
theorem k_Mo_isLetter_24 (C0 : Cx p s m meth c args R b_Mo_isLetter "ZoneFilesModel" 1 (some .boolean) 0 0) (hST : ST (fun _ => False) s s.heap) (hK : va_K (dC, dI) classes [] s) (hE : ∀ (pc : Nat) (ls : Array Slot), decode b_Mo_isLetter pc = .ok (.ireturn, 1) → narrow .boolean (.int r0) = .int r0 → W p l e R s m args below meth c s.heap [] 0 0 Q (F0 m pc ls [.int r0])) (hf : f_Mo_isLetter_24 nf = some r0) {ls : Array Slot} (hl : lv_has ls 1 []) : W p l e R s m args below meth c s.heap [] 0 0 Q (F0 m 24 ls []) := by
  obtain ⟨hx, hb, hr, hml, hown, hts, hlocks, hRf, hRl⟩ := id C0
  obtain ⟨tms, hZms, hTms, tmg, hZmg, hTmg, hNW⟩ := id hST
  unfold f_Mo_isLetter_24 at hf
  refine lv_iconst (v := 1) hx hb d_Mo_isLetter_24 (by decide) ?_
  refine lv_goto (tgt := 29) hx hb d_Mo_isLetter_25 (by decide) ?_
  exact k_Mo_isLetter_29 C0 hST hK hE hf (lv_sub hl [] rfl)
set_option maxHeartbeats 400000 in
set_option maxRecDepth 100000 in
theorem k_Mo_isLetter_12 (C0 : Cx p s m meth c args R b_Mo_isLetter "ZoneFilesModel" 1 (some .boolean) 0 0) (hST : ST (fun _ => False) s s.heap) (hK : va_K (dC, dI) classes [] s) (hE : ∀ (pc : Nat) (ls : Array Slot), decode b_Mo_isLetter pc = .ok (.ireturn, 1) → narrow .boolean (.int r0) = .int r0 → W p l e R s m args below meth c s.heap [] 0 0 Q (F0 m pc ls [.int r0])) {x0 : Int32} (hf : f_Mo_isLetter_12 nf x0 = some r0) {ls : Array Slot} (hl : lv_has ls 1 [(0, .int x0)]) : W p l e R s m args below meth c s.heap [] 0 0 Q (F0 m 12 ls []) := by
  obtain ⟨hx, hb, hr, hml, hown, hts, hlocks, hRf, hRl⟩ := id C0
  obtain ⟨tms, hZms, hTms, tmg, hZmg, hTmg, hNW⟩ := id hST
  unfold f_Mo_isLetter_12 at hf
  refine lv_iload_n hx hb d_Mo_isLetter_12 rfl (lv_at hl 0 rfl) ?_
  refine lv_bipush (v := 97) hx hb d_Mo_isLetter_13 (by decide) ?_
  refine lv_icmp_lt (tgt := 28) hx hb d_Mo_isLetter_15 (by decide) (fun c_2 => ?_) (fun c_2 => ?_)
  · have hf := it_t c_2 hf
    exact k_Mo_isLetter_28 C0 hST hK hE hf (lv_sub hl [] rfl)
  · have hf := it_f c_2 hf
    refine lv_iload_n hx hb d_Mo_isLetter_18 rfl (lv_at hl 0 rfl) ?_
    refine lv_bipush (v := 122) hx hb d_Mo_isLetter_19 (by decide) ?_
    refine lv_icmp_gt (tgt := 28) hx hb d_Mo_isLetter_21 (by decide) (fun c_4 => ?_) (fun c_4 => ?_)
    · have hf := it_t c_4 hf
      exact k_Mo_isLetter_28 C0 hST hK hE hf (lv_sub hl [] rfl)
    · have hf := it_f c_4 hf
      exact k_Mo_isLetter_24 C0 hST hK hE hf (lv_sub hl [] rfl)
set_option maxHeartbeats 400000 in
set_option maxRecDepth 100000 in
theorem k_Mo_isLetter_0 (C0 : Cx p s m meth c args R b_Mo_isLetter "ZoneFilesModel" 1 (some .boolean) 0 0) (hST : ST (fun _ => False) s s.heap) (hK : va_K (dC, dI) classes [] s) (hE : ∀ (pc : Nat) (ls : Array Slot), decode b_Mo_isLetter pc = .ok (.ireturn, 1) → narrow .boolean (.int r0) = .int r0 → W p l e R s m args below meth c s.heap [] 0 0 Q (F0 m pc ls [.int r0])) {x0 : Int32} (hf : f_Mo_isLetter_0 nf x0 = some r0) {ls : Array Slot} (hl : lv_has ls 1 [(0, .int x0)]) : W p l e R s m args below meth c s.heap [] 0 0 Q (F0 m 0 ls []) := by
  obtain ⟨hx, hb, hr, hml, hown, hts, hlocks, hRf, hRl⟩ := id C0
  obtain ⟨tms, hZms, hTms, tmg, hZmg, hTmg, hNW⟩ := id hST
  unfold f_Mo_isLetter_0 at hf
  refine lv_iload_n hx hb d_Mo_isLetter_0 rfl (lv_at hl 0 rfl) ?_
  refine lv_bipush (v := 65) hx hb d_Mo_isLetter_1 (by decide) ?_
  refine lv_icmp_lt (tgt := 12) hx hb d_Mo_isLetter_3 (by decide) (fun c_1 => ?_) (fun c_1 => ?_)
  · have hf := it_t c_1 hf
    exact k_Mo_isLetter_12 C0 hST hK hE hf (lv_sub hl [0] rfl)
  · have hf := it_f c_1 hf
    refine lv_iload_n hx hb d_Mo_isLetter_6 rfl (lv_at hl 0 rfl) ?_
    refine lv_bipush (v := 90) hx hb d_Mo_isLetter_7 (by decide) ?_
    refine lv_icmp_le (tgt := 24) hx hb d_Mo_isLetter_9 (by decide) (fun c_5 => ?_) (fun c_5 => ?_)
    · have hf := it_t c_5 hf
      exact k_Mo_isLetter_24 C0 hST hK hE hf (lv_sub hl [] rfl)
    · have hf := it_f c_5 hf
      exact k_Mo_isLetter_12 C0 hST hK hE hf (lv_sub hl [0] rfl)
end
set_option maxHeartbeats 400000 in
set_option maxRecDepth 100000 in
theorem c_Mo_isLetter (l : Launch) (dC : Nat → ClassId) (dI : Nat → Nat → Nat) (nf : Nat) (p0 : Int32) {r0 : Int32} (hf : f_Mo_isLetter nf p0 = some r0) : Met l y_Mo_isLetter (wd y_Mo_isLetter b_Mo_isLetter 1 (some .boolean)) ({ frames := 0, cells := 0, slots := 0, locals := 0 }) (RO dC dI [] [] [.int p0]) (SV (some (.int r0))) 0 0 (fun _ => False) :=
  met_S (plainFor_of_name (by decide)) (Nat.le_of_ble_eq_true rfl) (fun p e R s m args below meth c ls C0 hST hK hP hl => by
    obtain ⟨hx, hb, hr, hml, hown, hts, hlocks, hRf, hRl⟩ := id C0
    unfold f_Mo_isLetter at hf
    exact k_Mo_isLetter_0 C0 hST hK (fun pc ls hd hn => W.zret hx hb hr hn (fun t ht hW => ⟨rfl, ht⟩) (fun q h => by cases h) hd) hf (lv_sub hl [0] rfl))
-- ZoneFilesModel.isNamed(I)Z
def f_Mo_isNamed_31 (nf : Nat) (s0 : Int32) : Option (Int32) :=
  if s0 = 0 ∨ s0 = 1 then some s0 else none
def f_Mo_isNamed_26 (nf : Nat) : Option (Int32) :=
  f_Mo_isNamed_31 nf 1
def f_Mo_isNamed_0 (nf : Nat) (x0 : Int32) : Option (Int32) :=
  (f_Mo_isDigit nf x0).bind fun r_1 =>
  if r_1 = 0 then
  (f_Mo_isLetter nf x0).bind fun r_4 =>
    if r_4 = 0 then
    if x0 = (43 : Int32) then
      f_Mo_isNamed_26 nf
      else
      if x0 = (45 : Int32) then
        f_Mo_isNamed_26 nf
        else
        f_Mo_isNamed_31 nf 0
    else
    f_Mo_isNamed_26 nf
  else
  f_Mo_isNamed_26 nf
def f_Mo_isNamed (nf : Nat) (p0 : Int32) : Option (Int32) :=
  f_Mo_isNamed_0 nf p0
section
variable {p : Program} {l : Launch} {e : Env} {R : Room} {s : State} {m : MethodId} {args : Array Value} {below : List Frame} {meth : Method} {c : Code} {Q : State → Prop} {dC : Nat → ClassId} {dI : Nat → Nat → Nat} {nf : Nat}
variable {r0 : Int32}
set_option maxHeartbeats 400000 in
set_option maxRecDepth 100000 in
theorem k_Mo_isNamed_31 (C0 : Cx p s m meth c args R b_Mo_isNamed "ZoneFilesModel" 1 (some .boolean) 1 20) (hST : ST (fun _ => False) s s.heap) (hK : va_K (dC, dI) classes [] s) (hE : ∀ (pc : Nat) (ls : Array Slot), decode b_Mo_isNamed pc = .ok (.ireturn, 1) → narrow .boolean (.int r0) = .int r0 → W p l e R s m args below meth c s.heap [] 0 0 Q (F0 m pc ls [.int r0])) {s0 : Int32} (hf : f_Mo_isNamed_31 nf s0 = some r0) {ls : Array Slot} (hl : lv_has ls 1 []) : W p l e R s m args below meth c s.heap [] 0 0 Q (F0 m 31 ls [.int s0]) := by
  obtain ⟨hx, hb, hr, hml, hown, hts, hlocks, hRf, hRl⟩ := id C0
  obtain ⟨tms, hZms, hTms, tmg, hZmg, hTmg, hNW⟩ := id hST
  unfold f_Mo_isNamed_31 at hf
  obtain ⟨c_3, hf⟩ := it_g hf
  have e := rs hf
  subst e
  exact hE _ _ d_Mo_isNamed_31 (nb_of c_3)
set_option maxHeartbeats 400000 in
set_option maxRecDepth 100000 in
theorem k_Mo_isNamed_26 (C0 : Cx p s m meth c args R b_Mo_isNamed "ZoneFilesModel" 1 (some .boolean) 1 20) (hST : ST (fun _ => False) s s.heap) (hK : va_K (dC, dI) classes [] s) (hE : ∀ (pc : Nat) (ls : Array Slot), decode b_Mo_isNamed pc = .ok (.ireturn, 1) → narrow .boolean (.int r0) = .int r0 → W p l e R s m args below meth c s.heap [] 0 0 Q (F0 m pc ls [.int r0])) (hf : f_Mo_isNamed_26 nf = some r0) {ls : Array Slot} (hl : lv_has ls 1 []) : W p l e R s m args below meth c s.heap [] 0 0 Q (F0 m 26 ls []) := by
  obtain ⟨hx, hb, hr, hml, hown, hts, hlocks, hRf, hRl⟩ := id C0
  obtain ⟨tms, hZms, hTms, tmg, hZmg, hTmg, hNW⟩ := id hST
  unfold f_Mo_isNamed_26 at hf
  refine lv_iconst (v := 1) hx hb d_Mo_isNamed_26 (by decide) ?_
  refine lv_goto (tgt := 31) hx hb d_Mo_isNamed_27 (by decide) ?_
  exact k_Mo_isNamed_31 C0 hST hK hE hf (lv_sub hl [] rfl)
set_option maxHeartbeats 400000 in
set_option maxRecDepth 100000 in
theorem k_Mo_isNamed_0 (C0 : Cx p s m meth c args R b_Mo_isNamed "ZoneFilesModel" 1 (some .boolean) 1 20) (hST : ST (fun _ => False) s s.heap) (hK : va_K (dC, dI) classes [] s) (hE : ∀ (pc : Nat) (ls : Array Slot), decode b_Mo_isNamed pc = .ok (.ireturn, 1) → narrow .boolean (.int r0) = .int r0 → W p l e R s m args below meth c s.heap [] 0 0 Q (F0 m pc ls [.int r0])) {x0 : Int32} (hf : f_Mo_isNamed_0 nf x0 = some r0) {ls : Array Slot} (hl : lv_has ls 1 [(0, .int x0)]) : W p l e R s m args below meth c s.heap [] 0 0 Q (F0 m 0 ls []) := by
  obtain ⟨hx, hb, hr, hml, hown, hts, hlocks, hRf, hRl⟩ := id C0
  obtain ⟨tms, hZms, hTms, tmg, hZmg, hTmg, hNW⟩ := id hST
  unfold f_Mo_isNamed_0 at hf
  refine lv_iload_n hx hb d_Mo_isNamed_0 rfl (lv_at hl 0 rfl) ?_
  obtain ⟨r_1, hc, hf⟩ := ob hf
  refine cl_S (v := (some (.int r_1))) (st1 := [.int r_1]) (va_runS (As := [.int x0]) (rest := []) ⟨hx, hb, hml, hown, hts⟩ (c_Mo_isDigit l dC dI nf x0 hc) (va_cwS 1 hts (gdS m_6_90 m_6_91 m_1_10 m_6_92) rfl rfl rfl (by decide +kernel) ⟨Nat.le_trans (Nat.le_of_ble_eq_true rfl) hRf, Nat.le_trans (Nat.le_of_ble_eq_true rfl) hRl⟩) (RO.pre0 hK hST).sta rfl rfl hl.1 rfl (lv_room (Nat.le_of_ble_eq_true rfl)) d_Mo_isNamed_1 ⟨Nat.zero_le _, Nat.zero_le _⟩) rfl ?_
  refine lv_if_ne (tgt := 26) hx hb d_Mo_isNamed_4 (by decide) (fun c_2 => ?_) (fun c_2 => ?_)
  · have hf := it_f c_2 hf
    exact k_Mo_isNamed_26 C0 hST hK hE hf (lv_sub hl [] rfl)
  · have hf := it_t c_2 hf
    refine lv_iload_n hx hb d_Mo_isNamed_7 rfl (lv_at hl 0 rfl) ?_
    obtain ⟨r_4, hc, hf⟩ := ob hf
    refine cl_S (v := (some (.int r_4))) (st1 := [.int r_4]) (va_runS (As := [.int x0]) (rest := []) ⟨hx, hb, hml, hown, hts⟩ (c_Mo_isLetter l dC dI nf x0 hc) (va_cwS 1 hts (gdS m_6_93 m_6_94 m_1_10 m_6_95) rfl rfl rfl (by decide +kernel) ⟨Nat.le_trans (Nat.le_of_ble_eq_true rfl) hRf, Nat.le_trans (Nat.le_of_ble_eq_true rfl) hRl⟩) (RO.pre0 hK hST).sta rfl rfl hl.1 rfl (lv_room (Nat.le_of_ble_eq_true rfl)) d_Mo_isNamed_8 ⟨Nat.zero_le _, Nat.zero_le _⟩) rfl ?_
    refine lv_if_ne (tgt := 26) hx hb d_Mo_isNamed_11 (by decide) (fun c_5 => ?_) (fun c_5 => ?_)
    · have hf := it_f c_5 hf
      exact k_Mo_isNamed_26 C0 hST hK hE hf (lv_sub hl [] rfl)
    · have hf := it_t c_5 hf
      refine lv_iload_n hx hb d_Mo_isNamed_14 rfl (lv_at hl 0 rfl) ?_
      refine lv_bipush (v := 43) hx hb d_Mo_isNamed_15 (by decide) ?_
      refine lv_icmp_eq (tgt := 26) hx hb d_Mo_isNamed_17 (by decide) (fun c_6 => ?_) (fun c_6 => ?_)
      · have hf := it_t c_6 hf
        exact k_Mo_isNamed_26 C0 hST hK hE hf (lv_sub hl [] rfl)
      · have hf := it_f c_6 hf
        refine lv_iload_n hx hb d_Mo_isNamed_20 rfl (lv_at hl 0 rfl) ?_
        refine lv_bipush (v := 45) hx hb d_Mo_isNamed_21 (by decide) ?_
        refine lv_icmp_ne (tgt := 30) hx hb d_Mo_isNamed_23 (by decide) (fun c_7 => ?_) (fun c_7 => ?_)
        · have hf := it_f c_7 hf
          refine lv_iconst (v := 0) hx hb d_Mo_isNamed_30 (by decide) ?_
          exact k_Mo_isNamed_31 C0 hST hK hE hf (lv_sub hl [] rfl)
        · have hf := it_t c_7 hf
          exact k_Mo_isNamed_26 C0 hST hK hE hf (lv_sub hl [] rfl)
end
set_option maxHeartbeats 400000 in
set_option maxRecDepth 100000 in
theorem c_Mo_isNamed (l : Launch) (dC : Nat → ClassId) (dI : Nat → Nat → Nat) (nf : Nat) (p0 : Int32) {r0 : Int32} (hf : f_Mo_isNamed nf p0 = some r0) : Met l y_Mo_isNamed (wd y_Mo_isNamed b_Mo_isNamed 1 (some .boolean)) ({ frames := 1, cells := 0, slots := 0, locals := 20 }) (RO dC dI [] [] [.int p0]) (SV (some (.int r0))) 0 0 (fun _ => False) :=
  met_S (plainFor_of_name (by decide)) (Nat.le_of_ble_eq_true rfl) (fun p e R s m args below meth c ls C0 hST hK hP hl => by
    obtain ⟨hx, hb, hr, hml, hown, hts, hlocks, hRf, hRl⟩ := id C0
    unfold f_Mo_isNamed at hf
    exact k_Mo_isNamed_0 C0 hST hK (fun pc ls hd hn => W.zret hx hb hr hn (fun t ht hW => ⟨rfl, ht⟩) (fun q h => by cases h) hd) hf (lv_sub hl [0] rfl))
-- ZoneFilesModel.sign(I)V
def f_Mo_sign_36 (nf : Nat) (si : Nat → Int32) (sj : Nat → Int64) (sa : Nat → Nat → Int32) (sb : Nat → Nat → Int64) : Option ((Nat → Int32) × (Nat → Int64) × (Nat → Nat → Int32) × (Nat → Nat → Int64)) :=
  some (si, sj, sa, sb)
def f_Mo_sign_28 (nf : Nat) (si : Nat → Int32) (sj : Nat → Int64) (sa : Nat → Nat → Int32) (sb : Nat → Nat → Int64) : Option ((Nat → Int32) × (Nat → Int64) × (Nat → Nat → Int32) × (Nat → Nat → Int64)) :=
  (f_Mo_cannot nf (si 32) si sj sa sb).bind fun (i_2, j_3, a_4, b_5) =>
  f_Mo_sign_36 nf i_2 j_3 a_4 b_5
def f_Mo_sign_0 (nf : Nat) (x1 : Int32) (si : Nat → Int32) (sj : Nat → Int64) (sa : Nat → Nat → Int32) (sb : Nat → Nat → Int64) : Option ((Nat → Int32) × (Nat → Int64) × (Nat → Nat → Int32) × (Nat → Nat → Int64)) :=
  if (si 34) = 0 then
  (f_Mo_look nf si sj sa sb).bind fun r_6 =>
    if r_6 = x1 then
    f_Mo_sign_36 nf (va_up si 32 ((si 32) + 1)) sj sa sb
    else
    f_Mo_sign_28 nf si sj sa sb
  else
  f_Mo_sign_28 nf si sj sa sb
def f_Mo_sign (nf : Nat) (p0 : Int32) (si : Nat → Int32) (sj : Nat → Int64) (sa : Nat → Nat → Int32) (sb : Nat → Nat → Int64) : Option ((Nat → Int32) × (Nat → Int64) × (Nat → Nat → Int32) × (Nat → Nat → Int64)) :=
  f_Mo_sign_0 nf p0 si sj sa sb
section
variable {p : Program} {l : Launch} {e : Env} {R : Room} {s : State} {m : MethodId} {args : Array Value} {below : List Frame} {meth : Method} {c : Code} {Q : State → Prop} {dC : Nat → ClassId} {dI : Nat → Nat → Nat} {nf : Nat} {A : Nat → Prop} {h0 : Nat} {r : Nat → Nat} {cA : Nat → ClassId}
variable {vi : Nat → Int32} {vj : Nat → Int64} {va : Nat → Nat → Int32} {vb : Nat → Nat → Int64}
set_option maxHeartbeats 400000 in
set_option maxRecDepth 100000 in
theorem k_Mo_sign_36 (C0 : Cx p s m meth c args R b_Mo_sign "ZoneFilesModel" 2 none 1 21) (hST : ST A s s.heap) (hA : ∀ q, s.heap.size ≤ q → A q) (hK : va_K (dC, dI) classes (moT cA) s) (hE : ∀ (pc : Nat) (ls : Array Slot) (H : Heap) (locs : List Loc), decode b_Mo_sign pc = .ok (.return_, 1) → va_P (dC, dI) classes (moW h0 r cA vi vj va vb) H → va_D A (moW h0 r cA vi vj va vb) → va_S A s.heap H locs → W p l e R s m args below meth c H locs 0 0 Q (F0 m pc ls [])) {si : Nat → Int32} {sj : Nat → Int64} {sa : Nat → Nat → Int32} {sb : Nat → Nat → Int64} (hf : f_Mo_sign_36 nf si sj sa sb = some (vi, vj, va, vb)) {H : Heap} {locs : List Loc} {ls : Array Slot} (hP : va_P (dC, dI) classes (moW h0 r cA si sj sa sb) H) (hD : va_D A (moW h0 r cA si sj sa sb)) (hS : va_S A s.heap H locs) (hl : lv_has ls 2 []) : W p l e R s m args below meth c H locs 0 0 Q (F0 m 36 ls []) := by
  obtain ⟨hx, hb, hr, hml, hown, hts, hlocks, hRf, hRl⟩ := id C0
  unfold f_Mo_sign_36 at hf
  cases rs hf
  exact hE _ _ _ _ d_Mo_sign_36 hP hD hS
set_option maxHeartbeats 400000 in
set_option maxRecDepth 100000 in
theorem k_Mo_sign_28 (C0 : Cx p s m meth c args R b_Mo_sign "ZoneFilesModel" 2 none 1 21) (hST : ST A s s.heap) (hA : ∀ q, s.heap.size ≤ q → A q) (hK : va_K (dC, dI) classes (moT cA) s) (hE : ∀ (pc : Nat) (ls : Array Slot) (H : Heap) (locs : List Loc), decode b_Mo_sign pc = .ok (.return_, 1) → va_P (dC, dI) classes (moW h0 r cA vi vj va vb) H → va_D A (moW h0 r cA vi vj va vb) → va_S A s.heap H locs → W p l e R s m args below meth c H locs 0 0 Q (F0 m pc ls [])) {si : Nat → Int32} {sj : Nat → Int64} {sa : Nat → Nat → Int32} {sb : Nat → Nat → Int64} (hf : f_Mo_sign_28 nf si sj sa sb = some (vi, vj, va, vb)) {H : Heap} {locs : List Loc} {ls : Array Slot} (hP : va_P (dC, dI) classes (moW h0 r cA si sj sa sb) H) (hD : va_D A (moW h0 r cA si sj sa sb)) (hS : va_S A s.heap H locs) (hl : lv_has ls 2 [(0, .ref h0)]) : W p l e R s m args below meth c H locs 0 0 Q (F0 m 28 ls []) := by
  obtain ⟨hx, hb, hr, hml, hown, hts, hlocks, hRf, hRl⟩ := id C0
  unfold f_Mo_sign_28 at hf
  refine lv_aload_n hx hb d_Mo_sign_28 rfl (lv_at hl 0 rfl) ?_
  refine lv_aload_n hx hb d_Mo_sign_29 rfl (lv_at hl 0 rfl) ?_
  refine mg_32 (v := si 32) hx hb hts hown hK hP rfl d_Mo_sign_30 ?_
  obtain ⟨⟨i_2, j_3, a_4, b_5⟩, hc, hf⟩ := ob hf
  have hFc := mo_free hD hS hA
  refine cl_M (v := none) (st1 := []) (va_runV (As := [.int (si 32)]) (rest := []) ⟨hx, hb, hml, hown, hts⟩ (c_Mo_cannot l dC dI h0 r cA H.size nf (si 32) si sj sa sb hc) (cwV 1 hts (gdV m_6_96 m_6_98 msel_50 m_1_10 m_6_99) rfl rfl rfl (by decide +kernel) ⟨Nat.le_trans (Nat.le_of_ble_eq_true rfl) hRf, Nat.le_trans (Nat.le_of_ble_eq_true rfl) hRl⟩) ((MU.pre hP hK hD (hST.mu hS hFc)).vir (va_recv hK hP (ci := 10) (q0 := 0) rfl rfl)) rfl rfl hl.1 rfl (lv_room (Nat.le_of_ble_eq_true rfl)) d_Mo_sign_33 ⟨Nat.zero_le _, Nat.zero_le _⟩) rfl hS (fun q _ h => hFc q h) hFc (fun t H1 locs ht hvm hB hz1 hk1 hS => ?_)
  obtain ⟨hP, hD⟩ := mo_back ht hD hB
  generalize H1 = H at hP hS ⊢
  exact k_Mo_sign_36 C0 hST hA hK hE hf hP hD hS (lv_sub hl [] rfl)
set_option maxHeartbeats 400000 in
set_option maxRecDepth 100000 in
theorem k_Mo_sign_0 (C0 : Cx p s m meth c args R b_Mo_sign "ZoneFilesModel" 2 none 1 21) (hST : ST A s s.heap) (hA : ∀ q, s.heap.size ≤ q → A q) (hK : va_K (dC, dI) classes (moT cA) s) (hE : ∀ (pc : Nat) (ls : Array Slot) (H : Heap) (locs : List Loc), decode b_Mo_sign pc = .ok (.return_, 1) → va_P (dC, dI) classes (moW h0 r cA vi vj va vb) H → va_D A (moW h0 r cA vi vj va vb) → va_S A s.heap H locs → W p l e R s m args below meth c H locs 0 0 Q (F0 m pc ls [])) {x1 : Int32} {si : Nat → Int32} {sj : Nat → Int64} {sa : Nat → Nat → Int32} {sb : Nat → Nat → Int64} (hf : f_Mo_sign_0 nf x1 si sj sa sb = some (vi, vj, va, vb)) {H : Heap} {locs : List Loc} {ls : Array Slot} (hP : va_P (dC, dI) classes (moW h0 r cA si sj sa sb) H) (hD : va_D A (moW h0 r cA si sj sa sb)) (hS : va_S A s.heap H locs) (hl : lv_has ls 2 [(0, .ref h0), (1, .int x1)]) : W p l e R s m args below meth c H locs 0 0 Q (F0 m 0 ls []) := by
  obtain ⟨hx, hb, hr, hml, hown, hts, hlocks, hRf, hRl⟩ := id C0
  unfold f_Mo_sign_0 at hf
  refine lv_aload_n hx hb d_Mo_sign_0 rfl (lv_at hl 0 rfl) ?_
  refine mg_34 (v := si 34) hx hb hts hown hK hP rfl d_Mo_sign_1 ?_
  refine lv_if_ne (tgt := 28) hx hb d_Mo_sign_4 (by decide) (fun c_1 => ?_) (fun c_1 => ?_)
  · have hf := it_f c_1 hf
    exact k_Mo_sign_28 C0 hST hA hK hE hf hP hD hS (lv_sub hl [0] rfl)
  · have hf := it_t c_1 hf
    refine lv_aload_n hx hb d_Mo_sign_7 rfl (lv_at hl 0 rfl) ?_
    obtain ⟨r_6, hc, hf⟩ := ob hf
    refine cl_S (v := (some (.int r_6))) (st1 := [.int r_6]) (va_runV (As := []) (rest := []) ⟨hx, hb, hml, hown, hts⟩ (c_Mo_look l dC dI h0 r cA nf si sj sa sb hc) (cwV 0 hts (gdV m_6_83 m_6_85 msel_49 m_1_10 m_6_86) rfl rfl rfl (by decide +kernel) ⟨Nat.le_trans (Nat.le_of_ble_eq_true rfl) hRf, Nat.le_trans (Nat.le_of_ble_eq_true rfl) hRl⟩) ((RO.pre hP hK (hST.ro hS)).vir (va_recv hK hP (ci := 10) (q0 := 0) rfl rfl)) rfl rfl hl.1 rfl (lv_room (Nat.le_of_ble_eq_true rfl)) d_Mo_sign_8 ⟨Nat.zero_le _, Nat.zero_le _⟩) rfl ?_
    refine lv_iload_n hx hb d_Mo_sign_11 rfl (lv_at hl 1 rfl) ?_
    refine lv_icmp_ne (tgt := 28) hx hb d_Mo_sign_12 (by decide) (fun c_7 => ?_) (fun c_7 => ?_)
    · have hf := it_f c_7 hf
      exact k_Mo_sign_28 C0 hST hA hK hE hf hP hD hS (lv_sub hl [0] rfl)
    · have hf := it_t c_7 hf
      refine lv_aload_n hx hb d_Mo_sign_15 rfl (lv_at hl 0 rfl) ?_
      refine lv_dup hx hb d_Mo_sign_16 rfl ?_
      refine mg_32 (v := si 32) hx hb hts hown hK hP rfl d_Mo_sign_17 ?_
      refine lv_iconst (v := 1) hx hb d_Mo_sign_20 (by decide) ?_
      refine lv_iadd hx hb d_Mo_sign_21 ?_
      refine mp_32 hx hb hts hown hK hP hD hS d_Mo_sign_22 (fun H locs hP hD hS => ?_)
      refine lv_goto (tgt := 36) hx hb d_Mo_sign_25 (by decide) ?_
      exact k_Mo_sign_36 C0 hST hA hK hE hf hP hD hS (lv_sub hl [] rfl)
end
set_option maxHeartbeats 400000 in
set_option maxRecDepth 100000 in
theorem c_Mo_sign (l : Launch) (dC : Nat → ClassId) (dI : Nat → Nat → Nat) (h0 : Nat) (r : Nat → Nat) (cA : Nat → ClassId) (sz : Nat) (nf : Nat) (p0 : Int32) (si : Nat → Int32) (sj : Nat → Int64) (sa : Nat → Nat → Int32) (sb : Nat → Nat → Int64) {vi : Nat → Int32} {vj : Nat → Int64} {va : Nat → Nat → Int32} {vb : Nat → Nat → Int64} (hf : f_Mo_sign nf p0 si sj sa sb = some (vi, vj, va, vb)) : Met l y_Mo_sign (wd y_Mo_sign b_Mo_sign 2 none) ({ frames := 1, cells := 0, slots := 0, locals := 21 }) (MU dC dI (moW h0 r cA si sj sa sb) (moT cA) sz [.ref h0, .int p0]) (MV none (fun t => va_P (dC, dI) classes (moW h0 r cA vi vj va vb) t.heap) (va_A (moW h0 r cA si sj sa sb) sz)) 0 0 (va_A (moW h0 r cA si sj sa sb) sz) :=
  met_M (plainFor_of_name (by decide)) (Nat.le_of_ble_eq_true rfl) (fun p e R s m args below meth c ls hRc hRs hsz hin C0 hST hK hP hD hl => by
    obtain ⟨hx, hb, hr, hml, hown, hts, hlocks, hRf, hRl⟩ := id C0
    subst hsz
    have hA : ∀ q : Nat, s.heap.size ≤ q → va_A (moW h0 r cA si sj sa sb) s.heap.size q := fun q h => Or.inr h
    have hS : va_S (va_A (moW h0 r cA si sj sa sb) s.heap.size) s.heap s.heap [] := va_S.rf
    unfold f_Mo_sign at hf
    exact k_Mo_sign_0 C0 hST hA hK (fun pc ls H locs hd hP hD hS => W.vret hx hb hr (fun t ht hW => ⟨⟨rfl, mo_end ht hP⟩, hS.F ht⟩) hS.2.2 hd) hf hP hD hS (lv_sub hl [0, 1] rfl))
-- ZoneFilesModel.number(II)I
def f_Mo_number_106 (nf : Nat) (x4 : Int32) (si : Nat → Int32) (sj : Nat → Int64) (sa : Nat → Nat → Int32) (sb : Nat → Nat → Int64) : Option (Int32 × (Nat → Int32) × (Nat → Int64) × (Nat → Nat → Int32) × (Nat → Nat → Int64)) :=
  some (x4, si, sj, sa, sb)
def f_Mo_number_101 (nf : Nat) (x4 : Int32) (x3 : Int32) (si : Nat → Int32) (sj : Nat → Int64) (sa : Nat → Nat → Int32) (sb : Nat → Nat → Int64) : Option (Int32 × (Nat → Int32) × (Nat → Int64) × (Nat → Nat → Int32) × (Nat → Nat → Int64)) :=
  (f_Mo_cannot nf x3 si sj sa sb).bind fun (i_4, j_5, a_6, b_7) =>
  f_Mo_number_106 nf x4 i_4 j_5 a_6 b_7
def f_Mo_number_74 (nf : Nat) (x4 : Int32) (x3 : Int32) (x1 : Int32) (x2 : Int32) (si : Nat → Int32) (sj : Nat → Int64) (sa : Nat → Nat → Int32) (sb : Nat → Nat → Int64) : Option (Int32 × (Nat → Int32) × (Nat → Int64) × (Nat → Nat → Int32) × (Nat → Nat → Int64)) :=
  if (si 34) = 0 then
  if (si 32) = x3 then
    f_Mo_number_101 nf x4 x3 si sj sa sb
    else
    if x4 < x1 then
      f_Mo_number_101 nf x4 x3 si sj sa sb
      else
      if x4 ≤ x2 then
        f_Mo_number_106 nf x4 si sj sa sb
        else
        f_Mo_number_101 nf x4 x3 si sj sa sb
  else
  f_Mo_number_106 nf x4 si sj sa sb
def f_Mo_number_8 (nf : Nat) : Nat → Int32 → Int32 → Int32 → Int32 → (Nat → Int32) → (Nat → Int64) → (Nat → Nat → Int32) → (Nat → Nat → Int64) → Option (Int32 × (Nat → Int32) × (Nat → Int64) × (Nat → Nat → Int32) × (Nat → Nat → Int64))
  | 0, _, _, _, _, _, _, _, _ => none
  | n + 1, x4, x3, x1, x2, si, sj, sa, sb =>
    if (si 34) = 0 then
    (f_Mo_look nf si sj sa sb).bind fun r_10 =>
      (f_Mo_isDigit nf r_10).bind fun r_11 =>
      if r_11 = 0 then
      f_Mo_number_74 nf x4 x3 x1 x2 si sj sa sb
      else
      if ((si 32) - x3) = (3 : Int32) then
        (f_Mo_cannot nf (si 32) si sj sa sb).bind fun (i_15, j_16, a_17, b_18) =>
          f_Mo_number_8 nf n x4 x3 x1 x2 i_15 j_16 a_17 b_18
        else
        (f_Mo_look nf si sj sa sb).bind fun r_14 =>
          f_Mo_number_8 nf n (((10 * x4) + r_14) - 48) x3 x1 x2 (va_up si 32 ((si 32) + 1)) sj sa sb
    else
    f_Mo_number_74 nf x4 x3 x1 x2 si sj sa sb
def f_Mo_number_0 (nf : Nat) (x1 : Int32) (x2 : Int32) (si : Nat → Int32) (sj : Nat → Int64) (sa : Nat → Nat → Int32) (sb : Nat → Nat → Int64) : Option (Int32 × (Nat → Int32) × (Nat → Int64) × (Nat → Nat → Int32) × (Nat → Nat → Int64)) :=
  f_Mo_number_8 nf nf 0 (si 32) x1 x2 si sj sa sb
def f_Mo_number (nf : Nat) (p0 : Int32) (p1 : Int32) (si : Nat → Int32) (sj : Nat → Int64) (sa : Nat → Nat → Int32) (sb : Nat → Nat → Int64) : Option (Int32 × (Nat → Int32) × (Nat → Int64) × (Nat → Nat → Int32) × (Nat → Nat → Int64)) :=
  f_Mo_number_0 nf p0 p1 si sj sa sb
section
variable {p : Program} {l : Launch} {e : Env} {R : Room} {s : State} {m : MethodId} {args : Array Value} {below : List Frame} {meth : Method} {c : Code} {Q : State → Prop} {dC : Nat → ClassId} {dI : Nat → Nat → Nat} {nf : Nat} {A : Nat → Prop} {h0 : Nat} {r : Nat → Nat} {cA : Nat → ClassId}
variable {r0 : Int32} {vi : Nat → Int32} {vj : Nat → Int64} {va : Nat → Nat → Int32} {vb : Nat → Nat → Int64}
set_option maxHeartbeats 400000 in
set_option maxRecDepth 100000 in
theorem k_Mo_number_106 (C0 : Cx p s m meth c args R b_Mo_number "ZoneFilesModel" 5 (some .int) 1 21) (hST : ST A s s.heap) (hA : ∀ q, s.heap.size ≤ q → A q) (hK : va_K (dC, dI) classes (moT cA) s) (hE : ∀ (pc : Nat) (ls : Array Slot) (H : Heap) (locs : List Loc), decode b_Mo_number pc = .ok (.ireturn, 1) → narrow .int (.int r0) = .int r0 → va_P (dC, dI) classes (moW h0 r cA vi vj va vb) H → va_D A (moW h0 r cA vi vj va vb) → va_S A s.heap H locs → W p l e R s m args below meth c H locs 0 0 Q (F0 m pc ls [.int r0])) {x4 : Int32} {si : Nat → Int32} {sj : Nat → Int64} {sa : Nat → Nat → Int32} {sb : Nat → Nat → Int64} (hf : f_Mo_number_106 nf x4 si sj sa sb = some (r0, vi, vj, va, vb)) {H : Heap} {locs : List Loc} {ls : Array Slot} (hP : va_P (dC, dI) classes (moW h0 r cA si sj sa sb) H) (hD : va_D A (moW h0 r cA si sj sa sb)) (hS : va_S A s.heap H locs) (hl : lv_has ls 5 [(4, .int x4)]) : W p l e R s m args below meth c H locs 0 0 Q (F0 m 106 ls []) := by
  obtain ⟨hx, hb, hr, hml, hown, hts, hlocks, hRf, hRl⟩ := id C0
  unfold f_Mo_number_106 at hf
  refine lv_iload hx hb d_Mo_number_106 (lv_at hl 0 rfl) ?_
  cases rs hf
  exact hE _ _ _ _ d_Mo_number_108 rfl hP hD hS
set_option maxHeartbeats 400000 in
set_option maxRecDepth 100000 in
theorem k_Mo_number_101 (C0 : Cx p s m meth c args R b_Mo_number "ZoneFilesModel" 5 (some .int) 1 21) (hST : ST A s s.heap) (hA : ∀ q, s.heap.size ≤ q → A q) (hK : va_K (dC, dI) classes (moT cA) s) (hE : ∀ (pc : Nat) (ls : Array Slot) (H : Heap) (locs : List Loc), decode b_Mo_number pc = .ok (.ireturn, 1) → narrow .int (.int r0) = .int r0 → va_P (dC, dI) classes (moW h0 r cA vi vj va vb) H → va_D A (moW h0 r cA vi vj va vb) → va_S A s.heap H locs → W p l e R s m args below meth c H locs 0 0 Q (F0 m pc ls [.int r0])) {x4 : Int32} {x3 : Int32} {si : Nat → Int32} {sj : Nat → Int64} {sa : Nat → Nat → Int32} {sb : Nat → Nat → Int64} (hf : f_Mo_number_101 nf x4 x3 si sj sa sb = some (r0, vi, vj, va, vb)) {H : Heap} {locs : List Loc} {ls : Array Slot} (hP : va_P (dC, dI) classes (moW h0 r cA si sj sa sb) H) (hD : va_D A (moW h0 r cA si sj sa sb)) (hS : va_S A s.heap H locs) (hl : lv_has ls 5 [(4, .int x4), (3, .int x3), (0, .ref h0)]) : W p l e R s m args below meth c H locs 0 0 Q (F0 m 101 ls []) := by
  obtain ⟨hx, hb, hr, hml, hown, hts, hlocks, hRf, hRl⟩ := id C0
  unfold f_Mo_number_101 at hf
  refine lv_aload_n hx hb d_Mo_number_101 rfl (lv_at hl 2 rfl) ?_
  refine lv_iload_n hx hb d_Mo_number_102 rfl (lv_at hl 1 rfl) ?_
  obtain ⟨⟨i_4, j_5, a_6, b_7⟩, hc, hf⟩ := ob hf
  have hFc := mo_free hD hS hA
  refine cl_M (v := none) (st1 := []) (va_runV (As := [.int x3]) (rest := []) ⟨hx, hb, hml, hown, hts⟩ (c_Mo_cannot l dC dI h0 r cA H.size nf x3 si sj sa sb hc) (cwV 1 hts (gdV m_6_96 m_6_98 msel_50 m_1_10 m_6_99) rfl rfl rfl (by decide +kernel) ⟨Nat.le_trans (Nat.le_of_ble_eq_true rfl) hRf, Nat.le_trans (Nat.le_of_ble_eq_true rfl) hRl⟩) ((MU.pre hP hK hD (hST.mu hS hFc)).vir (va_recv hK hP (ci := 10) (q0 := 0) rfl rfl)) rfl rfl hl.1 rfl (lv_room (Nat.le_of_ble_eq_true rfl)) d_Mo_number_103 ⟨Nat.zero_le _, Nat.zero_le _⟩) rfl hS (fun q _ h => hFc q h) hFc (fun t H1 locs ht hvm hB hz1 hk1 hS => ?_)
  obtain ⟨hP, hD⟩ := mo_back ht hD hB
  generalize H1 = H at hP hS ⊢
  exact k_Mo_number_106 C0 hST hA hK hE hf hP hD hS (lv_sub hl [0] rfl)
set_option maxHeartbeats 400000 in
set_option maxRecDepth 100000 in
theorem k_Mo_number_74 (C0 : Cx p s m meth c args R b_Mo_number "ZoneFilesModel" 5 (some .int) 1 21) (hST : ST A s s.heap) (hA : ∀ q, s.heap.size ≤ q → A q) (hK : va_K (dC, dI) classes (moT cA) s) (hE : ∀ (pc : Nat) (ls : Array Slot) (H : Heap) (locs : List Loc), decode b_Mo_number pc = .ok (.ireturn, 1) → narrow .int (.int r0) = .int r0 → va_P (dC, dI) classes (moW h0 r cA vi vj va vb) H → va_D A (moW h0 r cA vi vj va vb) → va_S A s.heap H locs → W p l e R s m args below meth c H locs 0 0 Q (F0 m pc ls [.int r0])) {x4 : Int32} {x3 : Int32} {x1 : Int32} {x2 : Int32} {si : Nat → Int32} {sj : Nat → Int64} {sa : Nat → Nat → Int32} {sb : Nat → Nat → Int64} (hf : f_Mo_number_74 nf x4 x3 x1 x2 si sj sa sb = some (r0, vi, vj, va, vb)) {H : Heap} {locs : List Loc} {ls : Array Slot} (hP : va_P (dC, dI) classes (moW h0 r cA si sj sa sb) H) (hD : va_D A (moW h0 r cA si sj sa sb)) (hS : va_S A s.heap H locs) (hl : lv_has ls 5 [(4, .int x4), (3, .int x3), (0, .ref h0), (1, .int x1), (2, .int x2)]) : W p l e R s m args below meth c H locs 0 0 Q (F0 m 74 ls []) := by
  obtain ⟨hx, hb, hr, hml, hown, hts, hlocks, hRf, hRl⟩ := id C0
  unfold f_Mo_number_74 at hf
  refine lv_aload_n hx hb d_Mo_number_74 rfl (lv_at hl 2 rfl) ?_
  refine mg_34 (v := si 34) hx hb hts hown hK hP rfl d_Mo_number_75 ?_
  refine lv_if_ne (tgt := 106) hx hb d_Mo_number_78 (by decide) (fun c_2 => ?_) (fun c_2 => ?_)
  · have hf := it_f c_2 hf
    exact k_Mo_number_106 C0 hST hA hK hE hf hP hD hS (lv_sub hl [0] rfl)
  · have hf := it_t c_2 hf
    refine lv_aload_n hx hb d_Mo_number_81 rfl (lv_at hl 2 rfl) ?_
    refine mg_32 (v := si 32) hx hb hts hown hK hP rfl d_Mo_number_82 ?_
    refine lv_iload_n hx hb d_Mo_number_85 rfl (lv_at hl 1 rfl) ?_
    refine lv_icmp_eq (tgt := 101) hx hb d_Mo_number_86 (by decide) (fun c_3 => ?_) (fun c_3 => ?_)
    · have hf := it_t c_3 hf
      exact k_Mo_number_101 C0 hST hA hK hE hf hP hD hS (lv_sub hl [0, 1, 2] rfl)
    · have hf := it_f c_3 hf
      refine lv_iload hx hb d_Mo_number_89 (lv_at hl 0 rfl) ?_
      refine lv_iload_n hx hb d_Mo_number_91 rfl (lv_at hl 3 rfl) ?_
      refine lv_icmp_lt (tgt := 101) hx hb d_Mo_number_92 (by decide) (fun c_8 => ?_) (fun c_8 => ?_)
      · have hf := it_t c_8 hf
        exact k_Mo_number_101 C0 hST hA hK hE hf hP hD hS (lv_sub hl [0, 1, 2] rfl)
      · have hf := it_f c_8 hf
        refine lv_iload hx hb d_Mo_number_95 (lv_at hl 0 rfl) ?_
        refine lv_iload_n hx hb d_Mo_number_97 rfl (lv_at hl 4 rfl) ?_
        refine lv_icmp_le (tgt := 106) hx hb d_Mo_number_98 (by decide) (fun c_9 => ?_) (fun c_9 => ?_)
        · have hf := it_t c_9 hf
          exact k_Mo_number_106 C0 hST hA hK hE hf hP hD hS (lv_sub hl [0] rfl)
        · have hf := it_f c_9 hf
          exact k_Mo_number_101 C0 hST hA hK hE hf hP hD hS (lv_sub hl [0, 1, 2] rfl)
set_option maxHeartbeats 400000 in
set_option maxRecDepth 100000 in
theorem k_Mo_number_8 (C0 : Cx p s m meth c args R b_Mo_number "ZoneFilesModel" 5 (some .int) 1 21) (hST : ST A s s.heap) (hA : ∀ q, s.heap.size ≤ q → A q) (hK : va_K (dC, dI) classes (moT cA) s) (hE : ∀ (pc : Nat) (ls : Array Slot) (H : Heap) (locs : List Loc), decode b_Mo_number pc = .ok (.ireturn, 1) → narrow .int (.int r0) = .int r0 → va_P (dC, dI) classes (moW h0 r cA vi vj va vb) H → va_D A (moW h0 r cA vi vj va vb) → va_S A s.heap H locs → W p l e R s m args below meth c H locs 0 0 Q (F0 m pc ls [.int r0])) : ∀ (n : Nat) {x4 : Int32} {x3 : Int32} {x1 : Int32} {x2 : Int32} {si : Nat → Int32} {sj : Nat → Int64} {sa : Nat → Nat → Int32} {sb : Nat → Nat → Int64}, f_Mo_number_8 nf n x4 x3 x1 x2 si sj sa sb = some (r0, vi, vj, va, vb) → ∀ {H : Heap} {locs : List Loc} {ls : Array Slot}, va_P (dC, dI) classes (moW h0 r cA si sj sa sb) H → va_D A (moW h0 r cA si sj sa sb) → va_S A s.heap H locs → lv_has ls 5 [(4, .int x4), (3, .int x3), (0, .ref h0), (1, .int x1), (2, .int x2)] → W p l e R s m args below meth c H locs 0 0 Q (F0 m 8 ls []) := by
  obtain ⟨hx, hb, hr, hml, hown, hts, hlocks, hRf, hRl⟩ := id C0
  intro n
  induction n with
  | zero =>
    intro x4 x3 x1 x2 si sj sa sb hf
    exact absurd hf (by simp [f_Mo_number_8])
  | succ n ih =>
    intro x4 x3 x1 x2 si sj sa sb hf H locs ls hP hD hS hl
    unfold f_Mo_number_8 at hf
    refine lv_aload_n hx hb d_Mo_number_8 rfl (lv_at hl 2 rfl) ?_
    refine mg_34 (v := si 34) hx hb hts hown hK hP rfl d_Mo_number_9 ?_
    refine lv_if_ne (tgt := 74) hx hb d_Mo_number_12 (by decide) (fun c_1 => ?_) (fun c_1 => ?_)
    · have hf := it_f c_1 hf
      exact k_Mo_number_74 C0 hST hA hK hE hf hP hD hS (lv_sub hl [0, 1, 2, 3, 4] rfl)
    · have hf := it_t c_1 hf
      refine lv_aload_n hx hb d_Mo_number_15 rfl (lv_at hl 2 rfl) ?_
      obtain ⟨r_10, hc, hf⟩ := ob hf
      refine cl_S (v := (some (.int r_10))) (st1 := [.int r_10]) (va_runV (As := []) (rest := []) ⟨hx, hb, hml, hown, hts⟩ (c_Mo_look l dC dI h0 r cA nf si sj sa sb hc) (cwV 0 hts (gdV m_6_83 m_6_85 msel_49 m_1_10 m_6_86) rfl rfl rfl (by decide +kernel) ⟨Nat.le_trans (Nat.le_of_ble_eq_true rfl) hRf, Nat.le_trans (Nat.le_of_ble_eq_true rfl) hRl⟩) ((RO.pre hP hK (hST.ro hS)).vir (va_recv hK hP (ci := 10) (q0 := 0) rfl rfl)) rfl rfl hl.1 rfl (lv_room (Nat.le_of_ble_eq_true rfl)) d_Mo_number_16 ⟨Nat.zero_le _, Nat.zero_le _⟩) rfl ?_
      obtain ⟨r_11, hc, hf⟩ := ob hf
      refine cl_S (v := (some (.int r_11))) (st1 := [.int r_11]) (va_runS (As := [.int r_10]) (rest := []) ⟨hx, hb, hml, hown, hts⟩ (c_Mo_isDigit l dC dI nf r_10 hc) (va_cwS 1 hts (gdS m_6_90 m_6_91 m_1_10 m_6_92) rfl rfl rfl (by decide +kernel) ⟨Nat.le_trans (Nat.le_of_ble_eq_true rfl) hRf, Nat.le_trans (Nat.le_of_ble_eq_true rfl) hRl⟩) (RO.pre0 hK (hST.ro hS)).sta rfl rfl hl.1 rfl (lv_room (Nat.le_of_ble_eq_true rfl)) d_Mo_number_19 ⟨Nat.zero_le _, Nat.zero_le _⟩) rfl ?_
      refine lv_if_eq (tgt := 74) hx hb d_Mo_number_22 (by decide) (fun c_12 => ?_) (fun c_12 => ?_)
      · have hf := it_t c_12 hf
        exact k_Mo_number_74 C0 hST hA hK hE hf hP hD hS (lv_sub hl [0, 1, 2, 3, 4] rfl)
      · have hf := it_f c_12 hf
        refine lv_aload_n hx hb d_Mo_number_25 rfl (lv_at hl 2 rfl) ?_
        refine mg_32 (v := si 32) hx hb hts hown hK hP rfl d_Mo_number_26 ?_
        refine lv_iload_n hx hb d_Mo_number_29 rfl (lv_at hl 1 rfl) ?_
        refine lv_isub hx hb d_Mo_number_30 ?_
        refine lv_iconst (v := 3) hx hb d_Mo_number_31 (by decide) ?_
        refine lv_icmp_ne (tgt := 46) hx hb d_Mo_number_32 (by decide) (fun c_13 => ?_) (fun c_13 => ?_)
        · have hf := it_f c_13 hf
          refine lv_bipush (v := 10) hx hb d_Mo_number_46 (by decide) ?_
          refine lv_iload hx hb d_Mo_number_48 (lv_at hl 0 rfl) ?_
          refine lv_imul hx hb d_Mo_number_50 ?_
          refine lv_aload_n hx hb d_Mo_number_51 rfl (lv_at hl 2 rfl) ?_
          obtain ⟨r_14, hc, hf⟩ := ob hf
          refine cl_S (v := (some (.int r_14))) (st1 := [.int r_14, .int (10 * x4)]) (va_runV (As := []) (rest := [.int (10 * x4)]) ⟨hx, hb, hml, hown, hts⟩ (c_Mo_look l dC dI h0 r cA nf si sj sa sb hc) (cwV 0 hts (gdV m_6_83 m_6_85 msel_49 m_1_10 m_6_86) rfl rfl rfl (by decide +kernel) ⟨Nat.le_trans (Nat.le_of_ble_eq_true rfl) hRf, Nat.le_trans (Nat.le_of_ble_eq_true rfl) hRl⟩) ((RO.pre hP hK (hST.ro hS)).vir (va_recv hK hP (ci := 10) (q0 := 0) rfl rfl)) rfl rfl hl.1 rfl (lv_room (Nat.le_of_ble_eq_true rfl)) d_Mo_number_52 ⟨Nat.zero_le _, Nat.zero_le _⟩) rfl ?_
          refine lv_iadd hx hb d_Mo_number_55 ?_
          refine lv_bipush (v := 48) hx hb d_Mo_number_56 (by decide) ?_
          refine lv_isub hx hb d_Mo_number_58 ?_
          refine lv_istore (lv' := [(4, .int (((10 * x4) + r_14) - 48)), (3, .int x3), (0, .ref h0), (1, .int x1), (2, .int x2)]) hx hb d_Mo_number_59 hl (by decide) rfl (fun ls hl => ?_)
          refine lv_aload_n hx hb d_Mo_number_61 rfl (lv_at hl 2 rfl) ?_
          refine lv_dup hx hb d_Mo_number_62 rfl ?_
          refine mg_32 (v := si 32) hx hb hts hown hK hP rfl d_Mo_number_63 ?_
          refine lv_iconst (v := 1) hx hb d_Mo_number_66 (by decide) ?_
          refine lv_iadd hx hb d_Mo_number_67 ?_
          refine mp_32 hx hb hts hown hK hP hD hS d_Mo_number_68 (fun H locs hP hD hS => ?_)
          refine lv_goto (tgt := 8) hx hb d_Mo_number_71 (by decide) ?_
          exact ih hf hP hD hS (lv_sub hl [0, 1, 2, 3, 4] rfl)
        · have hf := it_t c_13 hf
          refine lv_aload_n hx hb d_Mo_number_35 rfl (lv_at hl 2 rfl) ?_
          refine lv_aload_n hx hb d_Mo_number_36 rfl (lv_at hl 2 rfl) ?_
          refine mg_32 (v := si 32) hx hb hts hown hK hP rfl d_Mo_number_37 ?_
          obtain ⟨⟨i_15, j_16, a_17, b_18⟩, hc, hf⟩ := ob hf
          have hFc := mo_free hD hS hA
          refine cl_M (v := none) (st1 := []) (va_runV (As := [.int (si 32)]) (rest := []) ⟨hx, hb, hml, hown, hts⟩ (c_Mo_cannot l dC dI h0 r cA H.size nf (si 32) si sj sa sb hc) (cwV 1 hts (gdV m_6_96 m_6_98 msel_50 m_1_10 m_6_99) rfl rfl rfl (by decide +kernel) ⟨Nat.le_trans (Nat.le_of_ble_eq_true rfl) hRf, Nat.le_trans (Nat.le_of_ble_eq_true rfl) hRl⟩) ((MU.pre hP hK hD (hST.mu hS hFc)).vir (va_recv hK hP (ci := 10) (q0 := 0) rfl rfl)) rfl rfl hl.1 rfl (lv_room (Nat.le_of_ble_eq_true rfl)) d_Mo_number_40 ⟨Nat.zero_le _, Nat.zero_le _⟩) rfl hS (fun q _ h => hFc q h) hFc (fun t H1 locs ht hvm hB hz1 hk1 hS => ?_)
          obtain ⟨hP, hD⟩ := mo_back ht hD hB
          generalize H1 = H at hP hS ⊢
          refine lv_goto (tgt := 8) hx hb d_Mo_number_43 (by decide) ?_
          exact ih hf hP hD hS (lv_sub hl [0, 1, 2, 3, 4] rfl)
set_option maxHeartbeats 400000 in
set_option maxRecDepth 100000 in
theorem k_Mo_number_0 (C0 : Cx p s m meth c args R b_Mo_number "ZoneFilesModel" 5 (some .int) 1 21) (hST : ST A s s.heap) (hA : ∀ q, s.heap.size ≤ q → A q) (hK : va_K (dC, dI) classes (moT cA) s) (hE : ∀ (pc : Nat) (ls : Array Slot) (H : Heap) (locs : List Loc), decode b_Mo_number pc = .ok (.ireturn, 1) → narrow .int (.int r0) = .int r0 → va_P (dC, dI) classes (moW h0 r cA vi vj va vb) H → va_D A (moW h0 r cA vi vj va vb) → va_S A s.heap H locs → W p l e R s m args below meth c H locs 0 0 Q (F0 m pc ls [.int r0])) {x1 : Int32} {x2 : Int32} {si : Nat → Int32} {sj : Nat → Int64} {sa : Nat → Nat → Int32} {sb : Nat → Nat → Int64} (hf : f_Mo_number_0 nf x1 x2 si sj sa sb = some (r0, vi, vj, va, vb)) {H : Heap} {locs : List Loc} {ls : Array Slot} (hP : va_P (dC, dI) classes (moW h0 r cA si sj sa sb) H) (hD : va_D A (moW h0 r cA si sj sa sb)) (hS : va_S A s.heap H locs) (hl : lv_has ls 5 [(0, .ref h0), (1, .int x1), (2, .int x2)]) : W p l e R s m args below meth c H locs 0 0 Q (F0 m 0 ls []) := by
  obtain ⟨hx, hb, hr, hml, hown, hts, hlocks, hRf, hRl⟩ := id C0
  unfold f_Mo_number_0 at hf
  refine lv_aload_n hx hb d_Mo_number_0 rfl (lv_at hl 0 rfl) ?_
  refine mg_32 (v := si 32) hx hb hts hown hK hP rfl d_Mo_number_1 ?_
  refine lv_istore_n (lv' := [(3, .int (si 32)), (0, .ref h0), (1, .int x1), (2, .int x2)]) hx hb d_Mo_number_4 rfl hl (by decide) rfl (fun ls hl => ?_)
  refine lv_iconst (v := 0) hx hb d_Mo_number_5 (by decide) ?_
  refine lv_istore (lv' := [(4, .int 0), (3, .int (si 32)), (0, .ref h0), (1, .int x1), (2, .int x2)]) hx hb d_Mo_number_6 hl (by decide) rfl (fun ls hl => ?_)
  exact k_Mo_number_8 C0 hST hA hK hE nf hf hP hD hS (lv_sub hl [0, 1, 2, 3, 4] rfl)
end
set_option maxHeartbeats 400000 in
set_option maxRecDepth 100000 in
theorem c_Mo_number (l : Launch) (dC : Nat → ClassId) (dI : Nat → Nat → Nat) (h0 : Nat) (r : Nat → Nat) (cA : Nat → ClassId) (sz : Nat) (nf : Nat) (p0 : Int32) (p1 : Int32) (si : Nat → Int32) (sj : Nat → Int64) (sa : Nat → Nat → Int32) (sb : Nat → Nat → Int64) {r0 : Int32} {vi : Nat → Int32} {vj : Nat → Int64} {va : Nat → Nat → Int32} {vb : Nat → Nat → Int64} (hf : f_Mo_number nf p0 p1 si sj sa sb = some (r0, vi, vj, va, vb)) : Met l y_Mo_number (wd y_Mo_number b_Mo_number 5 (some .int)) ({ frames := 1, cells := 0, slots := 0, locals := 21 }) (MU dC dI (moW h0 r cA si sj sa sb) (moT cA) sz [.ref h0, .int p0, .int p1]) (MV (some (.int r0)) (fun t => va_P (dC, dI) classes (moW h0 r cA vi vj va vb) t.heap) (va_A (moW h0 r cA si sj sa sb) sz)) 0 0 (va_A (moW h0 r cA si sj sa sb) sz) :=
  met_M (plainFor_of_name (by decide)) (Nat.le_of_ble_eq_true rfl) (fun p e R s m args below meth c ls hRc hRs hsz hin C0 hST hK hP hD hl => by
    obtain ⟨hx, hb, hr, hml, hown, hts, hlocks, hRf, hRl⟩ := id C0
    subst hsz
    have hA : ∀ q : Nat, s.heap.size ≤ q → va_A (moW h0 r cA si sj sa sb) s.heap.size q := fun q h => Or.inr h
    have hS : va_S (va_A (moW h0 r cA si sj sa sb) s.heap.size) s.heap s.heap [] := va_S.rf
    unfold f_Mo_number at hf
    exact k_Mo_number_0 C0 hST hA hK (fun pc ls H locs hd hn hP hD hS => W.zret hx hb hr hn (fun t ht hW => ⟨⟨rfl, mo_end ht hP⟩, hS.F ht⟩) hS.2.2 hd) hf hP hD hS (lv_sub hl [0, 1, 2] rfl))
-- ZoneFilesModel.nameText(I)V
def f_Mo_nameText_149 (nf : Nat) (x4 : Int32) (x1 : Int32) (si : Nat → Int32) (sj : Nat → Int64) (sa : Nat → Nat → Int32) (sb : Nat → Nat → Int64) : Option ((Nat → Int32) × (Nat → Int64) × (Nat → Nat → Int32) × (Nat → Nat → Int64)) :=
  if (8 + x1) < 0 ∨ 10 ≤ (8 + x1).toNatClampNeg then none else
  some (si, sj, va_up sa 25 (upd (sa 25) (8 + x1).toNatClampNeg x4), sb)
def f_Mo_nameText_139 (nf : Nat) (x4 : Int32) (x3 : Int32) (x1 : Int32) (si : Nat → Int32) (sj : Nat → Int64) (sa : Nat → Nat → Int32) (sb : Nat → Nat → Int64) : Option ((Nat → Int32) × (Nat → Int64) × (Nat → Nat → Int32) × (Nat → Nat → Int64)) :=
  if x3 = 0 then
  f_Mo_nameText_149 nf x4 x1 si sj sa sb
  else
  (f_Mo_sign nf 62 si sj sa sb).bind fun (i_8, j_9, a_10, b_11) =>
    f_Mo_nameText_149 nf x4 x1 i_8 j_9 a_10 b_11
def f_Mo_nameText_125 (nf : Nat) (x4 : Int32) (x3 : Int32) (x1 : Int32) (si : Nat → Int32) (sj : Nat → Int64) (sa : Nat → Nat → Int32) (sb : Nat → Nat → Int64) : Option ((Nat → Int32) × (Nat → Int64) × (Nat → Nat → Int32) × (Nat → Nat → Int64)) :=
  if (3 : Int32) ≤ x4 then
  f_Mo_nameText_139 nf x4 x3 x1 si sj sa sb
  else
  (f_Mo_cannot nf (si 32) si sj sa sb).bind fun (i_12, j_13, a_14, b_15) =>
    f_Mo_nameText_139 nf x4 x3 x1 i_12 j_13 a_14 b_15
def f_Mo_nameText_78 (nf : Nat) (K44 : Int32 → Int32 → Int32 → Int32 → (Nat → Int32) → (Nat → Int64) → (Nat → Nat → Int32) → (Nat → Nat → Int64) → Option ((Nat → Int32) × (Nat → Int64) × (Nat → Nat → Int32) × (Nat → Nat → Int64))) (x4 : Int32) (x3 : Int32) (x2 : Int32) (x1 : Int32) (si : Nat → Int32) (sj : Nat → Int64) (sa : Nat → Nat → Int32) (sb : Nat → Nat → Int64) : Option ((Nat → Int32) × (Nat → Int64) × (Nat → Nat → Int32) × (Nat → Nat → Int64)) :=
  if x4 = (10 : Int32) then
  (f_Mo_cannot nf (si 32) si sj sa sb).bind fun (i_23, j_24, a_25, b_26) =>
    K44 x4 x3 x2 x1 i_23 j_24 a_25 b_26
  else
  (f_Mo_look nf si sj sa sb).bind fun r_21 =>
    if (x2 + x4) < 0 ∨ 100 ≤ (x2 + x4).toNatClampNeg then none else
    K44 (x4 + 1) x3 x2 x1 (va_up si 32 ((si 32) + 1)) sj (va_up sa 26 (upd (sa 26) (x2 + x4).toNatClampNeg r_21)) sb
def f_Mo_nameText_44 (nf : Nat) : Nat → Int32 → Int32 → Int32 → Int32 → (Nat → Int32) → (Nat → Int64) → (Nat → Nat → Int32) → (Nat → Nat → Int64) → Option ((Nat → Int32) × (Nat → Int64) × (Nat → Nat → Int32) × (Nat → Nat → Int64))
  | 0, _, _, _, _, _, _, _, _ => none
  | n + 1, x4, x3, x2, x1, si, sj, sa, sb =>
    if (si 34) = 0 then
    if x3 = 0 then
      (f_Mo_look nf si sj sa sb).bind fun r_17 =>
        (f_Mo_isLetter nf r_17).bind fun r_18 =>
        if r_18 = 0 then
        f_Mo_nameText_125 nf x4 x3 x1 si sj sa sb
        else
        f_Mo_nameText_78 nf (f_Mo_nameText_44 nf n) x4 x3 x2 x1 si sj sa sb
      else
      (f_Mo_look nf si sj sa sb).bind fun r_27 =>
        (f_Mo_isNamed nf r_27).bind fun r_28 =>
        if r_28 = 0 then
        f_Mo_nameText_125 nf x4 x3 x1 si sj sa sb
        else
        f_Mo_nameText_78 nf (f_Mo_nameText_44 nf n) x4 x3 x2 x1 si sj sa sb
    else
    f_Mo_nameText_125 nf x4 x3 x1 si sj sa sb
def f_Mo_nameText_37 (nf : Nat) (x3 : Int32) (x2 : Int32) (x1 : Int32) (s0 : Int32) (s1 : Int32) (si : Nat → Int32) (sj : Nat → Int64) (sa : Nat → Nat → Int32) (sb : Nat → Nat → Int64) : Option ((Nat → Int32) × (Nat → Int64) × (Nat → Nat → Int32) × (Nat → Nat → Int64)) :=
  f_Mo_nameText_44 nf nf 0 x3 x2 x1 (va_up si 32 (s1 + s0)) sj sa sb
def f_Mo_nameText_22 (nf : Nat) (x2 : Int32) (x1 : Int32) (s0 : Int32) (si : Nat → Int32) (sj : Nat → Int64) (sa : Nat → Nat → Int32) (sb : Nat → Nat → Int64) : Option ((Nat → Int32) × (Nat → Int64) × (Nat → Nat → Int32) × (Nat → Nat → Int64)) :=
  if s0 = 0 then
  f_Mo_nameText_37 nf s0 x2 x1 0 (si 32) si sj sa sb
  else
  f_Mo_nameText_37 nf s0 x2 x1 1 (si 32) si sj sa sb
def f_Mo_nameText_0 (nf : Nat) (x1 : Int32) (si : Nat → Int32) (sj : Nat → Int64) (sa : Nat → Nat → Int32) (sb : Nat → Nat → Int64) : Option ((Nat → Int32) × (Nat → Int64) × (Nat → Nat → Int32) × (Nat → Nat → Int64)) :=
  (f_Mo_look nf si sj sa sb).bind fun r_1 =>
  if r_1 = (60 : Int32) then
  f_Mo_nameText_22 nf (80 + (10 * x1)) x1 1 si sj sa sb
  else
  f_Mo_nameText_22 nf (80 + (10 * x1)) x1 0 si sj sa sb
def f_Mo_nameText (nf : Nat) (p0 : Int32) (si : Nat → Int32) (sj : Nat → Int64) (sa : Nat → Nat → Int32) (sb : Nat → Nat → Int64) : Option ((Nat → Int32) × (Nat → Int64) × (Nat → Nat → Int32) × (Nat → Nat → Int64)) :=
  f_Mo_nameText_0 nf p0 si sj sa sb
section
variable {p : Program} {l : Launch} {e : Env} {R : Room} {s : State} {m : MethodId} {args : Array Value} {below : List Frame} {meth : Method} {c : Code} {Q : State → Prop} {dC : Nat → ClassId} {dI : Nat → Nat → Nat} {nf : Nat} {A : Nat → Prop} {h0 : Nat} {r : Nat → Nat} {cA : Nat → ClassId}
variable {vi : Nat → Int32} {vj : Nat → Int64} {va : Nat → Nat → Int32} {vb : Nat → Nat → Int64}
set_option maxHeartbeats 400000 in
set_option maxRecDepth 100000 in
theorem k_Mo_nameText_149 (C0 : Cx p s m meth c args R b_Mo_nameText "ZoneFilesModel" 5 none 2 42) (hST : ST A s s.heap) (hA : ∀ q, s.heap.size ≤ q → A q) (hK : va_K (dC, dI) classes (moT cA) s) (hE : ∀ (pc : Nat) (ls : Array Slot) (H : Heap) (locs : List Loc), decode b_Mo_nameText pc = .ok (.return_, 1) → va_P (dC, dI) classes (moW h0 r cA vi vj va vb) H → va_D A (moW h0 r cA vi vj va vb) → va_S A s.heap H locs → W p l e R s m args below meth c H locs 0 0 Q (F0 m pc ls [])) {x4 : Int32} {x1 : Int32} {si : Nat → Int32} {sj : Nat → Int64} {sa : Nat → Nat → Int32} {sb : Nat → Nat → Int64} (hf : f_Mo_nameText_149 nf x4 x1 si sj sa sb = some (vi, vj, va, vb)) {H : Heap} {locs : List Loc} {ls : Array Slot} (hP : va_P (dC, dI) classes (moW h0 r cA si sj sa sb) H) (hD : va_D A (moW h0 r cA si sj sa sb)) (hS : va_S A s.heap H locs) (hl : lv_has ls 5 [(4, .int x4), (0, .ref h0), (1, .int x1)]) : W p l e R s m args below meth c H locs 0 0 Q (F0 m 149 ls []) := by
  obtain ⟨hx, hb, hr, hml, hown, hts, hlocks, hRf, hRl⟩ := id C0
  unfold f_Mo_nameText_149 at hf
  refine lv_aload_n hx hb d_Mo_nameText_149 rfl (lv_at hl 1 rfl) ?_
  refine mg_25 hx hb hts hown hK hP d_Mo_nameText_150 ?_
  refine lv_bipush (v := 8) hx hb d_Mo_nameText_153 (by decide) ?_
  refine lv_iload_n hx hb d_Mo_nameText_155 rfl (lv_at hl 2 rfl) ?_
  refine lv_iadd hx hb d_Mo_nameText_156 ?_
  refine lv_iload hx hb d_Mo_nameText_157 (lv_at hl 0 rfl) ?_
  obtain ⟨c_7, hf⟩ := it_n hf
  refine mz_25 hx hb hK hP hD hS c_7 d_Mo_nameText_159 (fun H locs hP hD hS => ?_)
  cases rs hf
  exact hE _ _ _ _ d_Mo_nameText_160 hP hD hS
set_option maxHeartbeats 400000 in
set_option maxRecDepth 100000 in
theorem k_Mo_nameText_139 (C0 : Cx p s m meth c args R b_Mo_nameText "ZoneFilesModel" 5 none 2 42) (hST : ST A s s.heap) (hA : ∀ q, s.heap.size ≤ q → A q) (hK : va_K (dC, dI) classes (moT cA) s) (hE : ∀ (pc : Nat) (ls : Array Slot) (H : Heap) (locs : List Loc), decode b_Mo_nameText pc = .ok (.return_, 1) → va_P (dC, dI) classes (moW h0 r cA vi vj va vb) H → va_D A (moW h0 r cA vi vj va vb) → va_S A s.heap H locs → W p l e R s m args below meth c H locs 0 0 Q (F0 m pc ls [])) {x4 : Int32} {x3 : Int32} {x1 : Int32} {si : Nat → Int32} {sj : Nat → Int64} {sa : Nat → Nat → Int32} {sb : Nat → Nat → Int64} (hf : f_Mo_nameText_139 nf x4 x3 x1 si sj sa sb = some (vi, vj, va, vb)) {H : Heap} {locs : List Loc} {ls : Array Slot} (hP : va_P (dC, dI) classes (moW h0 r cA si sj sa sb) H) (hD : va_D A (moW h0 r cA si sj sa sb)) (hS : va_S A s.heap H locs) (hl : lv_has ls 5 [(4, .int x4), (3, .int x3), (0, .ref h0), (1, .int x1)]) : W p l e R s m args below meth c H locs 0 0 Q (F0 m 139 ls []) := by
  obtain ⟨hx, hb, hr, hml, hown, hts, hlocks, hRf, hRl⟩ := id C0
  unfold f_Mo_nameText_139 at hf
  refine lv_iload_n hx hb d_Mo_nameText_139 rfl (lv_at hl 1 rfl) ?_
  refine lv_if_eq (tgt := 149) hx hb d_Mo_nameText_140 (by decide) (fun c_6 => ?_) (fun c_6 => ?_)
  · have hf := it_t c_6 hf
    exact k_Mo_nameText_149 C0 hST hA hK hE hf hP hD hS (lv_sub hl [0, 2, 3] rfl)
  · have hf := it_f c_6 hf
    refine lv_aload_n hx hb d_Mo_nameText_143 rfl (lv_at hl 2 rfl) ?_
    refine lv_bipush (v := 62) hx hb d_Mo_nameText_144 (by decide) ?_
    obtain ⟨⟨i_8, j_9, a_10, b_11⟩, hc, hf⟩ := ob hf
    have hFc := mo_free hD hS hA
    refine cl_M (v := none) (st1 := []) (va_runV (As := [.int 62]) (rest := []) ⟨hx, hb, hml, hown, hts⟩ (c_Mo_sign l dC dI h0 r cA H.size nf 62 si sj sa sb hc) (cwV 1 hts (gdV m_6_100 m_6_102 msel_51 m_1_10 m_6_103) rfl rfl rfl (by decide +kernel) ⟨Nat.le_trans (Nat.le_of_ble_eq_true rfl) hRf, Nat.le_trans (Nat.le_of_ble_eq_true rfl) hRl⟩) ((MU.pre hP hK hD (hST.mu hS hFc)).vir (va_recv hK hP (ci := 10) (q0 := 0) rfl rfl)) rfl rfl hl.1 rfl (lv_room (Nat.le_of_ble_eq_true rfl)) d_Mo_nameText_146 ⟨Nat.zero_le _, Nat.zero_le _⟩) rfl hS (fun q _ h => hFc q h) hFc (fun t H1 locs ht hvm hB hz1 hk1 hS => ?_)
    obtain ⟨hP, hD⟩ := mo_back ht hD hB
    generalize H1 = H at hP hS ⊢
    exact k_Mo_nameText_149 C0 hST hA hK hE hf hP hD hS (lv_sub hl [0, 2, 3] rfl)
set_option maxHeartbeats 400000 in
set_option maxRecDepth 100000 in
theorem k_Mo_nameText_125 (C0 : Cx p s m meth c args R b_Mo_nameText "ZoneFilesModel" 5 none 2 42) (hST : ST A s s.heap) (hA : ∀ q, s.heap.size ≤ q → A q) (hK : va_K (dC, dI) classes (moT cA) s) (hE : ∀ (pc : Nat) (ls : Array Slot) (H : Heap) (locs : List Loc), decode b_Mo_nameText pc = .ok (.return_, 1) → va_P (dC, dI) classes (moW h0 r cA vi vj va vb) H → va_D A (moW h0 r cA vi vj va vb) → va_S A s.heap H locs → W p l e R s m args below meth c H locs 0 0 Q (F0 m pc ls [])) {x4 : Int32} {x3 : Int32} {x1 : Int32} {si : Nat → Int32} {sj : Nat → Int64} {sa : Nat → Nat → Int32} {sb : Nat → Nat → Int64} (hf : f_Mo_nameText_125 nf x4 x3 x1 si sj sa sb = some (vi, vj, va, vb)) {H : Heap} {locs : List Loc} {ls : Array Slot} (hP : va_P (dC, dI) classes (moW h0 r cA si sj sa sb) H) (hD : va_D A (moW h0 r cA si sj sa sb)) (hS : va_S A s.heap H locs) (hl : lv_has ls 5 [(4, .int x4), (3, .int x3), (0, .ref h0), (1, .int x1)]) : W p l e R s m args below meth c H locs 0 0 Q (F0 m 125 ls []) := by
  obtain ⟨hx, hb, hr, hml, hown, hts, hlocks, hRf, hRl⟩ := id C0
  unfold f_Mo_nameText_125 at hf
  refine lv_iload hx hb d_Mo_nameText_125 (lv_at hl 0 rfl) ?_
  refine lv_iconst (v := 3) hx hb d_Mo_nameText_127 (by decide) ?_
  refine lv_icmp_ge (tgt := 139) hx hb d_Mo_nameText_128 (by decide) (fun c_5 => ?_) (fun c_5 => ?_)
  · have hf := it_t c_5 hf
    exact k_Mo_nameText_139 C0 hST hA hK hE hf hP hD hS (lv_sub hl [0, 1, 2, 3] rfl)
  · have hf := it_f c_5 hf
    refine lv_aload_n hx hb d_Mo_nameText_131 rfl (lv_at hl 2 rfl) ?_
    refine lv_aload_n hx hb d_Mo_nameText_132 rfl (lv_at hl 2 rfl) ?_
    refine mg_32 (v := si 32) hx hb hts hown hK hP rfl d_Mo_nameText_133 ?_
    obtain ⟨⟨i_12, j_13, a_14, b_15⟩, hc, hf⟩ := ob hf
    have hFc := mo_free hD hS hA
    refine cl_M (v := none) (st1 := []) (va_runV (As := [.int (si 32)]) (rest := []) ⟨hx, hb, hml, hown, hts⟩ (c_Mo_cannot l dC dI h0 r cA H.size nf (si 32) si sj sa sb hc) (cwV 1 hts (gdV m_6_96 m_6_98 msel_50 m_1_10 m_6_99) rfl rfl rfl (by decide +kernel) ⟨Nat.le_trans (Nat.le_of_ble_eq_true rfl) hRf, Nat.le_trans (Nat.le_of_ble_eq_true rfl) hRl⟩) ((MU.pre hP hK hD (hST.mu hS hFc)).vir (va_recv hK hP (ci := 10) (q0 := 0) rfl rfl)) rfl rfl hl.1 rfl (lv_room (Nat.le_of_ble_eq_true rfl)) d_Mo_nameText_136 ⟨Nat.zero_le _, Nat.zero_le _⟩) rfl hS (fun q _ h => hFc q h) hFc (fun t H1 locs ht hvm hB hz1 hk1 hS => ?_)
    obtain ⟨hP, hD⟩ := mo_back ht hD hB
    generalize H1 = H at hP hS ⊢
    exact k_Mo_nameText_139 C0 hST hA hK hE hf hP hD hS (lv_sub hl [0, 1, 2, 3] rfl)
set_option maxHeartbeats 400000 in
set_option maxRecDepth 100000 in
theorem k_Mo_nameText_78 (C0 : Cx p s m meth c args R b_Mo_nameText "ZoneFilesModel" 5 none 2 42) (hST : ST A s s.heap) (hA : ∀ q, s.heap.size ≤ q → A q) (hK : va_K (dC, dI) classes (moT cA) s) (hE : ∀ (pc : Nat) (ls : Array Slot) (H : Heap) (locs : List Loc), decode b_Mo_nameText pc = .ok (.return_, 1) → va_P (dC, dI) classes (moW h0 r cA vi vj va vb) H → va_D A (moW h0 r cA vi vj va vb) → va_S A s.heap H locs → W p l e R s m args below meth c H locs 0 0 Q (F0 m pc ls [])) {K44 : Int32 → Int32 → Int32 → Int32 → (Nat → Int32) → (Nat → Int64) → (Nat → Nat → Int32) → (Nat → Nat → Int64) → Option ((Nat → Int32) × (Nat → Int64) × (Nat → Nat → Int32) × (Nat → Nat → Int64))} (hK44 : ∀ {x4 : Int32} {x3 : Int32} {x2 : Int32} {x1 : Int32} {si : Nat → Int32} {sj : Nat → Int64} {sa : Nat → Nat → Int32} {sb : Nat → Nat → Int64}, K44 x4 x3 x2 x1 si sj sa sb = some (vi, vj, va, vb) → ∀ {H : Heap} {locs : List Loc} {ls : Array Slot}, va_P (dC, dI) classes (moW h0 r cA si sj sa sb) H → va_D A (moW h0 r cA si sj sa sb) → va_S A s.heap H locs → lv_has ls 5 [(4, .int x4), (3, .int x3), (2, .int x2), (0, .ref h0), (1, .int x1)] → W p l e R s m args below meth c H locs 0 0 Q (F0 m 44 ls [])) {x4 : Int32} {x3 : Int32} {x2 : Int32} {x1 : Int32} {si : Nat → Int32} {sj : Nat → Int64} {sa : Nat → Nat → Int32} {sb : Nat → Nat → Int64} (hf : f_Mo_nameText_78 nf K44 x4 x3 x2 x1 si sj sa sb = some (vi, vj, va, vb)) {H : Heap} {locs : List Loc} {ls : Array Slot} (hP : va_P (dC, dI) classes (moW h0 r cA si sj sa sb) H) (hD : va_D A (moW h0 r cA si sj sa sb)) (hS : va_S A s.heap H locs) (hl : lv_has ls 5 [(4, .int x4), (3, .int x3), (2, .int x2), (0, .ref h0), (1, .int x1)]) : W p l e R s m args below meth c H locs 0 0 Q (F0 m 78 ls []) := by
  obtain ⟨hx, hb, hr, hml, hown, hts, hlocks, hRf, hRl⟩ := id C0
  unfold f_Mo_nameText_78 at hf
  refine lv_iload hx hb d_Mo_nameText_78 (lv_at hl 0 rfl) ?_
  refine lv_bipush (v := 10) hx hb d_Mo_nameText_80 (by decide) ?_
  refine lv_icmp_ne (tgt := 96) hx hb d_Mo_nameText_82 (by decide) (fun c_20 => ?_) (fun c_20 => ?_)
  · have hf := it_f c_20 hf
    refine lv_aload_n hx hb d_Mo_nameText_96 rfl (lv_at hl 3 rfl) ?_
    refine mg_26 hx hb hts hown hK hP d_Mo_nameText_97 ?_
    refine lv_iload_n hx hb d_Mo_nameText_100 rfl (lv_at hl 2 rfl) ?_
    refine lv_iload hx hb d_Mo_nameText_101 (lv_at hl 0 rfl) ?_
    refine lv_iadd hx hb d_Mo_nameText_103 ?_
    refine lv_aload_n hx hb d_Mo_nameText_104 rfl (lv_at hl 3 rfl) ?_
    obtain ⟨r_21, hc, hf⟩ := ob hf
    refine cl_S (v := (some (.int r_21))) (st1 := [.int r_21, .int (x2 + x4), .ref (r 26)]) (va_runV (As := []) (rest := [.int (x2 + x4), .ref (r 26)]) ⟨hx, hb, hml, hown, hts⟩ (c_Mo_look l dC dI h0 r cA nf si sj sa sb hc) (cwV 0 hts (gdV m_6_83 m_6_85 msel_49 m_1_10 m_6_86) rfl rfl rfl (by decide +kernel) ⟨Nat.le_trans (Nat.le_of_ble_eq_true rfl) hRf, Nat.le_trans (Nat.le_of_ble_eq_true rfl) hRl⟩) ((RO.pre hP hK (hST.ro hS)).vir (va_recv hK hP (ci := 10) (q0 := 0) rfl rfl)) rfl rfl hl.1 rfl (lv_room (Nat.le_of_ble_eq_true rfl)) d_Mo_nameText_105 ⟨Nat.zero_le _, Nat.zero_le _⟩) rfl ?_
    obtain ⟨c_22, hf⟩ := it_n hf
    refine mz_26 hx hb hK hP hD hS c_22 d_Mo_nameText_108 (fun H locs hP hD hS => ?_)
    refine lv_iinc (v := x4 + 1) (lv' := [(4, .int (x4 + 1)), (3, .int x3), (2, .int x2), (0, .ref h0), (1, .int x1)]) hx hb d_Mo_nameText_109 hl (k := 0) rfl rfl (by decide) rfl (fun ls hl => ?_)
    refine lv_aload_n hx hb d_Mo_nameText_112 rfl (lv_at hl 3 rfl) ?_
    refine lv_dup hx hb d_Mo_nameText_113 rfl ?_
    refine mg_32 (v := si 32) hx hb hts hown hK hP rfl d_Mo_nameText_114 ?_
    refine lv_iconst (v := 1) hx hb d_Mo_nameText_117 (by decide) ?_
    refine lv_iadd hx hb d_Mo_nameText_118 ?_
    refine mp_32 hx hb hts hown hK hP hD hS d_Mo_nameText_119 (fun H locs hP hD hS => ?_)
    refine lv_goto (tgt := 44) hx hb d_Mo_nameText_122 (by decide) ?_
    exact hK44 hf hP hD hS (lv_sub hl [0, 1, 2, 3, 4] rfl)
  · have hf := it_t c_20 hf
    refine lv_aload_n hx hb d_Mo_nameText_85 rfl (lv_at hl 3 rfl) ?_
    refine lv_aload_n hx hb d_Mo_nameText_86 rfl (lv_at hl 3 rfl) ?_
    refine mg_32 (v := si 32) hx hb hts hown hK hP rfl d_Mo_nameText_87 ?_
    obtain ⟨⟨i_23, j_24, a_25, b_26⟩, hc, hf⟩ := ob hf
    have hFc := mo_free hD hS hA
    refine cl_M (v := none) (st1 := []) (va_runV (As := [.int (si 32)]) (rest := []) ⟨hx, hb, hml, hown, hts⟩ (c_Mo_cannot l dC dI h0 r cA H.size nf (si 32) si sj sa sb hc) (cwV 1 hts (gdV m_6_96 m_6_98 msel_50 m_1_10 m_6_99) rfl rfl rfl (by decide +kernel) ⟨Nat.le_trans (Nat.le_of_ble_eq_true rfl) hRf, Nat.le_trans (Nat.le_of_ble_eq_true rfl) hRl⟩) ((MU.pre hP hK hD (hST.mu hS hFc)).vir (va_recv hK hP (ci := 10) (q0 := 0) rfl rfl)) rfl rfl hl.1 rfl (lv_room (Nat.le_of_ble_eq_true rfl)) d_Mo_nameText_90 ⟨Nat.zero_le _, Nat.zero_le _⟩) rfl hS (fun q _ h => hFc q h) hFc (fun t H1 locs ht hvm hB hz1 hk1 hS => ?_)
    obtain ⟨hP, hD⟩ := mo_back ht hD hB
    generalize H1 = H at hP hS ⊢
    refine lv_goto (tgt := 44) hx hb d_Mo_nameText_93 (by decide) ?_
    exact hK44 hf hP hD hS (lv_sub hl [0, 1, 2, 3, 4] rfl)
set_option maxHeartbeats 400000 in
set_option maxRecDepth 100000 in
theorem k_Mo_nameText_44 (C0 : Cx p s m meth c args R b_Mo_nameText "ZoneFilesModel" 5 none 2 42) (hST : ST A s s.heap) (hA : ∀ q, s.heap.size ≤ q → A q) (hK : va_K (dC, dI) classes (moT cA) s) (hE : ∀ (pc : Nat) (ls : Array Slot) (H : Heap) (locs : List Loc), decode b_Mo_nameText pc = .ok (.return_, 1) → va_P (dC, dI) classes (moW h0 r cA vi vj va vb) H → va_D A (moW h0 r cA vi vj va vb) → va_S A s.heap H locs → W p l e R s m args below meth c H locs 0 0 Q (F0 m pc ls [])) : ∀ (n : Nat) {x4 : Int32} {x3 : Int32} {x2 : Int32} {x1 : Int32} {si : Nat → Int32} {sj : Nat → Int64} {sa : Nat → Nat → Int32} {sb : Nat → Nat → Int64}, f_Mo_nameText_44 nf n x4 x3 x2 x1 si sj sa sb = some (vi, vj, va, vb) → ∀ {H : Heap} {locs : List Loc} {ls : Array Slot}, va_P (dC, dI) classes (moW h0 r cA si sj sa sb) H → va_D A (moW h0 r cA si sj sa sb) → va_S A s.heap H locs → lv_has ls 5 [(4, .int x4), (3, .int x3), (2, .int x2), (0, .ref h0), (1, .int x1)] → W p l e R s m args below meth c H locs 0 0 Q (F0 m 44 ls []) := by
  obtain ⟨hx, hb, hr, hml, hown, hts, hlocks, hRf, hRl⟩ := id C0
  intro n
  induction n with
  | zero =>
    intro x4 x3 x2 x1 si sj sa sb hf
    exact absurd hf (by simp [f_Mo_nameText_44])
  | succ n ih =>
    intro x4 x3 x2 x1 si sj sa sb hf H locs ls hP hD hS hl
    unfold f_Mo_nameText_44 at hf
    refine lv_aload_n hx hb d_Mo_nameText_44 rfl (lv_at hl 3 rfl) ?_
    refine mg_34 (v := si 34) hx hb hts hown hK hP rfl d_Mo_nameText_45 ?_
    refine lv_if_ne (tgt := 125) hx hb d_Mo_nameText_48 (by decide) (fun c_4 => ?_) (fun c_4 => ?_)
    · have hf := it_f c_4 hf
      exact k_Mo_nameText_125 C0 hST hA hK hE hf hP hD hS (lv_sub hl [0, 1, 3, 4] rfl)
    · have hf := it_t c_4 hf
      refine lv_iload_n hx hb d_Mo_nameText_51 rfl (lv_at hl 1 rfl) ?_
      refine lv_if_eq (tgt := 68) hx hb d_Mo_nameText_52 (by decide) (fun c_16 => ?_) (fun c_16 => ?_)
      · have hf := it_t c_16 hf
        refine lv_aload_n hx hb d_Mo_nameText_68 rfl (lv_at hl 3 rfl) ?_
        obtain ⟨r_17, hc, hf⟩ := ob hf
        refine cl_S (v := (some (.int r_17))) (st1 := [.int r_17]) (va_runV (As := []) (rest := []) ⟨hx, hb, hml, hown, hts⟩ (c_Mo_look l dC dI h0 r cA nf si sj sa sb hc) (cwV 0 hts (gdV m_6_83 m_6_85 msel_49 m_1_10 m_6_86) rfl rfl rfl (by decide +kernel) ⟨Nat.le_trans (Nat.le_of_ble_eq_true rfl) hRf, Nat.le_trans (Nat.le_of_ble_eq_true rfl) hRl⟩) ((RO.pre hP hK (hST.ro hS)).vir (va_recv hK hP (ci := 10) (q0 := 0) rfl rfl)) rfl rfl hl.1 rfl (lv_room (Nat.le_of_ble_eq_true rfl)) d_Mo_nameText_69 ⟨Nat.zero_le _, Nat.zero_le _⟩) rfl ?_
        obtain ⟨r_18, hc, hf⟩ := ob hf
        refine cl_S (v := (some (.int r_18))) (st1 := [.int r_18]) (va_runS (As := [.int r_17]) (rest := []) ⟨hx, hb, hml, hown, hts⟩ (c_Mo_isLetter l dC dI nf r_17 hc) (va_cwS 1 hts (gdS m_6_93 m_6_94 m_1_10 m_6_95) rfl rfl rfl (by decide +kernel) ⟨Nat.le_trans (Nat.le_of_ble_eq_true rfl) hRf, Nat.le_trans (Nat.le_of_ble_eq_true rfl) hRl⟩) (RO.pre0 hK (hST.ro hS)).sta rfl rfl hl.1 rfl (lv_room (Nat.le_of_ble_eq_true rfl)) d_Mo_nameText_72 ⟨Nat.zero_le _, Nat.zero_le _⟩) rfl ?_
        refine lv_if_eq (tgt := 125) hx hb d_Mo_nameText_75 (by decide) (fun c_19 => ?_) (fun c_19 => ?_)
        · have hf := it_t c_19 hf
          exact k_Mo_nameText_125 C0 hST hA hK hE hf hP hD hS (lv_sub hl [0, 1, 3, 4] rfl)
        · have hf := it_f c_19 hf
          exact k_Mo_nameText_78 C0 hST hA hK hE (fun hf => ih hf) hf hP hD hS (lv_sub hl [0, 1, 2, 3, 4] rfl)
      · have hf := it_f c_16 hf
        refine lv_aload_n hx hb d_Mo_nameText_55 rfl (lv_at hl 3 rfl) ?_
        obtain ⟨r_27, hc, hf⟩ := ob hf
        refine cl_S (v := (some (.int r_27))) (st1 := [.int r_27]) (va_runV (As := []) (rest := []) ⟨hx, hb, hml, hown, hts⟩ (c_Mo_look l dC dI h0 r cA nf si sj sa sb hc) (cwV 0 hts (gdV m_6_83 m_6_85 msel_49 m_1_10 m_6_86) rfl rfl rfl (by decide +kernel) ⟨Nat.le_trans (Nat.le_of_ble_eq_true rfl) hRf, Nat.le_trans (Nat.le_of_ble_eq_true rfl) hRl⟩) ((RO.pre hP hK (hST.ro hS)).vir (va_recv hK hP (ci := 10) (q0 := 0) rfl rfl)) rfl rfl hl.1 rfl (lv_room (Nat.le_of_ble_eq_true rfl)) d_Mo_nameText_56 ⟨Nat.zero_le _, Nat.zero_le _⟩) rfl ?_
        obtain ⟨r_28, hc, hf⟩ := ob hf
        refine cl_S (v := (some (.int r_28))) (st1 := [.int r_28]) (va_runS (As := [.int r_27]) (rest := []) ⟨hx, hb, hml, hown, hts⟩ (c_Mo_isNamed l dC dI nf r_27 hc) (va_cwS 1 hts (gdS m_6_87 m_6_88 m_1_10 m_6_89) rfl rfl rfl (by decide +kernel) ⟨Nat.le_trans (Nat.le_of_ble_eq_true rfl) hRf, Nat.le_trans (Nat.le_of_ble_eq_true rfl) hRl⟩) (RO.pre0 hK (hST.ro hS)).sta rfl rfl hl.1 rfl (lv_room (Nat.le_of_ble_eq_true rfl)) d_Mo_nameText_59 ⟨Nat.zero_le _, Nat.zero_le _⟩) rfl ?_
        refine lv_if_eq (tgt := 125) hx hb d_Mo_nameText_62 (by decide) (fun c_29 => ?_) (fun c_29 => ?_)
        · have hf := it_t c_29 hf
          exact k_Mo_nameText_125 C0 hST hA hK hE hf hP hD hS (lv_sub hl [0, 1, 3, 4] rfl)
        · have hf := it_f c_29 hf
          refine lv_goto (tgt := 78) hx hb d_Mo_nameText_65 (by decide) ?_
          exact k_Mo_nameText_78 C0 hST hA hK hE (fun hf => ih hf) hf hP hD hS (lv_sub hl [0, 1, 2, 3, 4] rfl)
set_option maxHeartbeats 400000 in
set_option maxRecDepth 100000 in
theorem k_Mo_nameText_37 (C0 : Cx p s m meth c args R b_Mo_nameText "ZoneFilesModel" 5 none 2 42) (hST : ST A s s.heap) (hA : ∀ q, s.heap.size ≤ q → A q) (hK : va_K (dC, dI) classes (moT cA) s) (hE : ∀ (pc : Nat) (ls : Array Slot) (H : Heap) (locs : List Loc), decode b_Mo_nameText pc = .ok (.return_, 1) → va_P (dC, dI) classes (moW h0 r cA vi vj va vb) H → va_D A (moW h0 r cA vi vj va vb) → va_S A s.heap H locs → W p l e R s m args below meth c H locs 0 0 Q (F0 m pc ls [])) {x3 : Int32} {x2 : Int32} {x1 : Int32} {s0 : Int32} {s1 : Int32} {si : Nat → Int32} {sj : Nat → Int64} {sa : Nat → Nat → Int32} {sb : Nat → Nat → Int64} (hf : f_Mo_nameText_37 nf x3 x2 x1 s0 s1 si sj sa sb = some (vi, vj, va, vb)) {H : Heap} {locs : List Loc} {ls : Array Slot} (hP : va_P (dC, dI) classes (moW h0 r cA si sj sa sb) H) (hD : va_D A (moW h0 r cA si sj sa sb)) (hS : va_S A s.heap H locs) (hl : lv_has ls 5 [(3, .int x3), (2, .int x2), (0, .ref h0), (1, .int x1)]) : W p l e R s m args below meth c H locs 0 0 Q (F0 m 37 ls [.int s0, .int s1, .ref h0]) := by
  obtain ⟨hx, hb, hr, hml, hown, hts, hlocks, hRf, hRl⟩ := id C0
  unfold f_Mo_nameText_37 at hf
  refine lv_iadd hx hb d_Mo_nameText_37 ?_
  refine mp_32 hx hb hts hown hK hP hD hS d_Mo_nameText_38 (fun H locs hP hD hS => ?_)
  refine lv_iconst (v := 0) hx hb d_Mo_nameText_41 (by decide) ?_
  refine lv_istore (lv' := [(4, .int 0), (3, .int x3), (2, .int x2), (0, .ref h0), (1, .int x1)]) hx hb d_Mo_nameText_42 hl (by decide) rfl (fun ls hl => ?_)
  exact k_Mo_nameText_44 C0 hST hA hK hE nf hf hP hD hS (lv_sub hl [0, 1, 2, 3, 4] rfl)
set_option maxHeartbeats 400000 in
set_option maxRecDepth 100000 in
theorem k_Mo_nameText_22 (C0 : Cx p s m meth c args R b_Mo_nameText "ZoneFilesModel" 5 none 2 42) (hST : ST A s s.heap) (hA : ∀ q, s.heap.size ≤ q → A q) (hK : va_K (dC, dI) classes (moT cA) s) (hE : ∀ (pc : Nat) (ls : Array Slot) (H : Heap) (locs : List Loc), decode b_Mo_nameText pc = .ok (.return_, 1) → va_P (dC, dI) classes (moW h0 r cA vi vj va vb) H → va_D A (moW h0 r cA vi vj va vb) → va_S A s.heap H locs → W p l e R s m args below meth c H locs 0 0 Q (F0 m pc ls [])) {x2 : Int32} {x1 : Int32} {s0 : Int32} {si : Nat → Int32} {sj : Nat → Int64} {sa : Nat → Nat → Int32} {sb : Nat → Nat → Int64} (hf : f_Mo_nameText_22 nf x2 x1 s0 si sj sa sb = some (vi, vj, va, vb)) {H : Heap} {locs : List Loc} {ls : Array Slot} (hP : va_P (dC, dI) classes (moW h0 r cA si sj sa sb) H) (hD : va_D A (moW h0 r cA si sj sa sb)) (hS : va_S A s.heap H locs) (hl : lv_has ls 5 [(2, .int x2), (0, .ref h0), (1, .int x1)]) : W p l e R s m args below meth c H locs 0 0 Q (F0 m 22 ls [.int s0]) := by
  obtain ⟨hx, hb, hr, hml, hown, hts, hlocks, hRf, hRl⟩ := id C0
  unfold f_Mo_nameText_22 at hf
  refine lv_istore_n (lv' := [(3, .int s0), (2, .int x2), (0, .ref h0), (1, .int x1)]) hx hb d_Mo_nameText_22 rfl hl (by decide) rfl (fun ls hl => ?_)
  refine lv_aload_n hx hb d_Mo_nameText_23 rfl (lv_at hl 2 rfl) ?_
  refine lv_dup hx hb d_Mo_nameText_24 rfl ?_
  refine mg_32 (v := si 32) hx hb hts hown hK hP rfl d_Mo_nameText_25 ?_
  refine lv_iload_n hx hb d_Mo_nameText_28 rfl (lv_at hl 0 rfl) ?_
  refine lv_if_eq (tgt := 36) hx hb d_Mo_nameText_29 (by decide) (fun c_3 => ?_) (fun c_3 => ?_)
  · have hf := it_t c_3 hf
    refine lv_iconst (v := 0) hx hb d_Mo_nameText_36 (by decide) ?_
    exact k_Mo_nameText_37 C0 hST hA hK hE hf hP hD hS (lv_sub hl [0, 1, 2, 3] rfl)
  · have hf := it_f c_3 hf
    refine lv_iconst (v := 1) hx hb d_Mo_nameText_32 (by decide) ?_
    refine lv_goto (tgt := 37) hx hb d_Mo_nameText_33 (by decide) ?_
    exact k_Mo_nameText_37 C0 hST hA hK hE hf hP hD hS (lv_sub hl [0, 1, 2, 3] rfl)
set_option maxHeartbeats 400000 in
set_option maxRecDepth 100000 in
theorem k_Mo_nameText_0 (C0 : Cx p s m meth c args R b_Mo_nameText "ZoneFilesModel" 5 none 2 42) (hST : ST A s s.heap) (hA : ∀ q, s.heap.size ≤ q → A q) (hK : va_K (dC, dI) classes (moT cA) s) (hE : ∀ (pc : Nat) (ls : Array Slot) (H : Heap) (locs : List Loc), decode b_Mo_nameText pc = .ok (.return_, 1) → va_P (dC, dI) classes (moW h0 r cA vi vj va vb) H → va_D A (moW h0 r cA vi vj va vb) → va_S A s.heap H locs → W p l e R s m args below meth c H locs 0 0 Q (F0 m pc ls [])) {x1 : Int32} {si : Nat → Int32} {sj : Nat → Int64} {sa : Nat → Nat → Int32} {sb : Nat → Nat → Int64} (hf : f_Mo_nameText_0 nf x1 si sj sa sb = some (vi, vj, va, vb)) {H : Heap} {locs : List Loc} {ls : Array Slot} (hP : va_P (dC, dI) classes (moW h0 r cA si sj sa sb) H) (hD : va_D A (moW h0 r cA si sj sa sb)) (hS : va_S A s.heap H locs) (hl : lv_has ls 5 [(0, .ref h0), (1, .int x1)]) : W p l e R s m args below meth c H locs 0 0 Q (F0 m 0 ls []) := by
  obtain ⟨hx, hb, hr, hml, hown, hts, hlocks, hRf, hRl⟩ := id C0
  unfold f_Mo_nameText_0 at hf
  refine lv_bipush (v := 80) hx hb d_Mo_nameText_0 (by decide) ?_
  refine lv_bipush (v := 10) hx hb d_Mo_nameText_2 (by decide) ?_
  refine lv_iload_n hx hb d_Mo_nameText_4 rfl (lv_at hl 1 rfl) ?_
  refine lv_imul hx hb d_Mo_nameText_5 ?_
  refine lv_iadd hx hb d_Mo_nameText_6 ?_
  refine lv_istore_n (lv' := [(2, .int (80 + (10 * x1))), (0, .ref h0), (1, .int x1)]) hx hb d_Mo_nameText_7 rfl hl (by decide) rfl (fun ls hl => ?_)
  refine lv_aload_n hx hb d_Mo_nameText_8 rfl (lv_at hl 1 rfl) ?_
  obtain ⟨r_1, hc, hf⟩ := ob hf
  refine cl_S (v := (some (.int r_1))) (st1 := [.int r_1]) (va_runV (As := []) (rest := []) ⟨hx, hb, hml, hown, hts⟩ (c_Mo_look l dC dI h0 r cA nf si sj sa sb hc) (cwV 0 hts (gdV m_6_83 m_6_85 msel_49 m_1_10 m_6_86) rfl rfl rfl (by decide +kernel) ⟨Nat.le_trans (Nat.le_of_ble_eq_true rfl) hRf, Nat.le_trans (Nat.le_of_ble_eq_true rfl) hRl⟩) ((RO.pre hP hK (hST.ro hS)).vir (va_recv hK hP (ci := 10) (q0 := 0) rfl rfl)) rfl rfl hl.1 rfl (lv_room (Nat.le_of_ble_eq_true rfl)) d_Mo_nameText_9 ⟨Nat.zero_le _, Nat.zero_le _⟩) rfl ?_
  refine lv_bipush (v := 60) hx hb d_Mo_nameText_12 (by decide) ?_
  refine lv_icmp_ne (tgt := 21) hx hb d_Mo_nameText_14 (by decide) (fun c_2 => ?_) (fun c_2 => ?_)
  · have hf := it_f c_2 hf
    refine lv_iconst (v := 0) hx hb d_Mo_nameText_21 (by decide) ?_
    exact k_Mo_nameText_22 C0 hST hA hK hE hf hP hD hS (lv_sub hl [0, 1, 2] rfl)
  · have hf := it_t c_2 hf
    refine lv_iconst (v := 1) hx hb d_Mo_nameText_17 (by decide) ?_
    refine lv_goto (tgt := 22) hx hb d_Mo_nameText_18 (by decide) ?_
    exact k_Mo_nameText_22 C0 hST hA hK hE hf hP hD hS (lv_sub hl [0, 1, 2] rfl)
end
set_option maxHeartbeats 400000 in
set_option maxRecDepth 100000 in
theorem c_Mo_nameText (l : Launch) (dC : Nat → ClassId) (dI : Nat → Nat → Nat) (h0 : Nat) (r : Nat → Nat) (cA : Nat → ClassId) (sz : Nat) (nf : Nat) (p0 : Int32) (si : Nat → Int32) (sj : Nat → Int64) (sa : Nat → Nat → Int32) (sb : Nat → Nat → Int64) {vi : Nat → Int32} {vj : Nat → Int64} {va : Nat → Nat → Int32} {vb : Nat → Nat → Int64} (hf : f_Mo_nameText nf p0 si sj sa sb = some (vi, vj, va, vb)) : Met l y_Mo_nameText (wd y_Mo_nameText b_Mo_nameText 5 none) ({ frames := 2, cells := 0, slots := 0, locals := 42 }) (MU dC dI (moW h0 r cA si sj sa sb) (moT cA) sz [.ref h0, .int p0]) (MV none (fun t => va_P (dC, dI) classes (moW h0 r cA vi vj va vb) t.heap) (va_A (moW h0 r cA si sj sa sb) sz)) 0 0 (va_A (moW h0 r cA si sj sa sb) sz) :=
  met_M (plainFor_of_name (by decide)) (Nat.le_of_ble_eq_true rfl) (fun p e R s m args below meth c ls hRc hRs hsz hin C0 hST hK hP hD hl => by
    obtain ⟨hx, hb, hr, hml, hown, hts, hlocks, hRf, hRl⟩ := id C0
    subst hsz
    have hA : ∀ q : Nat, s.heap.size ≤ q → va_A (moW h0 r cA si sj sa sb) s.heap.size q := fun q h => Or.inr h
    have hS : va_S (va_A (moW h0 r cA si sj sa sb) s.heap.size) s.heap s.heap [] := va_S.rf
    unfold f_Mo_nameText at hf
    exact k_Mo_nameText_0 C0 hST hA hK (fun pc ls H locs hd hP hD hS => W.vret hx hb hr (fun t ht hW => ⟨⟨rfl, mo_end ht hP⟩, hS.F ht⟩) hS.2.2 hd) hf hP hD hS (lv_sub hl [0, 1] rfl))
-- ZoneFilesModel.offsetText(ZI)I
def f_Mo_offsetText_147 (nf : Nat) (x4 : Int32) (x3 : Int32) (si : Nat → Int32) (sj : Nat → Int64) (sa : Nat → Nat → Int32) (sb : Nat → Nat → Int64) : Option (Int32 × (Nat → Int32) × (Nat → Int64) × (Nat → Nat → Int32) × (Nat → Nat → Int64)) :=
  some (x3 * x4, si, sj, sa, sb)
def f_Mo_offsetText_56 (nf : Nat) (x3 : Int32) (x2 : Int32) (si : Nat → Int32) (sj : Nat → Int64) (sa : Nat → Nat → Int32) (sb : Nat → Nat → Int64) : Option (Int32 × (Nat → Int32) × (Nat → Int64) × (Nat → Nat → Int32) × (Nat → Nat → Int64)) :=
  (f_Mo_number nf 0 x2 si sj sa sb).bind fun (z_6, i_2, j_3, a_4, b_5) =>
  if (i_2 34) = 0 then
  (f_Mo_look nf i_2 j_3 a_4 b_5).bind fun r_8 =>
    if r_8 = (58 : Int32) then
    (f_Mo_number nf 0 59 (va_up i_2 32 ((i_2 32) + 1)) j_3 a_4 b_5).bind fun (z_14, i_10, j_11, a_12, b_13) =>
      if (i_10 34) = 0 then
      (f_Mo_look nf i_10 j_11 a_12 b_13).bind fun r_16 =>
        if r_16 = (58 : Int32) then
        (f_Mo_number nf 0 59 (va_up i_10 32 ((i_10 32) + 1)) j_11 a_12 b_13).bind fun (z_22, i_18, j_19, a_20, b_21) =>
          f_Mo_offsetText_147 nf (((3600 * z_6) + (60 * z_14)) + z_22) x3 i_18 j_19 a_20 b_21
        else
        f_Mo_offsetText_147 nf ((3600 * z_6) + (60 * z_14)) x3 i_10 j_11 a_12 b_13
      else
      f_Mo_offsetText_147 nf ((3600 * z_6) + (60 * z_14)) x3 i_10 j_11 a_12 b_13
    else
    f_Mo_offsetText_147 nf (3600 * z_6) x3 i_2 j_3 a_4 b_5
  else
  f_Mo_offsetText_147 nf (3600 * z_6) x3 i_2 j_3 a_4 b_5
def f_Mo_offsetText_45 (nf : Nat) (x2 : Int32) (s0 : Int32) (si : Nat → Int32) (sj : Nat → Int64) (sa : Nat → Nat → Int32) (sb : Nat → Nat → Int64) : Option (Int32 × (Nat → Int32) × (Nat → Int64) × (Nat → Nat → Int32) × (Nat → Nat → Int64)) :=
  f_Mo_offsetText_56 nf s0 x2 (va_up si 32 ((si 32) + 1)) sj sa sb
def f_Mo_offsetText_31 (nf : Nat) (x2 : Int32) (si : Nat → Int32) (sj : Nat → Int64) (sa : Nat → Nat → Int32) (sb : Nat → Nat → Int64) : Option (Int32 × (Nat → Int32) × (Nat → Int64) × (Nat → Nat → Int32) × (Nat → Nat → Int64)) :=
  (f_Mo_look nf si sj sa sb).bind fun r_26 =>
  if r_26 = (45 : Int32) then
  f_Mo_offsetText_45 nf x2 (-1) si sj sa sb
  else
  f_Mo_offsetText_45 nf x2 1 si sj sa sb
def f_Mo_offsetText_0 (nf : Nat) (x1 : Int32) (x2 : Int32) (si : Nat → Int32) (sj : Nat → Int64) (sa : Nat → Nat → Int32) (sb : Nat → Nat → Int64) : Option (Int32 × (Nat → Int32) × (Nat → Int64) × (Nat → Nat → Int32) × (Nat → Nat → Int64)) :=
  if (si 34) = 0 then
  if x1 = 0 then
    f_Mo_offsetText_56 nf 1 x2 si sj sa sb
    else
    (f_Mo_look nf si sj sa sb).bind fun r_24 =>
      if r_24 = (43 : Int32) then
      f_Mo_offsetText_31 nf x2 si sj sa sb
      else
      (f_Mo_look nf si sj sa sb).bind fun r_28 =>
        if r_28 = (45 : Int32) then
        f_Mo_offsetText_31 nf x2 si sj sa sb
        else
        f_Mo_offsetText_56 nf 1 x2 si sj sa sb
  else
  f_Mo_offsetText_56 nf 1 x2 si sj sa sb
def f_Mo_offsetText (nf : Nat) (p0 : Int32) (p1 : Int32) (si : Nat → Int32) (sj : Nat → Int64) (sa : Nat → Nat → Int32) (sb : Nat → Nat → Int64) : Option (Int32 × (Nat → Int32) × (Nat → Int64) × (Nat → Nat → Int32) × (Nat → Nat → Int64)) :=
  f_Mo_offsetText_0 nf p0 p1 si sj sa sb
section
variable {p : Program} {l : Launch} {e : Env} {R : Room} {s : State} {m : MethodId} {args : Array Value} {below : List Frame} {meth : Method} {c : Code} {Q : State → Prop} {dC : Nat → ClassId} {dI : Nat → Nat → Nat} {nf : Nat} {A : Nat → Prop} {h0 : Nat} {r : Nat → Nat} {cA : Nat → ClassId}
variable {r0 : Int32} {vi : Nat → Int32} {vj : Nat → Int64} {va : Nat → Nat → Int32} {vb : Nat → Nat → Int64}
set_option maxHeartbeats 400000 in
set_option maxRecDepth 100000 in
theorem k_Mo_offsetText_147 (C0 : Cx p s m meth c args R b_Mo_offsetText "ZoneFilesModel" 5 (some .int) 2 45) (hST : ST A s s.heap) (hA : ∀ q, s.heap.size ≤ q → A q) (hK : va_K (dC, dI) classes (moT cA) s) (hE : ∀ (pc : Nat) (ls : Array Slot) (H : Heap) (locs : List Loc), decode b_Mo_offsetText pc = .ok (.ireturn, 1) → narrow .int (.int r0) = .int r0 → va_P (dC, dI) classes (moW h0 r cA vi vj va vb) H → va_D A (moW h0 r cA vi vj va vb) → va_S A s.heap H locs → W p l e R s m args below meth c H locs 0 0 Q (F0 m pc ls [.int r0])) {x4 : Int32} {x3 : Int32} {si : Nat → Int32} {sj : Nat → Int64} {sa : Nat → Nat → Int32} {sb : Nat → Nat → Int64} (hf : f_Mo_offsetText_147 nf x4 x3 si sj sa sb = some (r0, vi, vj, va, vb)) {H : Heap} {locs : List Loc} {ls : Array Slot} (hP : va_P (dC, dI) classes (moW h0 r cA si sj sa sb) H) (hD : va_D A (moW h0 r cA si sj sa sb)) (hS : va_S A s.heap H locs) (hl : lv_has ls 5 [(4, .int x4), (3, .int x3)]) : W p l e R s m args below meth c H locs 0 0 Q (F0 m 147 ls []) := by
  obtain ⟨hx, hb, hr, hml, hown, hts, hlocks, hRf, hRl⟩ := id C0
  unfold f_Mo_offsetText_147 at hf
  refine lv_iload_n hx hb d_Mo_offsetText_147 rfl (lv_at hl 1 rfl) ?_
  refine lv_iload hx hb d_Mo_offsetText_148 (lv_at hl 0 rfl) ?_
  refine lv_imul hx hb d_Mo_offsetText_150 ?_
  cases rs hf
  exact hE _ _ _ _ d_Mo_offsetText_151 rfl hP hD hS
set_option maxHeartbeats 400000 in
set_option maxRecDepth 100000 in
theorem k_Mo_offsetText_56 (C0 : Cx p s m meth c args R b_Mo_offsetText "ZoneFilesModel" 5 (some .int) 2 45) (hST : ST A s s.heap) (hA : ∀ q, s.heap.size ≤ q → A q) (hK : va_K (dC, dI) classes (moT cA) s) (hE : ∀ (pc : Nat) (ls : Array Slot) (H : Heap) (locs : List Loc), decode b_Mo_offsetText pc = .ok (.ireturn, 1) → narrow .int (.int r0) = .int r0 → va_P (dC, dI) classes (moW h0 r cA vi vj va vb) H → va_D A (moW h0 r cA vi vj va vb) → va_S A s.heap H locs → W p l e R s m args below meth c H locs 0 0 Q (F0 m pc ls [.int r0])) {x3 : Int32} {x2 : Int32} {si : Nat → Int32} {sj : Nat → Int64} {sa : Nat → Nat → Int32} {sb : Nat → Nat → Int64} (hf : f_Mo_offsetText_56 nf x3 x2 si sj sa sb = some (r0, vi, vj, va, vb)) {H : Heap} {locs : List Loc} {ls : Array Slot} (hP : va_P (dC, dI) classes (moW h0 r cA si sj sa sb) H) (hD : va_D A (moW h0 r cA si sj sa sb)) (hS : va_S A s.heap H locs) (hl : lv_has ls 5 [(3, .int x3), (0, .ref h0), (2, .int x2)]) : W p l e R s m args below meth c H locs 0 0 Q (F0 m 56 ls []) := by
  obtain ⟨hx, hb, hr, hml, hown, hts, hlocks, hRf, hRl⟩ := id C0
  unfold f_Mo_offsetText_56 at hf
  refine lv_sipush (v := 3600) hx hb d_Mo_offsetText_56 (by decide) ?_
  refine lv_aload_n hx hb d_Mo_offsetText_59 rfl (lv_at hl 1 rfl) ?_
  refine lv_iconst (v := 0) hx hb d_Mo_offsetText_60 (by decide) ?_
  refine lv_iload_n hx hb d_Mo_offsetText_61 rfl (lv_at hl 2 rfl) ?_
  obtain ⟨⟨z_6, i_2, j_3, a_4, b_5⟩, hc, hf⟩ := ob hf
  have hFc := mo_free hD hS hA
  refine cl_M (v := (some (.int z_6))) (st1 := [.int z_6, .int 3600]) (va_runV (As := [.int 0, .int x2]) (rest := [.int 3600]) ⟨hx, hb, hml, hown, hts⟩ (c_Mo_number l dC dI h0 r cA H.size nf 0 x2 si sj sa sb hc) (cwV 2 hts (gdV m_6_108 m_6_110 msel_53 m_1_10 m_6_111) rfl rfl rfl (by decide +kernel) ⟨Nat.le_trans (Nat.le_of_ble_eq_true rfl) hRf, Nat.le_trans (Nat.le_of_ble_eq_true rfl) hRl⟩) ((MU.pre hP hK hD (hST.mu hS hFc)).vir (va_recv hK hP (ci := 10) (q0 := 0) rfl rfl)) rfl rfl hl.1 rfl (lv_room (Nat.le_of_ble_eq_true rfl)) d_Mo_offsetText_62 ⟨Nat.zero_le _, Nat.zero_le _⟩) rfl hS (fun q _ h => hFc q h) hFc (fun t H1 locs ht hvm hB hz1 hk1 hS => ?_)
  obtain ⟨hP, hD⟩ := mo_back ht hD hB
  generalize H1 = H at hP hS ⊢
  refine lv_imul hx hb d_Mo_offsetText_65 ?_
  refine lv_istore (lv' := [(4, .int (3600 * z_6)), (3, .int x3), (0, .ref h0), (2, .int x2)]) hx hb d_Mo_offsetText_66 hl (by decide) rfl (fun ls hl => ?_)
  refine lv_aload_n hx hb d_Mo_offsetText_68 rfl (lv_at hl 2 rfl) ?_
  refine mg_34 (v := i_2 34) hx hb hts hown hK hP rfl d_Mo_offsetText_69 ?_
  refine lv_if_ne (tgt := 147) hx hb d_Mo_offsetText_72 (by decide) (fun c_7 => ?_) (fun c_7 => ?_)
  · have hf := it_f c_7 hf
    exact k_Mo_offsetText_147 C0 hST hA hK hE hf hP hD hS (lv_sub hl [0, 1] rfl)
  · have hf := it_t c_7 hf
    refine lv_aload_n hx hb d_Mo_offsetText_75 rfl (lv_at hl 2 rfl) ?_
    obtain ⟨r_8, hc, hf⟩ := ob hf
    refine cl_S (v := (some (.int r_8))) (st1 := [.int r_8]) (va_runV (As := []) (rest := []) ⟨hx, hb, hml, hown, hts⟩ (c_Mo_look l dC dI h0 r cA nf i_2 j_3 a_4 b_5 hc) (cwV 0 hts (gdV m_6_83 m_6_85 msel_49 m_1_10 m_6_86) rfl rfl rfl (by decide +kernel) ⟨Nat.le_trans (Nat.le_of_ble_eq_true rfl) hRf, Nat.le_trans (Nat.le_of_ble_eq_true rfl) hRl⟩) ((RO.pre hP hK (hST.ro hS)).vir (va_recv hK hP (ci := 10) (q0 := 0) rfl rfl)) rfl rfl hl.1 rfl (lv_room (Nat.le_of_ble_eq_true rfl)) d_Mo_offsetText_76 ⟨Nat.zero_le _, Nat.zero_le _⟩) rfl ?_
    refine lv_bipush (v := 58) hx hb d_Mo_offsetText_79 (by decide) ?_
    refine lv_icmp_ne (tgt := 147) hx hb d_Mo_offsetText_81 (by decide) (fun c_9 => ?_) (fun c_9 => ?_)
    · have hf := it_f c_9 hf
      exact k_Mo_offsetText_147 C0 hST hA hK hE hf hP hD hS (lv_sub hl [0, 1] rfl)
    · have hf := it_t c_9 hf
      refine lv_aload_n hx hb d_Mo_offsetText_84 rfl (lv_at hl 2 rfl) ?_
      refine lv_dup hx hb d_Mo_offsetText_85 rfl ?_
      refine mg_32 (v := i_2 32) hx hb hts hown hK hP rfl d_Mo_offsetText_86 ?_
      refine lv_iconst (v := 1) hx hb d_Mo_offsetText_89 (by decide) ?_
      refine lv_iadd hx hb d_Mo_offsetText_90 ?_
      refine mp_32 hx hb hts hown hK hP hD hS d_Mo_offsetText_91 (fun H locs hP hD hS => ?_)
      refine lv_iload hx hb d_Mo_offsetText_94 (lv_at hl 0 rfl) ?_
      refine lv_bipush (v := 60) hx hb d_Mo_offsetText_96 (by decide) ?_
      refine lv_aload_n hx hb d_Mo_offsetText_98 rfl (lv_at hl 2 rfl) ?_
      refine lv_iconst (v := 0) hx hb d_Mo_offsetText_99 (by decide) ?_
      refine lv_bipush (v := 59) hx hb d_Mo_offsetText_100 (by decide) ?_
      obtain ⟨⟨z_14, i_10, j_11, a_12, b_13⟩, hc, hf⟩ := ob hf
      have hFc := mo_free hD hS hA
      refine cl_M (v := (some (.int z_14))) (st1 := [.int z_14, .int 60, .int (3600 * z_6)]) (va_runV (As := [.int 0, .int 59]) (rest := [.int 60, .int (3600 * z_6)]) ⟨hx, hb, hml, hown, hts⟩ (c_Mo_number l dC dI h0 r cA H.size nf 0 59 (va_up i_2 32 ((i_2 32) + 1)) j_3 a_4 b_5 hc) (cwV 2 hts (gdV m_6_108 m_6_110 msel_53 m_1_10 m_6_111) rfl rfl rfl (by decide +kernel) ⟨Nat.le_trans (Nat.le_of_ble_eq_true rfl) hRf, Nat.le_trans (Nat.le_of_ble_eq_true rfl) hRl⟩) ((MU.pre hP hK hD (hST.mu hS hFc)).vir (va_recv hK hP (ci := 10) (q0 := 0) rfl rfl)) rfl rfl hl.1 rfl (lv_room (Nat.le_of_ble_eq_true rfl)) d_Mo_offsetText_102 ⟨Nat.zero_le _, Nat.zero_le _⟩) rfl hS (fun q _ h => hFc q h) hFc (fun t H1 locs ht hvm hB hz1 hk1 hS => ?_)
      obtain ⟨hP, hD⟩ := mo_back ht hD hB
      generalize H1 = H at hP hS ⊢
      refine lv_imul hx hb d_Mo_offsetText_105 ?_
      refine lv_iadd hx hb d_Mo_offsetText_106 ?_
      refine lv_istore (lv' := [(4, .int ((3600 * z_6) + (60 * z_14))), (3, .int x3), (0, .ref h0), (2, .int x2)]) hx hb d_Mo_offsetText_107 hl (by decide) rfl (fun ls hl => ?_)
      refine lv_aload_n hx hb d_Mo_offsetText_109 rfl (lv_at hl 2 rfl) ?_
      refine mg_34 (v := i_10 34) hx hb hts hown hK hP rfl d_Mo_offsetText_110 ?_
      refine lv_if_ne (tgt := 147) hx hb d_Mo_offsetText_113 (by decide) (fun c_15 => ?_) (fun c_15 => ?_)
      · have hf := it_f c_15 hf
        exact k_Mo_offsetText_147 C0 hST hA hK hE hf hP hD hS (lv_sub hl [0, 1] rfl)
      · have hf := it_t c_15 hf
        refine lv_aload_n hx hb d_Mo_offsetText_116 rfl (lv_at hl 2 rfl) ?_
        obtain ⟨r_16, hc, hf⟩ := ob hf
        refine cl_S (v := (some (.int r_16))) (st1 := [.int r_16]) (va_runV (As := []) (rest := []) ⟨hx, hb, hml, hown, hts⟩ (c_Mo_look l dC dI h0 r cA nf i_10 j_11 a_12 b_13 hc) (cwV 0 hts (gdV m_6_83 m_6_85 msel_49 m_1_10 m_6_86) rfl rfl rfl (by decide +kernel) ⟨Nat.le_trans (Nat.le_of_ble_eq_true rfl) hRf, Nat.le_trans (Nat.le_of_ble_eq_true rfl) hRl⟩) ((RO.pre hP hK (hST.ro hS)).vir (va_recv hK hP (ci := 10) (q0 := 0) rfl rfl)) rfl rfl hl.1 rfl (lv_room (Nat.le_of_ble_eq_true rfl)) d_Mo_offsetText_117 ⟨Nat.zero_le _, Nat.zero_le _⟩) rfl ?_
        refine lv_bipush (v := 58) hx hb d_Mo_offsetText_120 (by decide) ?_
        refine lv_icmp_ne (tgt := 147) hx hb d_Mo_offsetText_122 (by decide) (fun c_17 => ?_) (fun c_17 => ?_)
        · have hf := it_f c_17 hf
          exact k_Mo_offsetText_147 C0 hST hA hK hE hf hP hD hS (lv_sub hl [0, 1] rfl)
        · have hf := it_t c_17 hf
          refine lv_aload_n hx hb d_Mo_offsetText_125 rfl (lv_at hl 2 rfl) ?_
          refine lv_dup hx hb d_Mo_offsetText_126 rfl ?_
          refine mg_32 (v := i_10 32) hx hb hts hown hK hP rfl d_Mo_offsetText_127 ?_
          refine lv_iconst (v := 1) hx hb d_Mo_offsetText_130 (by decide) ?_
          refine lv_iadd hx hb d_Mo_offsetText_131 ?_
          refine mp_32 hx hb hts hown hK hP hD hS d_Mo_offsetText_132 (fun H locs hP hD hS => ?_)
          refine lv_iload hx hb d_Mo_offsetText_135 (lv_at hl 0 rfl) ?_
          refine lv_aload_n hx hb d_Mo_offsetText_137 rfl (lv_at hl 2 rfl) ?_
          refine lv_iconst (v := 0) hx hb d_Mo_offsetText_138 (by decide) ?_
          refine lv_bipush (v := 59) hx hb d_Mo_offsetText_139 (by decide) ?_
          obtain ⟨⟨z_22, i_18, j_19, a_20, b_21⟩, hc, hf⟩ := ob hf
          have hFc := mo_free hD hS hA
          refine cl_M (v := (some (.int z_22))) (st1 := [.int z_22, .int ((3600 * z_6) + (60 * z_14))]) (va_runV (As := [.int 0, .int 59]) (rest := [.int ((3600 * z_6) + (60 * z_14))]) ⟨hx, hb, hml, hown, hts⟩ (c_Mo_number l dC dI h0 r cA H.size nf 0 59 (va_up i_10 32 ((i_10 32) + 1)) j_11 a_12 b_13 hc) (cwV 2 hts (gdV m_6_108 m_6_110 msel_53 m_1_10 m_6_111) rfl rfl rfl (by decide +kernel) ⟨Nat.le_trans (Nat.le_of_ble_eq_true rfl) hRf, Nat.le_trans (Nat.le_of_ble_eq_true rfl) hRl⟩) ((MU.pre hP hK hD (hST.mu hS hFc)).vir (va_recv hK hP (ci := 10) (q0 := 0) rfl rfl)) rfl rfl hl.1 rfl (lv_room (Nat.le_of_ble_eq_true rfl)) d_Mo_offsetText_141 ⟨Nat.zero_le _, Nat.zero_le _⟩) rfl hS (fun q _ h => hFc q h) hFc (fun t H1 locs ht hvm hB hz1 hk1 hS => ?_)
          obtain ⟨hP, hD⟩ := mo_back ht hD hB
          generalize H1 = H at hP hS ⊢
          refine lv_iadd hx hb d_Mo_offsetText_144 ?_
          refine lv_istore (lv' := [(4, .int (((3600 * z_6) + (60 * z_14)) + z_22)), (3, .int x3), (0, .ref h0), (2, .int x2)]) hx hb d_Mo_offsetText_145 hl (by decide) rfl (fun ls hl => ?_)
          exact k_Mo_offsetText_147 C0 hST hA hK hE hf hP hD hS (lv_sub hl [0, 1] rfl)
set_option maxHeartbeats 400000 in
set_option maxRecDepth 100000 in
theorem k_Mo_offsetText_45 (C0 : Cx p s m meth c args R b_Mo_offsetText "ZoneFilesModel" 5 (some .int) 2 45) (hST : ST A s s.heap) (hA : ∀ q, s.heap.size ≤ q → A q) (hK : va_K (dC, dI) classes (moT cA) s) (hE : ∀ (pc : Nat) (ls : Array Slot) (H : Heap) (locs : List Loc), decode b_Mo_offsetText pc = .ok (.ireturn, 1) → narrow .int (.int r0) = .int r0 → va_P (dC, dI) classes (moW h0 r cA vi vj va vb) H → va_D A (moW h0 r cA vi vj va vb) → va_S A s.heap H locs → W p l e R s m args below meth c H locs 0 0 Q (F0 m pc ls [.int r0])) {x2 : Int32} {s0 : Int32} {si : Nat → Int32} {sj : Nat → Int64} {sa : Nat → Nat → Int32} {sb : Nat → Nat → Int64} (hf : f_Mo_offsetText_45 nf x2 s0 si sj sa sb = some (r0, vi, vj, va, vb)) {H : Heap} {locs : List Loc} {ls : Array Slot} (hP : va_P (dC, dI) classes (moW h0 r cA si sj sa sb) H) (hD : va_D A (moW h0 r cA si sj sa sb)) (hS : va_S A s.heap H locs) (hl : lv_has ls 5 [(0, .ref h0), (2, .int x2)]) : W p l e R s m args below meth c H locs 0 0 Q (F0 m 45 ls [.int s0]) := by
  obtain ⟨hx, hb, hr, hml, hown, hts, hlocks, hRf, hRl⟩ := id C0
  unfold f_Mo_offsetText_45 at hf
  refine lv_istore_n (lv' := [(3, .int s0), (0, .ref h0), (2, .int x2)]) hx hb d_Mo_offsetText_45 rfl hl (by decide) rfl (fun ls hl => ?_)
  refine lv_aload_n hx hb d_Mo_offsetText_46 rfl (lv_at hl 1 rfl) ?_
  refine lv_dup hx hb d_Mo_offsetText_47 rfl ?_
  refine mg_32 (v := si 32) hx hb hts hown hK hP rfl d_Mo_offsetText_48 ?_
  refine lv_iconst (v := 1) hx hb d_Mo_offsetText_51 (by decide) ?_
  refine lv_iadd hx hb d_Mo_offsetText_52 ?_
  refine mp_32 hx hb hts hown hK hP hD hS d_Mo_offsetText_53 (fun H locs hP hD hS => ?_)
  exact k_Mo_offsetText_56 C0 hST hA hK hE hf hP hD hS (lv_sub hl [0, 1, 2] rfl)
set_option maxHeartbeats 400000 in
set_option maxRecDepth 100000 in
theorem k_Mo_offsetText_31 (C0 : Cx p s m meth c args R b_Mo_offsetText "ZoneFilesModel" 5 (some .int) 2 45) (hST : ST A s s.heap) (hA : ∀ q, s.heap.size ≤ q → A q) (hK : va_K (dC, dI) classes (moT cA) s) (hE : ∀ (pc : Nat) (ls : Array Slot) (H : Heap) (locs : List Loc), decode b_Mo_offsetText pc = .ok (.ireturn, 1) → narrow .int (.int r0) = .int r0 → va_P (dC, dI) classes (moW h0 r cA vi vj va vb) H → va_D A (moW h0 r cA vi vj va vb) → va_S A s.heap H locs → W p l e R s m args below meth c H locs 0 0 Q (F0 m pc ls [.int r0])) {x2 : Int32} {si : Nat → Int32} {sj : Nat → Int64} {sa : Nat → Nat → Int32} {sb : Nat → Nat → Int64} (hf : f_Mo_offsetText_31 nf x2 si sj sa sb = some (r0, vi, vj, va, vb)) {H : Heap} {locs : List Loc} {ls : Array Slot} (hP : va_P (dC, dI) classes (moW h0 r cA si sj sa sb) H) (hD : va_D A (moW h0 r cA si sj sa sb)) (hS : va_S A s.heap H locs) (hl : lv_has ls 5 [(0, .ref h0), (2, .int x2)]) : W p l e R s m args below meth c H locs 0 0 Q (F0 m 31 ls []) := by
  obtain ⟨hx, hb, hr, hml, hown, hts, hlocks, hRf, hRl⟩ := id C0
  unfold f_Mo_offsetText_31 at hf
  refine lv_aload_n hx hb d_Mo_offsetText_31 rfl (lv_at hl 0 rfl) ?_
  obtain ⟨r_26, hc, hf⟩ := ob hf
  refine cl_S (v := (some (.int r_26))) (st1 := [.int r_26]) (va_runV (As := []) (rest := []) ⟨hx, hb, hml, hown, hts⟩ (c_Mo_look l dC dI h0 r cA nf si sj sa sb hc) (cwV 0 hts (gdV m_6_83 m_6_85 msel_49 m_1_10 m_6_86) rfl rfl rfl (by decide +kernel) ⟨Nat.le_trans (Nat.le_of_ble_eq_true rfl) hRf, Nat.le_trans (Nat.le_of_ble_eq_true rfl) hRl⟩) ((RO.pre hP hK (hST.ro hS)).vir (va_recv hK hP (ci := 10) (q0 := 0) rfl rfl)) rfl rfl hl.1 rfl (lv_room (Nat.le_of_ble_eq_true rfl)) d_Mo_offsetText_32 ⟨Nat.zero_le _, Nat.zero_le _⟩) rfl ?_
  refine lv_bipush (v := 45) hx hb d_Mo_offsetText_35 (by decide) ?_
  refine lv_icmp_ne (tgt := 44) hx hb d_Mo_offsetText_37 (by decide) (fun c_27 => ?_) (fun c_27 => ?_)
  · have hf := it_f c_27 hf
    refine lv_iconst (v := 1) hx hb d_Mo_offsetText_44 (by decide) ?_
    exact k_Mo_offsetText_45 C0 hST hA hK hE hf hP hD hS (lv_sub hl [0, 1] rfl)
  · have hf := it_t c_27 hf
    refine lv_iconst (v := -1) hx hb d_Mo_offsetText_40 (by decide) ?_
    refine lv_goto (tgt := 45) hx hb d_Mo_offsetText_41 (by decide) ?_
    exact k_Mo_offsetText_45 C0 hST hA hK hE hf hP hD hS (lv_sub hl [0, 1] rfl)
set_option maxHeartbeats 400000 in
set_option maxRecDepth 100000 in
theorem k_Mo_offsetText_0 (C0 : Cx p s m meth c args R b_Mo_offsetText "ZoneFilesModel" 5 (some .int) 2 45) (hST : ST A s s.heap) (hA : ∀ q, s.heap.size ≤ q → A q) (hK : va_K (dC, dI) classes (moT cA) s) (hE : ∀ (pc : Nat) (ls : Array Slot) (H : Heap) (locs : List Loc), decode b_Mo_offsetText pc = .ok (.ireturn, 1) → narrow .int (.int r0) = .int r0 → va_P (dC, dI) classes (moW h0 r cA vi vj va vb) H → va_D A (moW h0 r cA vi vj va vb) → va_S A s.heap H locs → W p l e R s m args below meth c H locs 0 0 Q (F0 m pc ls [.int r0])) {x1 : Int32} {x2 : Int32} {si : Nat → Int32} {sj : Nat → Int64} {sa : Nat → Nat → Int32} {sb : Nat → Nat → Int64} (hf : f_Mo_offsetText_0 nf x1 x2 si sj sa sb = some (r0, vi, vj, va, vb)) {H : Heap} {locs : List Loc} {ls : Array Slot} (hP : va_P (dC, dI) classes (moW h0 r cA si sj sa sb) H) (hD : va_D A (moW h0 r cA si sj sa sb)) (hS : va_S A s.heap H locs) (hl : lv_has ls 5 [(0, .ref h0), (1, .int x1), (2, .int x2)]) : W p l e R s m args below meth c H locs 0 0 Q (F0 m 0 ls []) := by
  obtain ⟨hx, hb, hr, hml, hown, hts, hlocks, hRf, hRl⟩ := id C0
  unfold f_Mo_offsetText_0 at hf
  refine lv_iconst (v := 1) hx hb d_Mo_offsetText_0 (by decide) ?_
  refine lv_istore_n (lv' := [(3, .int 1), (0, .ref h0), (1, .int x1), (2, .int x2)]) hx hb d_Mo_offsetText_1 rfl hl (by decide) rfl (fun ls hl => ?_)
  refine lv_aload_n hx hb d_Mo_offsetText_2 rfl (lv_at hl 1 rfl) ?_
  refine mg_34 (v := si 34) hx hb hts hown hK hP rfl d_Mo_offsetText_3 ?_
  refine lv_if_ne (tgt := 56) hx hb d_Mo_offsetText_6 (by decide) (fun c_1 => ?_) (fun c_1 => ?_)
  · have hf := it_f c_1 hf
    exact k_Mo_offsetText_56 C0 hST hA hK hE hf hP hD hS (lv_sub hl [0, 1, 3] rfl)
  · have hf := it_t c_1 hf
    refine lv_iload_n hx hb d_Mo_offsetText_9 rfl (lv_at hl 2 rfl) ?_
    refine lv_if_eq (tgt := 56) hx hb d_Mo_offsetText_10 (by decide) (fun c_23 => ?_) (fun c_23 => ?_)
    · have hf := it_t c_23 hf
      exact k_Mo_offsetText_56 C0 hST hA hK hE hf hP hD hS (lv_sub hl [0, 1, 3] rfl)
    · have hf := it_f c_23 hf
      refine lv_aload_n hx hb d_Mo_offsetText_13 rfl (lv_at hl 1 rfl) ?_
      obtain ⟨r_24, hc, hf⟩ := ob hf
      refine cl_S (v := (some (.int r_24))) (st1 := [.int r_24]) (va_runV (As := []) (rest := []) ⟨hx, hb, hml, hown, hts⟩ (c_Mo_look l dC dI h0 r cA nf si sj sa sb hc) (cwV 0 hts (gdV m_6_83 m_6_85 msel_49 m_1_10 m_6_86) rfl rfl rfl (by decide +kernel) ⟨Nat.le_trans (Nat.le_of_ble_eq_true rfl) hRf, Nat.le_trans (Nat.le_of_ble_eq_true rfl) hRl⟩) ((RO.pre hP hK (hST.ro hS)).vir (va_recv hK hP (ci := 10) (q0 := 0) rfl rfl)) rfl rfl hl.1 rfl (lv_room (Nat.le_of_ble_eq_true rfl)) d_Mo_offsetText_14 ⟨Nat.zero_le _, Nat.zero_le _⟩) rfl ?_
      refine lv_bipush (v := 43) hx hb d_Mo_offsetText_17 (by decide) ?_
      refine lv_icmp_eq (tgt := 31) hx hb d_Mo_offsetText_19 (by decide) (fun c_25 => ?_) (fun c_25 => ?_)
      · have hf := it_t c_25 hf
        exact k_Mo_offsetText_31 C0 hST hA hK hE hf hP hD hS (lv_sub hl [1, 3] rfl)
      · have hf := it_f c_25 hf
        refine lv_aload_n hx hb d_Mo_offsetText_22 rfl (lv_at hl 1 rfl) ?_
        obtain ⟨r_28, hc, hf⟩ := ob hf
        refine cl_S (v := (some (.int r_28))) (st1 := [.int r_28]) (va_runV (As := []) (rest := []) ⟨hx, hb, hml, hown, hts⟩ (c_Mo_look l dC dI h0 r cA nf si sj sa sb hc) (cwV 0 hts (gdV m_6_83 m_6_85 msel_49 m_1_10 m_6_86) rfl rfl rfl (by decide +kernel) ⟨Nat.le_trans (Nat.le_of_ble_eq_true rfl) hRf, Nat.le_trans (Nat.le_of_ble_eq_true rfl) hRl⟩) ((RO.pre hP hK (hST.ro hS)).vir (va_recv hK hP (ci := 10) (q0 := 0) rfl rfl)) rfl rfl hl.1 rfl (lv_room (Nat.le_of_ble_eq_true rfl)) d_Mo_offsetText_23 ⟨Nat.zero_le _, Nat.zero_le _⟩) rfl ?_
        refine lv_bipush (v := 45) hx hb d_Mo_offsetText_26 (by decide) ?_
        refine lv_icmp_ne (tgt := 56) hx hb d_Mo_offsetText_28 (by decide) (fun c_29 => ?_) (fun c_29 => ?_)
        · have hf := it_f c_29 hf
          exact k_Mo_offsetText_56 C0 hST hA hK hE hf hP hD hS (lv_sub hl [0, 1, 3] rfl)
        · have hf := it_t c_29 hf
          exact k_Mo_offsetText_31 C0 hST hA hK hE hf hP hD hS (lv_sub hl [1, 3] rfl)
end
set_option maxHeartbeats 400000 in
set_option maxRecDepth 100000 in
theorem c_Mo_offsetText (l : Launch) (dC : Nat → ClassId) (dI : Nat → Nat → Nat) (h0 : Nat) (r : Nat → Nat) (cA : Nat → ClassId) (sz : Nat) (nf : Nat) (p0 : Int32) (p1 : Int32) (si : Nat → Int32) (sj : Nat → Int64) (sa : Nat → Nat → Int32) (sb : Nat → Nat → Int64) {r0 : Int32} {vi : Nat → Int32} {vj : Nat → Int64} {va : Nat → Nat → Int32} {vb : Nat → Nat → Int64} (hf : f_Mo_offsetText nf p0 p1 si sj sa sb = some (r0, vi, vj, va, vb)) : Met l y_Mo_offsetText (wd y_Mo_offsetText b_Mo_offsetText 5 (some .int)) ({ frames := 2, cells := 0, slots := 0, locals := 45 }) (MU dC dI (moW h0 r cA si sj sa sb) (moT cA) sz [.ref h0, .int p0, .int p1]) (MV (some (.int r0)) (fun t => va_P (dC, dI) classes (moW h0 r cA vi vj va vb) t.heap) (va_A (moW h0 r cA si sj sa sb) sz)) 0 0 (va_A (moW h0 r cA si sj sa sb) sz) :=
  met_M (plainFor_of_name (by decide)) (Nat.le_of_ble_eq_true rfl) (fun p e R s m args below meth c ls hRc hRs hsz hin C0 hST hK hP hD hl => by
    obtain ⟨hx, hb, hr, hml, hown, hts, hlocks, hRf, hRl⟩ := id C0
    subst hsz
    have hA : ∀ q : Nat, s.heap.size ≤ q → va_A (moW h0 r cA si sj sa sb) s.heap.size q := fun q h => Or.inr h
    have hS : va_S (va_A (moW h0 r cA si sj sa sb) s.heap.size) s.heap s.heap [] := va_S.rf
    unfold f_Mo_offsetText at hf
    exact k_Mo_offsetText_0 C0 hST hA hK (fun pc ls H locs hd hn hP hD hS => W.zret hx hb hr hn (fun t ht hW => ⟨⟨rfl, mo_end ht hP⟩, hS.F ht⟩) hS.2.2 hd) hf hP hD hS (lv_sub hl [0, 1, 2] rfl))
-- ZoneFilesModel.dayText(II)V
def f_Mo_dayText_225 (nf : Nat) (si : Nat → Int32) (sj : Nat → Int64) (sa : Nat → Nat → Int32) (sb : Nat → Nat → Int64) : Option ((Nat → Int32) × (Nat → Int64) × (Nat → Nat → Int32) × (Nat → Nat → Int64)) :=
  some (si, sj, sa, sb)
def f_Mo_dayText_221 (nf : Nat) (s0 : Int32) (s1 : Int32) (s3 : Int32) (si : Nat → Int32) (sj : Nat → Int64) (sa : Nat → Nat → Int32) (sb : Nat → Nat → Int64) : Option ((Nat → Int32) × (Nat → Int64) × (Nat → Nat → Int32) × (Nat → Nat → Int64)) :=
  (f_Mo_offsetText nf s1 s0 si sj sa sb).bind fun (z_23, i_19, j_20, a_21, b_22) =>
  if s3 < 0 ∨ 10 ≤ s3.toNatClampNeg then none else
  f_Mo_dayText_225 nf i_19 j_20 (va_up a_21 31 (upd (a_21 31) s3.toNatClampNeg z_23)) b_22
def f_Mo_dayText_207 (nf : Nat) (x2 : Int32) (s0 : Int32) (s2 : Int32) (si : Nat → Int32) (sj : Nat → Int64) (sa : Nat → Nat → Int32) (sb : Nat → Nat → Int64) : Option ((Nat → Int32) × (Nat → Int64) × (Nat → Nat → Int32) × (Nat → Nat → Int64)) :=
  if x2 = (51 : Int32) then
  f_Mo_dayText_221 nf 167 s0 s2 si sj sa sb
  else
  f_Mo_dayText_221 nf 24 s0 s2 si sj sa sb
def f_Mo_dayText_155 (nf : Nat) (x3 : Int32) (x2 : Int32) (si : Nat → Int32) (sj : Nat → Int64) (sa : Nat → Nat → Int32) (sb : Nat → Nat → Int64) : Option ((Nat → Int32) × (Nat → Int64) × (Nat → Nat → Int32) × (Nat → Nat → Int64)) :=
  if x3 < 0 ∨ 10 ≤ x3.toNatClampNeg then none else
  if (si 34) = 0 then
  (f_Mo_look nf si sj (va_up sa 31 (upd (sa 31) x3.toNatClampNeg 7200)) sb).bind fun r_15 =>
    if r_15 = (47 : Int32) then
    if x2 = (51 : Int32) then
      f_Mo_dayText_207 nf x2 1 x3 (va_up si 32 ((si 32) + 1)) sj (va_up sa 31 (upd (sa 31) x3.toNatClampNeg 7200)) sb
      else
      f_Mo_dayText_207 nf x2 0 x3 (va_up si 32 ((si 32) + 1)) sj (va_up sa 31 (upd (sa 31) x3.toNatClampNeg 7200)) sb
    else
    f_Mo_dayText_225 nf si sj (va_up sa 31 (upd (sa 31) x3.toNatClampNeg 7200)) sb
  else
  f_Mo_dayText_225 nf si sj (va_up sa 31 (upd (sa 31) x3.toNatClampNeg 7200)) sb
def f_Mo_dayText_20 (nf : Nat) (x3 : Int32) (x2 : Int32) (s0 : Int32) (si : Nat → Int32) (sj : Nat → Int64) (sa : Nat → Nat → Int32) (sb : Nat → Nat → Int64) : Option ((Nat → Int32) × (Nat → Int64) × (Nat → Nat → Int32) × (Nat → Nat → Int64)) :=
  if x3 < 0 ∨ 10 ≤ x3.toNatClampNeg then none else
  if s0 = (74 : Int32) then
  (f_Mo_number nf 1 365 (va_up si 32 ((si 32) + 1)) sj (va_up sa 27 (upd (sa 27) x3.toNatClampNeg s0)) sb).bind fun (z_55, i_51, j_52, a_53, b_54) =>
    if x3 < 0 ∨ 10 ≤ x3.toNatClampNeg then none else
    f_Mo_dayText_155 nf x3 x2 i_51 j_52 (va_up a_53 28 (upd (a_53 28) x3.toNatClampNeg z_55)) b_54
  else
  if s0 = (77 : Int32) then
    (f_Mo_number nf 1 12 (va_up si 32 ((si 32) + 1)) sj (va_up sa 27 (upd (sa 27) x3.toNatClampNeg s0)) sb).bind fun (z_29, i_25, j_26, a_27, b_28) =>
      if x3 < 0 ∨ 10 ≤ x3.toNatClampNeg then none else
      (f_Mo_sign nf 46 i_25 j_26 (va_up a_27 28 (upd (a_27 28) x3.toNatClampNeg z_29)) b_28).bind fun (i_31, j_32, a_33, b_34) =>
      (f_Mo_number nf 1 5 i_31 j_32 a_33 b_34).bind fun (z_39, i_35, j_36, a_37, b_38) =>
      if x3 < 0 ∨ 10 ≤ x3.toNatClampNeg then none else
      (f_Mo_sign nf 46 i_35 j_36 (va_up a_37 29 (upd (a_37 29) x3.toNatClampNeg z_39)) b_38).bind fun (i_41, j_42, a_43, b_44) =>
      (f_Mo_number nf 0 6 i_41 j_42 a_43 b_44).bind fun (z_49, i_45, j_46, a_47, b_48) =>
      if x3 < 0 ∨ 10 ≤ x3.toNatClampNeg then none else
      f_Mo_dayText_155 nf x3 x2 i_45 j_46 (va_up a_47 30 (upd (a_47 30) x3.toNatClampNeg z_49)) b_48
    else
    if x3 < 0 ∨ 10 ≤ x3.toNatClampNeg then none else
      (f_Mo_number nf 0 365 si sj (va_up (va_up sa 27 (upd (sa 27) x3.toNatClampNeg s0)) 27 (upd (upd (sa 27) x3.toNatClampNeg s0) x3.toNatClampNeg 0)) sb).bind fun (z_11, i_7, j_8, a_9, b_10) =>
      if x3 < 0 ∨ 10 ≤ x3.toNatClampNeg then none else
      f_Mo_dayText_155 nf x3 x2 i_7 j_8 (va_up a_9 28 (upd (a_9 28) x3.toNatClampNeg z_11)) b_10
def f_Mo_dayText_0 (nf : Nat) (x1 : Int32) (x2 : Int32) (si : Nat → Int32) (sj : Nat → Int64) (sa : Nat → Nat → Int32) (sb : Nat → Nat → Int64) : Option ((Nat → Int32) × (Nat → Int64) × (Nat → Nat → Int32) × (Nat → Nat → Int64)) :=
  if (si 34) = 0 then
  (f_Mo_look nf si sj sa sb).bind fun r_2 =>
    f_Mo_dayText_20 nf (8 + x1) x2 r_2 si sj sa sb
  else
  f_Mo_dayText_20 nf (8 + x1) x2 (-1) si sj sa sb
def f_Mo_dayText (nf : Nat) (p0 : Int32) (p1 : Int32) (si : Nat → Int32) (sj : Nat → Int64) (sa : Nat → Nat → Int32) (sb : Nat → Nat → Int64) : Option ((Nat → Int32) × (Nat → Int64) × (Nat → Nat → Int32) × (Nat → Nat → Int64)) :=
  f_Mo_dayText_0 nf p0 p1 si sj sa sb
section
variable {p : Program} {l : Launch} {e : Env} {R : Room} {s : State} {m : MethodId} {args : Array Value} {below : List Frame} {meth : Method} {c : Code} {Q : State → Prop} {dC : Nat → ClassId} {dI : Nat → Nat → Nat} {nf : Nat} {A : Nat → Prop} {h0 : Nat} {r : Nat → Nat} {cA : Nat → ClassId}
variable {vi : Nat → Int32} {vj : Nat → Int64} {va : Nat → Nat → Int32} {vb : Nat → Nat → Int64}
set_option maxHeartbeats 400000 in
set_option maxRecDepth 100000 in
theorem k_Mo_dayText_225 (C0 : Cx p s m meth c args R b_Mo_dayText "ZoneFilesModel" 5 none 3 69) (hST : ST A s s.heap) (hA : ∀ q, s.heap.size ≤ q → A q) (hK : va_K (dC, dI) classes (moT cA) s) (hE : ∀ (pc : Nat) (ls : Array Slot) (H : Heap) (locs : List Loc), decode b_Mo_dayText pc = .ok (.return_, 1) → va_P (dC, dI) classes (moW h0 r cA vi vj va vb) H → va_D A (moW h0 r cA vi vj va vb) → va_S A s.heap H locs → W p l e R s m args below meth c H locs 0 0 Q (F0 m pc ls [])) {si : Nat → Int32} {sj : Nat → Int64} {sa : Nat → Nat → Int32} {sb : Nat → Nat → Int64} (hf : f_Mo_dayText_225 nf si sj sa sb = some (vi, vj, va, vb)) {H : Heap} {locs : List Loc} {ls : Array Slot} (hP : va_P (dC, dI) classes (moW h0 r cA si sj sa sb) H) (hD : va_D A (moW h0 r cA si sj sa sb)) (hS : va_S A s.heap H locs) (hl : lv_has ls 5 []) : W p l e R s m args below meth c H locs 0 0 Q (F0 m 225 ls []) := by
  obtain ⟨hx, hb, hr, hml, hown, hts, hlocks, hRf, hRl⟩ := id C0
  unfold f_Mo_dayText_225 at hf
  cases rs hf
  exact hE _ _ _ _ d_Mo_dayText_225 hP hD hS
set_option maxHeartbeats 400000 in
set_option maxRecDepth 100000 in
theorem k_Mo_dayText_221 (C0 : Cx p s m meth c args R b_Mo_dayText "ZoneFilesModel" 5 none 3 69) (hST : ST A s s.heap) (hA : ∀ q, s.heap.size ≤ q → A q) (hK : va_K (dC, dI) classes (moT cA) s) (hE : ∀ (pc : Nat) (ls : Array Slot) (H : Heap) (locs : List Loc), decode b_Mo_dayText pc = .ok (.return_, 1) → va_P (dC, dI) classes (moW h0 r cA vi vj va vb) H → va_D A (moW h0 r cA vi vj va vb) → va_S A s.heap H locs → W p l e R s m args below meth c H locs 0 0 Q (F0 m pc ls [])) {s0 : Int32} {s1 : Int32} {s3 : Int32} {si : Nat → Int32} {sj : Nat → Int64} {sa : Nat → Nat → Int32} {sb : Nat → Nat → Int64} (hf : f_Mo_dayText_221 nf s0 s1 s3 si sj sa sb = some (vi, vj, va, vb)) {H : Heap} {locs : List Loc} {ls : Array Slot} (hP : va_P (dC, dI) classes (moW h0 r cA si sj sa sb) H) (hD : va_D A (moW h0 r cA si sj sa sb)) (hS : va_S A s.heap H locs) (hl : lv_has ls 5 []) : W p l e R s m args below meth c H locs 0 0 Q (F0 m 221 ls [.int s0, .int s1, .ref h0, .int s3, .ref (r 31)]) := by
  obtain ⟨hx, hb, hr, hml, hown, hts, hlocks, hRf, hRl⟩ := id C0
  unfold f_Mo_dayText_221 at hf
  obtain ⟨⟨z_23, i_19, j_20, a_21, b_22⟩, hc, hf⟩ := ob hf
  have hFc := mo_free hD hS hA
  refine cl_M (v := (some (.int z_23))) (st1 := [.int z_23, .int s3, .ref (r 31)]) (va_runV (As := [.int s1, .int s0]) (rest := [.int s3, .ref (r 31)]) ⟨hx, hb, hml, hown, hts⟩ (c_Mo_offsetText l dC dI h0 r cA H.size nf s1 s0 si sj sa sb hc) (cwV 2 hts (gdV m_6_104 m_6_106 msel_52 m_1_10 m_6_107) rfl rfl rfl (by decide +kernel) ⟨Nat.le_trans (Nat.le_of_ble_eq_true rfl) hRf, Nat.le_trans (Nat.le_of_ble_eq_true rfl) hRl⟩) ((MU.pre hP hK hD (hST.mu hS hFc)).vir (va_recv hK hP (ci := 10) (q0 := 0) rfl rfl)) rfl rfl hl.1 rfl (lv_room (Nat.le_of_ble_eq_true rfl)) d_Mo_dayText_221 ⟨Nat.zero_le _, Nat.zero_le _⟩) rfl hS (fun q _ h => hFc q h) hFc (fun t H1 locs ht hvm hB hz1 hk1 hS => ?_)
  obtain ⟨hP, hD⟩ := mo_back ht hD hB
  generalize H1 = H at hP hS ⊢
  obtain ⟨c_24, hf⟩ := it_n hf
  refine mz_31 hx hb hK hP hD hS c_24 d_Mo_dayText_224 (fun H locs hP hD hS => ?_)
  exact k_Mo_dayText_225 C0 hST hA hK hE hf hP hD hS (lv_sub hl [] rfl)
set_option maxHeartbeats 400000 in
set_option maxRecDepth 100000 in
theorem k_Mo_dayText_207 (C0 : Cx p s m meth c args R b_Mo_dayText "ZoneFilesModel" 5 none 3 69) (hST : ST A s s.heap) (hA : ∀ q, s.heap.size ≤ q → A q) (hK : va_K (dC, dI) classes (moT cA) s) (hE : ∀ (pc : Nat) (ls : Array Slot) (H : Heap) (locs : List Loc), decode b_Mo_dayText pc = .ok (.return_, 1) → va_P (dC, dI) classes (moW h0 r cA vi vj va vb) H → va_D A (moW h0 r cA vi vj va vb) → va_S A s.heap H locs → W p l e R s m args below meth c H locs 0 0 Q (F0 m pc ls [])) {x2 : Int32} {s0 : Int32} {s2 : Int32} {si : Nat → Int32} {sj : Nat → Int64} {sa : Nat → Nat → Int32} {sb : Nat → Nat → Int64} (hf : f_Mo_dayText_207 nf x2 s0 s2 si sj sa sb = some (vi, vj, va, vb)) {H : Heap} {locs : List Loc} {ls : Array Slot} (hP : va_P (dC, dI) classes (moW h0 r cA si sj sa sb) H) (hD : va_D A (moW h0 r cA si sj sa sb)) (hS : va_S A s.heap H locs) (hl : lv_has ls 5 [(2, .int x2)]) : W p l e R s m args below meth c H locs 0 0 Q (F0 m 207 ls [.int s0, .ref h0, .int s2, .ref (r 31)]) := by
  obtain ⟨hx, hb, hr, hml, hown, hts, hlocks, hRf, hRl⟩ := id C0
  unfold f_Mo_dayText_207 at hf
  refine lv_iload_n hx hb d_Mo_dayText_207 rfl (lv_at hl 0 rfl) ?_
  refine lv_bipush (v := 51) hx hb d_Mo_dayText_208 (by decide) ?_
  refine lv_icmp_ne (tgt := 219) hx hb d_Mo_dayText_210 (by decide) (fun c_18 => ?_) (fun c_18 => ?_)
  · have hf := it_f c_18 hf
    refine lv_bipush (v := 24) hx hb d_Mo_dayText_219 (by decide) ?_
    exact k_Mo_dayText_221 C0 hST hA hK hE hf hP hD hS (lv_sub hl [] rfl)
  · have hf := it_t c_18 hf
    refine lv_sipush (v := 167) hx hb d_Mo_dayText_213 (by decide) ?_
    refine lv_goto (tgt := 221) hx hb d_Mo_dayText_216 (by decide) ?_
    exact k_Mo_dayText_221 C0 hST hA hK hE hf hP hD hS (lv_sub hl [] rfl)
set_option maxHeartbeats 400000 in
set_option maxRecDepth 100000 in
theorem k_Mo_dayText_155 (C0 : Cx p s m meth c args R b_Mo_dayText "ZoneFilesModel" 5 none 3 69) (hST : ST A s s.heap) (hA : ∀ q, s.heap.size ≤ q → A q) (hK : va_K (dC, dI) classes (moT cA) s) (hE : ∀ (pc : Nat) (ls : Array Slot) (H : Heap) (locs : List Loc), decode b_Mo_dayText pc = .ok (.return_, 1) → va_P (dC, dI) classes (moW h0 r cA vi vj va vb) H → va_D A (moW h0 r cA vi vj va vb) → va_S A s.heap H locs → W p l e R s m args below meth c H locs 0 0 Q (F0 m pc ls [])) {x3 : Int32} {x2 : Int32} {si : Nat → Int32} {sj : Nat → Int64} {sa : Nat → Nat → Int32} {sb : Nat → Nat → Int64} (hf : f_Mo_dayText_155 nf x3 x2 si sj sa sb = some (vi, vj, va, vb)) {H : Heap} {locs : List Loc} {ls : Array Slot} (hP : va_P (dC, dI) classes (moW h0 r cA si sj sa sb) H) (hD : va_D A (moW h0 r cA si sj sa sb)) (hS : va_S A s.heap H locs) (hl : lv_has ls 5 [(3, .int x3), (0, .ref h0), (2, .int x2)]) : W p l e R s m args below meth c H locs 0 0 Q (F0 m 155 ls []) := by
  obtain ⟨hx, hb, hr, hml, hown, hts, hlocks, hRf, hRl⟩ := id C0
  unfold f_Mo_dayText_155 at hf
  refine lv_aload_n hx hb d_Mo_dayText_155 rfl (lv_at hl 1 rfl) ?_
  refine mg_31 hx hb hts hown hK hP d_Mo_dayText_156 ?_
  refine lv_iload_n hx hb d_Mo_dayText_159 rfl (lv_at hl 0 rfl) ?_
  refine lv_sipush (v := 7200) hx hb d_Mo_dayText_160 (by decide) ?_
  obtain ⟨c_13, hf⟩ := it_n hf
  refine mz_31 hx hb hK hP hD hS c_13 d_Mo_dayText_163 (fun H locs hP hD hS => ?_)
  refine lv_aload_n hx hb d_Mo_dayText_164 rfl (lv_at hl 1 rfl) ?_
  refine mg_34 (v := si 34) hx hb hts hown hK hP rfl d_Mo_dayText_165 ?_
  refine lv_if_ne (tgt := 225) hx hb d_Mo_dayText_168 (by decide) (fun c_14 => ?_) (fun c_14 => ?_)
  · have hf := it_f c_14 hf
    exact k_Mo_dayText_225 C0 hST hA hK hE hf hP hD hS (lv_sub hl [] rfl)
  · have hf := it_t c_14 hf
    refine lv_aload_n hx hb d_Mo_dayText_171 rfl (lv_at hl 1 rfl) ?_
    obtain ⟨r_15, hc, hf⟩ := ob hf
    refine cl_S (v := (some (.int r_15))) (st1 := [.int r_15]) (va_runV (As := []) (rest := []) ⟨hx, hb, hml, hown, hts⟩ (c_Mo_look l dC dI h0 r cA nf si sj (va_up sa 31 (upd (sa 31) x3.toNatClampNeg 7200)) sb hc) (cwV 0 hts (gdV m_6_83 m_6_85 msel_49 m_1_10 m_6_86) rfl rfl rfl (by decide +kernel) ⟨Nat.le_trans (Nat.le_of_ble_eq_true rfl) hRf, Nat.le_trans (Nat.le_of_ble_eq_true rfl) hRl⟩) ((RO.pre hP hK (hST.ro hS)).vir (va_recv hK hP (ci := 10) (q0 := 0) rfl rfl)) rfl rfl hl.1 rfl (lv_room (Nat.le_of_ble_eq_true rfl)) d_Mo_dayText_172 ⟨Nat.zero_le _, Nat.zero_le _⟩) rfl ?_
    refine lv_bipush (v := 47) hx hb d_Mo_dayText_175 (by decide) ?_
    refine lv_icmp_ne (tgt := 225) hx hb d_Mo_dayText_177 (by decide) (fun c_16 => ?_) (fun c_16 => ?_)
    · have hf := it_f c_16 hf
      exact k_Mo_dayText_225 C0 hST hA hK hE hf hP hD hS (lv_sub hl [] rfl)
    · have hf := it_t c_16 hf
      refine lv_aload_n hx hb d_Mo_dayText_180 rfl (lv_at hl 1 rfl) ?_
      refine lv_dup hx hb d_Mo_dayText_181 rfl ?_
      refine mg_32 (v := si 32) hx hb hts hown hK hP rfl d_Mo_dayText_182 ?_
      refine lv_iconst (v := 1) hx hb d_Mo_dayText_185 (by decide) ?_
      refine lv_iadd hx hb d_Mo_dayText_186 ?_
      refine mp_32 hx hb hts hown hK hP hD hS d_Mo_dayText_187 (fun H locs hP hD hS => ?_)
      refine lv_aload_n hx hb d_Mo_dayText_190 rfl (lv_at hl 1 rfl) ?_
      refine mg_31 hx hb hts hown hK hP d_Mo_dayText_191 ?_
      refine lv_iload_n hx hb d_Mo_dayText_194 rfl (lv_at hl 0 rfl) ?_
      refine lv_aload_n hx hb d_Mo_dayText_195 rfl (lv_at hl 1 rfl) ?_
      refine lv_iload_n hx hb d_Mo_dayText_196 rfl (lv_at hl 2 rfl) ?_
      refine lv_bipush (v := 51) hx hb d_Mo_dayText_197 (by decide) ?_
      refine lv_icmp_ne (tgt := 206) hx hb d_Mo_dayText_199 (by decide) (fun c_17 => ?_) (fun c_17 => ?_)
      · have hf := it_f c_17 hf
        refine lv_iconst (v := 0) hx hb d_Mo_dayText_206 (by decide) ?_
        exact k_Mo_dayText_207 C0 hST hA hK hE hf hP hD hS (lv_sub hl [2] rfl)
      · have hf := it_t c_17 hf
        refine lv_iconst (v := 1) hx hb d_Mo_dayText_202 (by decide) ?_
        refine lv_goto (tgt := 207) hx hb d_Mo_dayText_203 (by decide) ?_
        exact k_Mo_dayText_207 C0 hST hA hK hE hf hP hD hS (lv_sub hl [2] rfl)
set_option maxHeartbeats 400000 in
set_option maxRecDepth 100000 in
theorem k_Mo_dayText_20 (C0 : Cx p s m meth c args R b_Mo_dayText "ZoneFilesModel" 5 none 3 69) (hST : ST A s s.heap) (hA : ∀ q, s.heap.size ≤ q → A q) (hK : va_K (dC, dI) classes (moT cA) s) (hE : ∀ (pc : Nat) (ls : Array Slot) (H : Heap) (locs : List Loc), decode b_Mo_dayText pc = .ok (.return_, 1) → va_P (dC, dI) classes (moW h0 r cA vi vj va vb) H → va_D A (moW h0 r cA vi vj va vb) → va_S A s.heap H locs → W p l e R s m args below meth c H locs 0 0 Q (F0 m pc ls [])) {x3 : Int32} {x2 : Int32} {s0 : Int32} {si : Nat → Int32} {sj : Nat → Int64} {sa : Nat → Nat → Int32} {sb : Nat → Nat → Int64} (hf : f_Mo_dayText_20 nf x3 x2 s0 si sj sa sb = some (vi, vj, va, vb)) {H : Heap} {locs : List Loc} {ls : Array Slot} (hP : va_P (dC, dI) classes (moW h0 r cA si sj sa sb) H) (hD : va_D A (moW h0 r cA si sj sa sb)) (hS : va_S A s.heap H locs) (hl : lv_has ls 5 [(3, .int x3), (0, .ref h0), (2, .int x2)]) : W p l e R s m args below meth c H locs 0 0 Q (F0 m 20 ls [.int s0]) := by
  obtain ⟨hx, hb, hr, hml, hown, hts, hlocks, hRf, hRl⟩ := id C0
  unfold f_Mo_dayText_20 at hf
  refine lv_istore (lv' := [(4, .int s0), (3, .int x3), (0, .ref h0), (2, .int x2)]) hx hb d_Mo_dayText_20 hl (by decide) rfl (fun ls hl => ?_)
  refine lv_aload_n hx hb d_Mo_dayText_22 rfl (lv_at hl 2 rfl) ?_
  refine mg_27 hx hb hts hown hK hP d_Mo_dayText_23 ?_
  refine lv_iload_n hx hb d_Mo_dayText_26 rfl (lv_at hl 1 rfl) ?_
  refine lv_iload hx hb d_Mo_dayText_27 (lv_at hl 0 rfl) ?_
  obtain ⟨c_3, hf⟩ := it_n hf
  refine mz_27 hx hb hK hP hD hS c_3 d_Mo_dayText_29 (fun H locs hP hD hS => ?_)
  refine lv_iload hx hb d_Mo_dayText_30 (lv_at hl 0 rfl) ?_
  refine lv_bipush (v := 74) hx hb d_Mo_dayText_32 (by decide) ?_
  refine lv_icmp_ne (tgt := 64) hx hb d_Mo_dayText_34 (by decide) (fun c_4 => ?_) (fun c_4 => ?_)
  · have hf := it_f c_4 hf
    refine lv_iload hx hb d_Mo_dayText_64 (lv_at hl 0 rfl) ?_
    refine lv_bipush (v := 77) hx hb d_Mo_dayText_66 (by decide) ?_
    refine lv_icmp_ne (tgt := 134) hx hb d_Mo_dayText_68 (by decide) (fun c_5 => ?_) (fun c_5 => ?_)
    · have hf := it_f c_5 hf
      refine lv_aload_n hx hb d_Mo_dayText_134 rfl (lv_at hl 2 rfl) ?_
      refine mg_27 hx hb hts hown hK hP d_Mo_dayText_135 ?_
      refine lv_iload_n hx hb d_Mo_dayText_138 rfl (lv_at hl 1 rfl) ?_
      refine lv_iconst (v := 0) hx hb d_Mo_dayText_139 (by decide) ?_
      obtain ⟨c_6, hf⟩ := it_n hf
      refine mz_27 hx hb hK hP hD hS c_6 d_Mo_dayText_140 (fun H locs hP hD hS => ?_)
      refine lv_aload_n hx hb d_Mo_dayText_141 rfl (lv_at hl 2 rfl) ?_
      refine mg_28 hx hb hts hown hK hP d_Mo_dayText_142 ?_
      refine lv_iload_n hx hb d_Mo_dayText_145 rfl (lv_at hl 1 rfl) ?_
      refine lv_aload_n hx hb d_Mo_dayText_146 rfl (lv_at hl 2 rfl) ?_
      refine lv_iconst (v := 0) hx hb d_Mo_dayText_147 (by decide) ?_
      refine lv_sipush (v := 365) hx hb d_Mo_dayText_148 (by decide) ?_
      obtain ⟨⟨z_11, i_7, j_8, a_9, b_10⟩, hc, hf⟩ := ob hf
      have hFc := mo_free hD hS hA
      refine cl_M (v := (some (.int z_11))) (st1 := [.int z_11, .int x3, .ref (r 28)]) (va_runV (As := [.int 0, .int 365]) (rest := [.int x3, .ref (r 28)]) ⟨hx, hb, hml, hown, hts⟩ (c_Mo_number l dC dI h0 r cA H.size nf 0 365 si sj (va_up (va_up sa 27 (upd (sa 27) x3.toNatClampNeg s0)) 27 (upd (upd (sa 27) x3.toNatClampNeg s0) x3.toNatClampNeg 0)) sb hc) (cwV 2 hts (gdV m_6_108 m_6_110 msel_53 m_1_10 m_6_111) rfl rfl rfl (by decide +kernel) ⟨Nat.le_trans (Nat.le_of_ble_eq_true rfl) hRf, Nat.le_trans (Nat.le_of_ble_eq_true rfl) hRl⟩) ((MU.pre hP hK hD (hST.mu hS hFc)).vir (va_recv hK hP (ci := 10) (q0 := 0) rfl rfl)) rfl rfl hl.1 rfl (lv_room (Nat.le_of_ble_eq_true rfl)) d_Mo_dayText_151 ⟨Nat.zero_le _, Nat.zero_le _⟩) rfl hS (fun q _ h => hFc q h) hFc (fun t H1 locs ht hvm hB hz1 hk1 hS => ?_)
      obtain ⟨hP, hD⟩ := mo_back ht hD hB
      generalize H1 = H at hP hS ⊢
      obtain ⟨c_12, hf⟩ := it_n hf
      refine mz_28 hx hb hK hP hD hS c_12 d_Mo_dayText_154 (fun H locs hP hD hS => ?_)
      exact k_Mo_dayText_155 C0 hST hA hK hE hf hP hD hS (lv_sub hl [1, 2, 3] rfl)
    · have hf := it_t c_5 hf
      refine lv_aload_n hx hb d_Mo_dayText_71 rfl (lv_at hl 2 rfl) ?_
      refine lv_dup hx hb d_Mo_dayText_72 rfl ?_
      refine mg_32 (v := si 32) hx hb hts hown hK hP rfl d_Mo_dayText_73 ?_
      refine lv_iconst (v := 1) hx hb d_Mo_dayText_76 (by decide) ?_
      refine lv_iadd hx hb d_Mo_dayText_77 ?_
      refine mp_32 hx hb hts hown hK hP hD hS d_Mo_dayText_78 (fun H locs hP hD hS => ?_)
      refine lv_aload_n hx hb d_Mo_dayText_81 rfl (lv_at hl 2 rfl) ?_
      refine mg_28 hx hb hts hown hK hP d_Mo_dayText_82 ?_
      refine lv_iload_n hx hb d_Mo_dayText_85 rfl (lv_at hl 1 rfl) ?_
      refine lv_aload_n hx hb d_Mo_dayText_86 rfl (lv_at hl 2 rfl) ?_
      refine lv_iconst (v := 1) hx hb d_Mo_dayText_87 (by decide) ?_
      refine lv_bipush (v := 12) hx hb d_Mo_dayText_88 (by decide) ?_
      obtain ⟨⟨z_29, i_25, j_26, a_27, b_28⟩, hc, hf⟩ := ob hf
      have hFc := mo_free hD hS hA
      refine cl_M (v := (some (.int z_29))) (st1 := [.int z_29, .int x3, .ref (r 28)]) (va_runV (As := [.int 1, .int 12]) (rest := [.int x3, .ref (r 28)]) ⟨hx, hb, hml, hown, hts⟩ (c_Mo_number l dC dI h0 r cA H.size nf 1 12 (va_up si 32 ((si 32) + 1)) sj (va_up sa 27 (upd (sa 27) x3.toNatClampNeg s0)) sb hc) (cwV 2 hts (gdV m_6_108 m_6_110 msel_53 m_1_10 m_6_111) rfl rfl rfl (by decide +kernel) ⟨Nat.le_trans (Nat.le_of_ble_eq_true rfl) hRf, Nat.le_trans (Nat.le_of_ble_eq_true rfl) hRl⟩) ((MU.pre hP hK hD (hST.mu hS hFc)).vir (va_recv hK hP (ci := 10) (q0 := 0) rfl rfl)) rfl rfl hl.1 rfl (lv_room (Nat.le_of_ble_eq_true rfl)) d_Mo_dayText_90 ⟨Nat.zero_le _, Nat.zero_le _⟩) rfl hS (fun q _ h => hFc q h) hFc (fun t H1 locs ht hvm hB hz1 hk1 hS => ?_)
      obtain ⟨hP, hD⟩ := mo_back ht hD hB
      generalize H1 = H at hP hS ⊢
      obtain ⟨c_30, hf⟩ := it_n hf
      refine mz_28 hx hb hK hP hD hS c_30 d_Mo_dayText_93 (fun H locs hP hD hS => ?_)
      refine lv_aload_n hx hb d_Mo_dayText_94 rfl (lv_at hl 2 rfl) ?_
      refine lv_bipush (v := 46) hx hb d_Mo_dayText_95 (by decide) ?_
      obtain ⟨⟨i_31, j_32, a_33, b_34⟩, hc, hf⟩ := ob hf
      have hFc := mo_free hD hS hA
      refine cl_M (v := none) (st1 := []) (va_runV (As := [.int 46]) (rest := []) ⟨hx, hb, hml, hown, hts⟩ (c_Mo_sign l dC dI h0 r cA H.size nf 46 i_25 j_26 (va_up a_27 28 (upd (a_27 28) x3.toNatClampNeg z_29)) b_28 hc) (cwV 1 hts (gdV m_6_100 m_6_102 msel_51 m_1_10 m_6_103) rfl rfl rfl (by decide +kernel) ⟨Nat.le_trans (Nat.le_of_ble_eq_true rfl) hRf, Nat.le_trans (Nat.le_of_ble_eq_true rfl) hRl⟩) ((MU.pre hP hK hD (hST.mu hS hFc)).vir (va_recv hK hP (ci := 10) (q0 := 0) rfl rfl)) rfl rfl hl.1 rfl (lv_room (Nat.le_of_ble_eq_true rfl)) d_Mo_dayText_97 ⟨Nat.zero_le _, Nat.zero_le _⟩) rfl hS (fun q _ h => hFc q h) hFc (fun t H1 locs ht hvm hB hz1 hk1 hS => ?_)
      obtain ⟨hP, hD⟩ := mo_back ht hD hB
      generalize H1 = H at hP hS ⊢
      refine lv_aload_n hx hb d_Mo_dayText_100 rfl (lv_at hl 2 rfl) ?_
      refine mg_29 hx hb hts hown hK hP d_Mo_dayText_101 ?_
      refine lv_iload_n hx hb d_Mo_dayText_104 rfl (lv_at hl 1 rfl) ?_
      refine lv_aload_n hx hb d_Mo_dayText_105 rfl (lv_at hl 2 rfl) ?_
      refine lv_iconst (v := 1) hx hb d_Mo_dayText_106 (by decide) ?_
      refine lv_iconst (v := 5) hx hb d_Mo_dayText_107 (by decide) ?_
      obtain ⟨⟨z_39, i_35, j_36, a_37, b_38⟩, hc, hf⟩ := ob hf
      have hFc := mo_free hD hS hA
      refine cl_M (v := (some (.int z_39))) (st1 := [.int z_39, .int x3, .ref (r 29)]) (va_runV (As := [.int 1, .int 5]) (rest := [.int x3, .ref (r 29)]) ⟨hx, hb, hml, hown, hts⟩ (c_Mo_number l dC dI h0 r cA H.size nf 1 5 i_31 j_32 a_33 b_34 hc) (cwV 2 hts (gdV m_6_108 m_6_110 msel_53 m_1_10 m_6_111) rfl rfl rfl (by decide +kernel) ⟨Nat.le_trans (Nat.le_of_ble_eq_true rfl) hRf, Nat.le_trans (Nat.le_of_ble_eq_true rfl) hRl⟩) ((MU.pre hP hK hD (hST.mu hS hFc)).vir (va_recv hK hP (ci := 10) (q0 := 0) rfl rfl)) rfl rfl hl.1 rfl (lv_room (Nat.le_of_ble_eq_true rfl)) d_Mo_dayText_108 ⟨Nat.zero_le _, Nat.zero_le _⟩) rfl hS (fun q _ h => hFc q h) hFc (fun t H1 locs ht hvm hB hz1 hk1 hS => ?_)
      obtain ⟨hP, hD⟩ := mo_back ht hD hB
      generalize H1 = H at hP hS ⊢
      obtain ⟨c_40, hf⟩ := it_n hf
      refine mz_29 hx hb hK hP hD hS c_40 d_Mo_dayText_111 (fun H locs hP hD hS => ?_)
      refine lv_aload_n hx hb d_Mo_dayText_112 rfl (lv_at hl 2 rfl) ?_
      refine lv_bipush (v := 46) hx hb d_Mo_dayText_113 (by decide) ?_
      obtain ⟨⟨i_41, j_42, a_43, b_44⟩, hc, hf⟩ := ob hf
      have hFc := mo_free hD hS hA
      refine cl_M (v := none) (st1 := []) (va_runV (As := [.int 46]) (rest := []) ⟨hx, hb, hml, hown, hts⟩ (c_Mo_sign l dC dI h0 r cA H.size nf 46 i_35 j_36 (va_up a_37 29 (upd (a_37 29) x3.toNatClampNeg z_39)) b_38 hc) (cwV 1 hts (gdV m_6_100 m_6_102 msel_51 m_1_10 m_6_103) rfl rfl rfl (by decide +kernel) ⟨Nat.le_trans (Nat.le_of_ble_eq_true rfl) hRf, Nat.le_trans (Nat.le_of_ble_eq_true rfl) hRl⟩) ((MU.pre hP hK hD (hST.mu hS hFc)).vir (va_recv hK hP (ci := 10) (q0 := 0) rfl rfl)) rfl rfl hl.1 rfl (lv_room (Nat.le_of_ble_eq_true rfl)) d_Mo_dayText_115 ⟨Nat.zero_le _, Nat.zero_le _⟩) rfl hS (fun q _ h => hFc q h) hFc (fun t H1 locs ht hvm hB hz1 hk1 hS => ?_)
      obtain ⟨hP, hD⟩ := mo_back ht hD hB
      generalize H1 = H at hP hS ⊢
      refine lv_aload_n hx hb d_Mo_dayText_118 rfl (lv_at hl 2 rfl) ?_
      refine mg_30 hx hb hts hown hK hP d_Mo_dayText_119 ?_
      refine lv_iload_n hx hb d_Mo_dayText_122 rfl (lv_at hl 1 rfl) ?_
      refine lv_aload_n hx hb d_Mo_dayText_123 rfl (lv_at hl 2 rfl) ?_
      refine lv_iconst (v := 0) hx hb d_Mo_dayText_124 (by decide) ?_
      refine lv_bipush (v := 6) hx hb d_Mo_dayText_125 (by decide) ?_
      obtain ⟨⟨z_49, i_45, j_46, a_47, b_48⟩, hc, hf⟩ := ob hf
      have hFc := mo_free hD hS hA
      refine cl_M (v := (some (.int z_49))) (st1 := [.int z_49, .int x3, .ref (r 30)]) (va_runV (As := [.int 0, .int 6]) (rest := [.int x3, .ref (r 30)]) ⟨hx, hb, hml, hown, hts⟩ (c_Mo_number l dC dI h0 r cA H.size nf 0 6 i_41 j_42 a_43 b_44 hc) (cwV 2 hts (gdV m_6_108 m_6_110 msel_53 m_1_10 m_6_111) rfl rfl rfl (by decide +kernel) ⟨Nat.le_trans (Nat.le_of_ble_eq_true rfl) hRf, Nat.le_trans (Nat.le_of_ble_eq_true rfl) hRl⟩) ((MU.pre hP hK hD (hST.mu hS hFc)).vir (va_recv hK hP (ci := 10) (q0 := 0) rfl rfl)) rfl rfl hl.1 rfl (lv_room (Nat.le_of_ble_eq_true rfl)) d_Mo_dayText_127 ⟨Nat.zero_le _, Nat.zero_le _⟩) rfl hS (fun q _ h => hFc q h) hFc (fun t H1 locs ht hvm hB hz1 hk1 hS => ?_)
      obtain ⟨hP, hD⟩ := mo_back ht hD hB
      generalize H1 = H at hP hS ⊢
      obtain ⟨c_50, hf⟩ := it_n hf
      refine mz_30 hx hb hK hP hD hS c_50 d_Mo_dayText_130 (fun H locs hP hD hS => ?_)
      refine lv_goto (tgt := 155) hx hb d_Mo_dayText_131 (by decide) ?_
      exact k_Mo_dayText_155 C0 hST hA hK hE hf hP hD hS (lv_sub hl [1, 2, 3] rfl)
  · have hf := it_t c_4 hf
    refine lv_aload_n hx hb d_Mo_dayText_37 rfl (lv_at hl 2 rfl) ?_
    refine lv_dup hx hb d_Mo_dayText_38 rfl ?_
    refine mg_32 (v := si 32) hx hb hts hown hK hP rfl d_Mo_dayText_39 ?_
    refine lv_iconst (v := 1) hx hb d_Mo_dayText_42 (by decide) ?_
    refine lv_iadd hx hb d_Mo_dayText_43 ?_
    refine mp_32 hx hb hts hown hK hP hD hS d_Mo_dayText_44 (fun H locs hP hD hS => ?_)
    refine lv_aload_n hx hb d_Mo_dayText_47 rfl (lv_at hl 2 rfl) ?_
    refine mg_28 hx hb hts hown hK hP d_Mo_dayText_48 ?_
    refine lv_iload_n hx hb d_Mo_dayText_51 rfl (lv_at hl 1 rfl) ?_
    refine lv_aload_n hx hb d_Mo_dayText_52 rfl (lv_at hl 2 rfl) ?_
    refine lv_iconst (v := 1) hx hb d_Mo_dayText_53 (by decide) ?_
    refine lv_sipush (v := 365) hx hb d_Mo_dayText_54 (by decide) ?_
    obtain ⟨⟨z_55, i_51, j_52, a_53, b_54⟩, hc, hf⟩ := ob hf
    have hFc := mo_free hD hS hA
    refine cl_M (v := (some (.int z_55))) (st1 := [.int z_55, .int x3, .ref (r 28)]) (va_runV (As := [.int 1, .int 365]) (rest := [.int x3, .ref (r 28)]) ⟨hx, hb, hml, hown, hts⟩ (c_Mo_number l dC dI h0 r cA H.size nf 1 365 (va_up si 32 ((si 32) + 1)) sj (va_up sa 27 (upd (sa 27) x3.toNatClampNeg s0)) sb hc) (cwV 2 hts (gdV m_6_108 m_6_110 msel_53 m_1_10 m_6_111) rfl rfl rfl (by decide +kernel) ⟨Nat.le_trans (Nat.le_of_ble_eq_true rfl) hRf, Nat.le_trans (Nat.le_of_ble_eq_true rfl) hRl⟩) ((MU.pre hP hK hD (hST.mu hS hFc)).vir (va_recv hK hP (ci := 10) (q0 := 0) rfl rfl)) rfl rfl hl.1 rfl (lv_room (Nat.le_of_ble_eq_true rfl)) d_Mo_dayText_57 ⟨Nat.zero_le _, Nat.zero_le _⟩) rfl hS (fun q _ h => hFc q h) hFc (fun t H1 locs ht hvm hB hz1 hk1 hS => ?_)
    obtain ⟨hP, hD⟩ := mo_back ht hD hB
    generalize H1 = H at hP hS ⊢
    obtain ⟨c_56, hf⟩ := it_n hf
    refine mz_28 hx hb hK hP hD hS c_56 d_Mo_dayText_60 (fun H locs hP hD hS => ?_)
    refine lv_goto (tgt := 155) hx hb d_Mo_dayText_61 (by decide) ?_
    exact k_Mo_dayText_155 C0 hST hA hK hE hf hP hD hS (lv_sub hl [1, 2, 3] rfl)
set_option maxHeartbeats 400000 in
set_option maxRecDepth 100000 in
theorem k_Mo_dayText_0 (C0 : Cx p s m meth c args R b_Mo_dayText "ZoneFilesModel" 5 none 3 69) (hST : ST A s s.heap) (hA : ∀ q, s.heap.size ≤ q → A q) (hK : va_K (dC, dI) classes (moT cA) s) (hE : ∀ (pc : Nat) (ls : Array Slot) (H : Heap) (locs : List Loc), decode b_Mo_dayText pc = .ok (.return_, 1) → va_P (dC, dI) classes (moW h0 r cA vi vj va vb) H → va_D A (moW h0 r cA vi vj va vb) → va_S A s.heap H locs → W p l e R s m args below meth c H locs 0 0 Q (F0 m pc ls [])) {x1 : Int32} {x2 : Int32} {si : Nat → Int32} {sj : Nat → Int64} {sa : Nat → Nat → Int32} {sb : Nat → Nat → Int64} (hf : f_Mo_dayText_0 nf x1 x2 si sj sa sb = some (vi, vj, va, vb)) {H : Heap} {locs : List Loc} {ls : Array Slot} (hP : va_P (dC, dI) classes (moW h0 r cA si sj sa sb) H) (hD : va_D A (moW h0 r cA si sj sa sb)) (hS : va_S A s.heap H locs) (hl : lv_has ls 5 [(0, .ref h0), (1, .int x1), (2, .int x2)]) : W p l e R s m args below meth c H locs 0 0 Q (F0 m 0 ls []) := by
  obtain ⟨hx, hb, hr, hml, hown, hts, hlocks, hRf, hRl⟩ := id C0
  unfold f_Mo_dayText_0 at hf
  refine lv_bipush (v := 8) hx hb d_Mo_dayText_0 (by decide) ?_
  refine lv_iload_n hx hb d_Mo_dayText_2 rfl (lv_at hl 1 rfl) ?_
  refine lv_iadd hx hb d_Mo_dayText_3 ?_
  refine lv_istore_n (lv' := [(3, .int (8 + x1)), (0, .ref h0), (1, .int x1), (2, .int x2)]) hx hb d_Mo_dayText_4 rfl hl (by decide) rfl (fun ls hl => ?_)
  refine lv_aload_n hx hb d_Mo_dayText_5 rfl (lv_at hl 1 rfl) ?_
  refine mg_34 (v := si 34) hx hb hts hown hK hP rfl d_Mo_dayText_6 ?_
  refine lv_if_eq (tgt := 16) hx hb d_Mo_dayText_9 (by decide) (fun c_1 => ?_) (fun c_1 => ?_)
  · have hf := it_t c_1 hf
    refine lv_aload_n hx hb d_Mo_dayText_16 rfl (lv_at hl 1 rfl) ?_
    obtain ⟨r_2, hc, hf⟩ := ob hf
    refine cl_S (v := (some (.int r_2))) (st1 := [.int r_2]) (va_runV (As := []) (rest := []) ⟨hx, hb, hml, hown, hts⟩ (c_Mo_look l dC dI h0 r cA nf si sj sa sb hc) (cwV 0 hts (gdV m_6_83 m_6_85 msel_49 m_1_10 m_6_86) rfl rfl rfl (by decide +kernel) ⟨Nat.le_trans (Nat.le_of_ble_eq_true rfl) hRf, Nat.le_trans (Nat.le_of_ble_eq_true rfl) hRl⟩) ((RO.pre hP hK (hST.ro hS)).vir (va_recv hK hP (ci := 10) (q0 := 0) rfl rfl)) rfl rfl hl.1 rfl (lv_room (Nat.le_of_ble_eq_true rfl)) d_Mo_dayText_17 ⟨Nat.zero_le _, Nat.zero_le _⟩) rfl ?_
    exact k_Mo_dayText_20 C0 hST hA hK hE hf hP hD hS (lv_sub hl [0, 1, 3] rfl)
  · have hf := it_f c_1 hf
    refine lv_iconst (v := -1) hx hb d_Mo_dayText_12 (by decide) ?_
    refine lv_goto (tgt := 20) hx hb d_Mo_dayText_13 (by decide) ?_
    exact k_Mo_dayText_20 C0 hST hA hK hE hf hP hD hS (lv_sub hl [0, 1, 3] rfl)
end
set_option maxHeartbeats 400000 in
set_option maxRecDepth 100000 in
theorem c_Mo_dayText (l : Launch) (dC : Nat → ClassId) (dI : Nat → Nat → Nat) (h0 : Nat) (r : Nat → Nat) (cA : Nat → ClassId) (sz : Nat) (nf : Nat) (p0 : Int32) (p1 : Int32) (si : Nat → Int32) (sj : Nat → Int64) (sa : Nat → Nat → Int32) (sb : Nat → Nat → Int64) {vi : Nat → Int32} {vj : Nat → Int64} {va : Nat → Nat → Int32} {vb : Nat → Nat → Int64} (hf : f_Mo_dayText nf p0 p1 si sj sa sb = some (vi, vj, va, vb)) : Met l y_Mo_dayText (wd y_Mo_dayText b_Mo_dayText 5 none) ({ frames := 3, cells := 0, slots := 0, locals := 69 }) (MU dC dI (moW h0 r cA si sj sa sb) (moT cA) sz [.ref h0, .int p0, .int p1]) (MV none (fun t => va_P (dC, dI) classes (moW h0 r cA vi vj va vb) t.heap) (va_A (moW h0 r cA si sj sa sb) sz)) 0 0 (va_A (moW h0 r cA si sj sa sb) sz) :=
  met_M (plainFor_of_name (by decide)) (Nat.le_of_ble_eq_true rfl) (fun p e R s m args below meth c ls hRc hRs hsz hin C0 hST hK hP hD hl => by
    obtain ⟨hx, hb, hr, hml, hown, hts, hlocks, hRf, hRl⟩ := id C0
    subst hsz
    have hA : ∀ q : Nat, s.heap.size ≤ q → va_A (moW h0 r cA si sj sa sb) s.heap.size q := fun q h => Or.inr h
    have hS : va_S (va_A (moW h0 r cA si sj sa sb) s.heap.size) s.heap s.heap [] := va_S.rf
    unfold f_Mo_dayText at hf
    exact k_Mo_dayText_0 C0 hST hA hK (fun pc ls H locs hd hP hD hS => W.vret hx hb hr (fun t ht hW => ⟨⟨rfl, mo_end ht hP⟩, hS.F ht⟩) hS.2.2 hd) hf hP hD hS (lv_sub hl [0, 1, 2] rfl))
-- ZoneFilesModel.ruleText(III)Z
def f_Mo_ruleText_210 (nf : Nat) (s0 : Int32) (si : Nat → Int32) (sj : Nat → Int64) (sa : Nat → Nat → Int32) (sb : Nat → Nat → Int64) : Option (Int32 × (Nat → Int32) × (Nat → Int64) × (Nat → Nat → Int32) × (Nat → Nat → Int64)) :=
  if s0 = 0 ∨ s0 = 1 then some (s0, si, sj, sa, sb) else none
def f_Mo_ruleText_198 (nf : Nat) (si : Nat → Int32) (sj : Nat → Int64) (sa : Nat → Nat → Int32) (sb : Nat → Nat → Int64) : Option (Int32 × (Nat → Int32) × (Nat → Int64) × (Nat → Nat → Int32) × (Nat → Nat → Int64)) :=
  if (si 34) = 0 then
  f_Mo_ruleText_210 nf 1 si sj sa sb
  else
  f_Mo_ruleText_210 nf 0 si sj sa sb
def f_Mo_ruleText_147 (nf : Nat) (x1 : Int32) (s0 : Int32) (s1 : Int32) (si : Nat → Int32) (sj : Nat → Int64) (sa : Nat → Nat → Int32) (sb : Nat → Nat → Int64) : Option (Int32 × (Nat → Int32) × (Nat → Int64) × (Nat → Nat → Int32) × (Nat → Nat → Int64)) :=
  if s1 < 0 ∨ 10 ≤ s1.toNatClampNeg then none else
  (f_Mo_sign nf 44 si sj (va_up sa 24 (upd (sa 24) s1.toNatClampNeg s0)) sb).bind fun (i_25, j_26, a_27, b_28) =>
  (f_Mo_dayText nf 0 x1 i_25 j_26 a_27 b_28).bind fun (i_29, j_30, a_31, b_32) =>
  (f_Mo_sign nf 44 i_29 j_30 a_31 b_32).bind fun (i_33, j_34, a_35, b_36) =>
  (f_Mo_dayText nf 1 x1 i_33 j_34 a_35 b_36).bind fun (i_37, j_38, a_39, b_40) =>
  if (i_37 34) = 0 then
  if (i_37 33) ≤ (i_37 32) then
    f_Mo_ruleText_198 nf i_37 j_38 a_39 b_40
    else
    (f_Mo_cannot nf (i_37 32) i_37 j_38 a_39 b_40).bind fun (i_43, j_44, a_45, b_46) =>
      f_Mo_ruleText_198 nf i_43 j_44 a_45 b_46
  else
  f_Mo_ruleText_198 nf i_37 j_38 a_39 b_40
def f_Mo_ruleText_112 (nf : Nat) (x1 : Int32) (s0 : Int32) (si : Nat → Int32) (sj : Nat → Int64) (sa : Nat → Nat → Int32) (sb : Nat → Nat → Int64) : Option (Int32 × (Nat → Int32) × (Nat → Int64) × (Nat → Nat → Int32) × (Nat → Nat → Int64)) :=
  if s0 = 0 then
  if (8 : Int32) < 0 ∨ 10 ≤ (8 : Int32).toNatClampNeg then none else
    f_Mo_ruleText_147 nf x1 ((sa 24 (8 : Int32).toNatClampNeg) + 3600) 9 si sj sa sb
  else
  (f_Mo_offsetText nf 1 24 si sj sa sb).bind fun (z_51, i_47, j_48, a_49, b_50) =>
    f_Mo_ruleText_147 nf x1 (-z_51) 9 i_47 j_48 a_49 b_50
def f_Mo_ruleText_111 (nf : Nat) (x1 : Int32) (si : Nat → Int32) (sj : Nat → Int64) (sa : Nat → Nat → Int32) (sb : Nat → Nat → Int64) : Option (Int32 × (Nat → Int32) × (Nat → Int64) × (Nat → Nat → Int32) × (Nat → Nat → Int64)) :=
  f_Mo_ruleText_112 nf x1 0 si sj sa sb
def f_Mo_ruleText_107 (nf : Nat) (x1 : Int32) (si : Nat → Int32) (sj : Nat → Int64) (sa : Nat → Nat → Int32) (sb : Nat → Nat → Int64) : Option (Int32 × (Nat → Int32) × (Nat → Int64) × (Nat → Nat → Int32) × (Nat → Nat → Int64)) :=
  f_Mo_ruleText_112 nf x1 1 si sj sa sb
def f_Mo_ruleText_0 (nf : Nat) (x1 : Int32) (x2 : Int32) (x3 : Int32) (si : Nat → Int32) (sj : Nat → Int64) (sa : Nat → Nat → Int32) (sb : Nat → Nat → Int64) : Option (Int32 × (Nat → Int32) × (Nat → Int64) × (Nat → Nat → Int32) × (Nat → Nat → Int64)) :=
  (f_Mo_nameText nf 0 (va_up (va_up (va_up si 32 x2) 33 x3) 34 0) sj sa sb).bind fun (i_1, j_2, a_3, b_4) =>
  (f_Mo_offsetText nf 1 24 i_1 j_2 a_3 b_4).bind fun (z_9, i_5, j_6, a_7, b_8) =>
  if (8 : Int32) < 0 ∨ 10 ≤ (8 : Int32).toNatClampNeg then none else
  if (4 : Int32) < 0 ∨ 5 ≤ (4 : Int32).toNatClampNeg then none else
  if (i_5 34) = 0 then
  if (i_5 33) ≤ (i_5 32) then
    f_Mo_ruleText_198 nf i_5 j_6 (va_up (va_up a_7 24 (upd (a_7 24) (8 : Int32).toNatClampNeg (-z_9))) 23 (upd (a_7 23) (4 : Int32).toNatClampNeg 1)) b_8
    else
    if (4 : Int32) < 0 ∨ 5 ≤ (4 : Int32).toNatClampNeg then none else
      (f_Mo_nameText nf 1 i_5 j_6 (va_up (va_up (va_up a_7 24 (upd (a_7 24) (8 : Int32).toNatClampNeg (-z_9))) 23 (upd (a_7 23) (4 : Int32).toNatClampNeg 1)) 23 (upd (upd (a_7 23) (4 : Int32).toNatClampNeg 1) (4 : Int32).toNatClampNeg 2)) b_8).bind fun (i_17, j_18, a_19, b_20) =>
      if (i_17 34) = 0 then
      (f_Mo_look nf i_17 j_18 a_19 b_20).bind fun r_52 =>
        if r_52 = (43 : Int32) then
        f_Mo_ruleText_107 nf x1 i_17 j_18 a_19 b_20
        else
        (f_Mo_look nf i_17 j_18 a_19 b_20).bind fun r_54 =>
          if r_54 = (45 : Int32) then
          f_Mo_ruleText_107 nf x1 i_17 j_18 a_19 b_20
          else
          (f_Mo_look nf i_17 j_18 a_19 b_20).bind fun r_56 =>
            (f_Mo_isDigit nf r_56).bind fun r_57 =>
            if r_57 = 0 then
            f_Mo_ruleText_111 nf x1 i_17 j_18 a_19 b_20
            else
            f_Mo_ruleText_107 nf x1 i_17 j_18 a_19 b_20
      else
      f_Mo_ruleText_111 nf x1 i_17 j_18 a_19 b_20
  else
  f_Mo_ruleText_198 nf i_5 j_6 (va_up (va_up a_7 24 (upd (a_7 24) (8 : Int32).toNatClampNeg (-z_9))) 23 (upd (a_7 23) (4 : Int32).toNatClampNeg 1)) b_8
def f_Mo_ruleText (nf : Nat) (p0 : Int32) (p1 : Int32) (p2 : Int32) (si : Nat → Int32) (sj : Nat → Int64) (sa : Nat → Nat → Int32) (sb : Nat → Nat → Int64) : Option (Int32 × (Nat → Int32) × (Nat → Int64) × (Nat → Nat → Int32) × (Nat → Nat → Int64)) :=
  f_Mo_ruleText_0 nf p0 p1 p2 si sj sa sb
section
variable {p : Program} {l : Launch} {e : Env} {R : Room} {s : State} {m : MethodId} {args : Array Value} {below : List Frame} {meth : Method} {c : Code} {Q : State → Prop} {dC : Nat → ClassId} {dI : Nat → Nat → Nat} {nf : Nat} {A : Nat → Prop} {h0 : Nat} {r : Nat → Nat} {cA : Nat → ClassId}
variable {r0 : Int32} {vi : Nat → Int32} {vj : Nat → Int64} {va : Nat → Nat → Int32} {vb : Nat → Nat → Int64}
set_option maxHeartbeats 400000 in
set_option maxRecDepth 100000 in
theorem k_Mo_ruleText_210 (C0 : Cx p s m meth c args R b_Mo_ruleText "ZoneFilesModel" 5 (some .boolean) 4 93) (hST : ST A s s.heap) (hA : ∀ q, s.heap.size ≤ q → A q) (hK : va_K (dC, dI) classes (moT cA) s) (hE : ∀ (pc : Nat) (ls : Array Slot) (H : Heap) (locs : List Loc), decode b_Mo_ruleText pc = .ok (.ireturn, 1) → narrow .boolean (.int r0) = .int r0 → va_P (dC, dI) classes (moW h0 r cA vi vj va vb) H → va_D A (moW h0 r cA vi vj va vb) → va_S A s.heap H locs → W p l e R s m args below meth c H locs 0 0 Q (F0 m pc ls [.int r0])) {s0 : Int32} {si : Nat → Int32} {sj : Nat → Int64} {sa : Nat → Nat → Int32} {sb : Nat → Nat → Int64} (hf : f_Mo_ruleText_210 nf s0 si sj sa sb = some (r0, vi, vj, va, vb)) {H : Heap} {locs : List Loc} {ls : Array Slot} (hP : va_P (dC, dI) classes (moW h0 r cA si sj sa sb) H) (hD : va_D A (moW h0 r cA si sj sa sb)) (hS : va_S A s.heap H locs) (hl : lv_has ls 5 []) : W p l e R s m args below meth c H locs 0 0 Q (F0 m 210 ls [.int s0]) := by
  obtain ⟨hx, hb, hr, hml, hown, hts, hlocks, hRf, hRl⟩ := id C0
  unfold f_Mo_ruleText_210 at hf
  obtain ⟨c_14, hf⟩ := it_g hf
  cases rs hf
  exact hE _ _ _ _ d_Mo_ruleText_210 (nb_of c_14) hP hD hS
set_option maxHeartbeats 400000 in
set_option maxRecDepth 100000 in
theorem k_Mo_ruleText_198 (C0 : Cx p s m meth c args R b_Mo_ruleText "ZoneFilesModel" 5 (some .boolean) 4 93) (hST : ST A s s.heap) (hA : ∀ q, s.heap.size ≤ q → A q) (hK : va_K (dC, dI) classes (moT cA) s) (hE : ∀ (pc : Nat) (ls : Array Slot) (H : Heap) (locs : List Loc), decode b_Mo_ruleText pc = .ok (.ireturn, 1) → narrow .boolean (.int r0) = .int r0 → va_P (dC, dI) classes (moW h0 r cA vi vj va vb) H → va_D A (moW h0 r cA vi vj va vb) → va_S A s.heap H locs → W p l e R s m args below meth c H locs 0 0 Q (F0 m pc ls [.int r0])) {si : Nat → Int32} {sj : Nat → Int64} {sa : Nat → Nat → Int32} {sb : Nat → Nat → Int64} (hf : f_Mo_ruleText_198 nf si sj sa sb = some (r0, vi, vj, va, vb)) {H : Heap} {locs : List Loc} {ls : Array Slot} (hP : va_P (dC, dI) classes (moW h0 r cA si sj sa sb) H) (hD : va_D A (moW h0 r cA si sj sa sb)) (hS : va_S A s.heap H locs) (hl : lv_has ls 5 [(0, .ref h0)]) : W p l e R s m args below meth c H locs 0 0 Q (F0 m 198 ls []) := by
  obtain ⟨hx, hb, hr, hml, hown, hts, hlocks, hRf, hRl⟩ := id C0
  unfold f_Mo_ruleText_198 at hf
  refine lv_aload_n hx hb d_Mo_ruleText_198 rfl (lv_at hl 0 rfl) ?_
  refine mg_34 (v := si 34) hx hb hts hown hK hP rfl d_Mo_ruleText_199 ?_
  refine lv_if_ne (tgt := 209) hx hb d_Mo_ruleText_202 (by decide) (fun c_13 => ?_) (fun c_13 => ?_)
  · have hf := it_f c_13 hf
    refine lv_iconst (v := 0) hx hb d_Mo_ruleText_209 (by decide) ?_
    exact k_Mo_ruleText_210 C0 hST hA hK hE hf hP hD hS (lv_sub hl [] rfl)
  · have hf := it_t c_13 hf
    refine lv_iconst (v := 1) hx hb d_Mo_ruleText_205 (by decide) ?_
    refine lv_goto (tgt := 210) hx hb d_Mo_ruleText_206 (by decide) ?_
    exact k_Mo_ruleText_210 C0 hST hA hK hE hf hP hD hS (lv_sub hl [] rfl)
set_option maxHeartbeats 400000 in
set_option maxRecDepth 100000 in
theorem k_Mo_ruleText_147 (C0 : Cx p s m meth c args R b_Mo_ruleText "ZoneFilesModel" 5 (some .boolean) 4 93) (hST : ST A s s.heap) (hA : ∀ q, s.heap.size ≤ q → A q) (hK : va_K (dC, dI) classes (moT cA) s) (hE : ∀ (pc : Nat) (ls : Array Slot) (H : Heap) (locs : List Loc), decode b_Mo_ruleText pc = .ok (.ireturn, 1) → narrow .boolean (.int r0) = .int r0 → va_P (dC, dI) classes (moW h0 r cA vi vj va vb) H → va_D A (moW h0 r cA vi vj va vb) → va_S A s.heap H locs → W p l e R s m args below meth c H locs 0 0 Q (F0 m pc ls [.int r0])) {x1 : Int32} {s0 : Int32} {s1 : Int32} {si : Nat → Int32} {sj : Nat → Int64} {sa : Nat → Nat → Int32} {sb : Nat → Nat → Int64} (hf : f_Mo_ruleText_147 nf x1 s0 s1 si sj sa sb = some (r0, vi, vj, va, vb)) {H : Heap} {locs : List Loc} {ls : Array Slot} (hP : va_P (dC, dI) classes (moW h0 r cA si sj sa sb) H) (hD : va_D A (moW h0 r cA si sj sa sb)) (hS : va_S A s.heap H locs) (hl : lv_has ls 5 [(0, .ref h0), (1, .int x1)]) : W p l e R s m args below meth c H locs 0 0 Q (F0 m 147 ls [.int s0, .int s1, .ref (r 24)]) := by
  obtain ⟨hx, hb, hr, hml, hown, hts, hlocks, hRf, hRl⟩ := id C0
  unfold f_Mo_ruleText_147 at hf
  obtain ⟨c_24, hf⟩ := it_n hf
  refine mz_24 hx hb hK hP hD hS c_24 d_Mo_ruleText_147 (fun H locs hP hD hS => ?_)
  refine lv_aload_n hx hb d_Mo_ruleText_148 rfl (lv_at hl 0 rfl) ?_
  refine lv_bipush (v := 44) hx hb d_Mo_ruleText_149 (by decide) ?_
  obtain ⟨⟨i_25, j_26, a_27, b_28⟩, hc, hf⟩ := ob hf
  have hFc := mo_free hD hS hA
  refine cl_M (v := none) (st1 := []) (va_runV (As := [.int 44]) (rest := []) ⟨hx, hb, hml, hown, hts⟩ (c_Mo_sign l dC dI h0 r cA H.size nf 44 si sj (va_up sa 24 (upd (sa 24) s1.toNatClampNeg s0)) sb hc) (cwV 1 hts (gdV m_6_100 m_6_102 msel_51 m_1_10 m_6_103) rfl rfl rfl (by decide +kernel) ⟨Nat.le_trans (Nat.le_of_ble_eq_true rfl) hRf, Nat.le_trans (Nat.le_of_ble_eq_true rfl) hRl⟩) ((MU.pre hP hK hD (hST.mu hS hFc)).vir (va_recv hK hP (ci := 10) (q0 := 0) rfl rfl)) rfl rfl hl.1 rfl (lv_room (Nat.le_of_ble_eq_true rfl)) d_Mo_ruleText_151 ⟨Nat.zero_le _, Nat.zero_le _⟩) rfl hS (fun q _ h => hFc q h) hFc (fun t H1 locs ht hvm hB hz1 hk1 hS => ?_)
  obtain ⟨hP, hD⟩ := mo_back ht hD hB
  generalize H1 = H at hP hS ⊢
  refine lv_aload_n hx hb d_Mo_ruleText_154 rfl (lv_at hl 0 rfl) ?_
  refine lv_iconst (v := 0) hx hb d_Mo_ruleText_155 (by decide) ?_
  refine lv_iload_n hx hb d_Mo_ruleText_156 rfl (lv_at hl 1 rfl) ?_
  obtain ⟨⟨i_29, j_30, a_31, b_32⟩, hc, hf⟩ := ob hf
  have hFc := mo_free hD hS hA
  refine cl_M (v := none) (st1 := []) (va_runV (As := [.int 0, .int x1]) (rest := []) ⟨hx, hb, hml, hown, hts⟩ (c_Mo_dayText l dC dI h0 r cA H.size nf 0 x1 i_25 j_26 a_27 b_28 hc) (cwV 2 hts (gdV m_6_112 m_6_114 msel_54 m_1_10 m_6_115) rfl rfl rfl (by decide +kernel) ⟨Nat.le_trans (Nat.le_of_ble_eq_true rfl) hRf, Nat.le_trans (Nat.le_of_ble_eq_true rfl) hRl⟩) ((MU.pre hP hK hD (hST.mu hS hFc)).vir (va_recv hK hP (ci := 10) (q0 := 0) rfl rfl)) rfl rfl hl.1 rfl (lv_room (Nat.le_of_ble_eq_true rfl)) d_Mo_ruleText_157 ⟨Nat.zero_le _, Nat.zero_le _⟩) rfl hS (fun q _ h => hFc q h) hFc (fun t H1 locs ht hvm hB hz1 hk1 hS => ?_)
  obtain ⟨hP, hD⟩ := mo_back ht hD hB
  generalize H1 = H at hP hS ⊢
  refine lv_aload_n hx hb d_Mo_ruleText_160 rfl (lv_at hl 0 rfl) ?_
  refine lv_bipush (v := 44) hx hb d_Mo_ruleText_161 (by decide) ?_
  obtain ⟨⟨i_33, j_34, a_35, b_36⟩, hc, hf⟩ := ob hf
  have hFc := mo_free hD hS hA
  refine cl_M (v := none) (st1 := []) (va_runV (As := [.int 44]) (rest := []) ⟨hx, hb, hml, hown, hts⟩ (c_Mo_sign l dC dI h0 r cA H.size nf 44 i_29 j_30 a_31 b_32 hc) (cwV 1 hts (gdV m_6_100 m_6_102 msel_51 m_1_10 m_6_103) rfl rfl rfl (by decide +kernel) ⟨Nat.le_trans (Nat.le_of_ble_eq_true rfl) hRf, Nat.le_trans (Nat.le_of_ble_eq_true rfl) hRl⟩) ((MU.pre hP hK hD (hST.mu hS hFc)).vir (va_recv hK hP (ci := 10) (q0 := 0) rfl rfl)) rfl rfl hl.1 rfl (lv_room (Nat.le_of_ble_eq_true rfl)) d_Mo_ruleText_163 ⟨Nat.zero_le _, Nat.zero_le _⟩) rfl hS (fun q _ h => hFc q h) hFc (fun t H1 locs ht hvm hB hz1 hk1 hS => ?_)
  obtain ⟨hP, hD⟩ := mo_back ht hD hB
  generalize H1 = H at hP hS ⊢
  refine lv_aload_n hx hb d_Mo_ruleText_166 rfl (lv_at hl 0 rfl) ?_
  refine lv_iconst (v := 1) hx hb d_Mo_ruleText_167 (by decide) ?_
  refine lv_iload_n hx hb d_Mo_ruleText_168 rfl (lv_at hl 1 rfl) ?_
  obtain ⟨⟨i_37, j_38, a_39, b_40⟩, hc, hf⟩ := ob hf
  have hFc := mo_free hD hS hA
  refine cl_M (v := none) (st1 := []) (va_runV (As := [.int 1, .int x1]) (rest := []) ⟨hx, hb, hml, hown, hts⟩ (c_Mo_dayText l dC dI h0 r cA H.size nf 1 x1 i_33 j_34 a_35 b_36 hc) (cwV 2 hts (gdV m_6_112 m_6_114 msel_54 m_1_10 m_6_115) rfl rfl rfl (by decide +kernel) ⟨Nat.le_trans (Nat.le_of_ble_eq_true rfl) hRf, Nat.le_trans (Nat.le_of_ble_eq_true rfl) hRl⟩) ((MU.pre hP hK hD (hST.mu hS hFc)).vir (va_recv hK hP (ci := 10) (q0 := 0) rfl rfl)) rfl rfl hl.1 rfl (lv_room (Nat.le_of_ble_eq_true rfl)) d_Mo_ruleText_169 ⟨Nat.zero_le _, Nat.zero_le _⟩) rfl hS (fun q _ h => hFc q h) hFc (fun t H1 locs ht hvm hB hz1 hk1 hS => ?_)
  obtain ⟨hP, hD⟩ := mo_back ht hD hB
  generalize H1 = H at hP hS ⊢
  refine lv_aload_n hx hb d_Mo_ruleText_172 rfl (lv_at hl 0 rfl) ?_
  refine mg_34 (v := i_37 34) hx hb hts hown hK hP rfl d_Mo_ruleText_173 ?_
  refine lv_if_ne (tgt := 198) hx hb d_Mo_ruleText_176 (by decide) (fun c_41 => ?_) (fun c_41 => ?_)
  · have hf := it_f c_41 hf
    exact k_Mo_ruleText_198 C0 hST hA hK hE hf hP hD hS (lv_sub hl [0] rfl)
  · have hf := it_t c_41 hf
    refine lv_aload_n hx hb d_Mo_ruleText_179 rfl (lv_at hl 0 rfl) ?_
    refine mg_32 (v := i_37 32) hx hb hts hown hK hP rfl d_Mo_ruleText_180 ?_
    refine lv_aload_n hx hb d_Mo_ruleText_183 rfl (lv_at hl 0 rfl) ?_
    refine mg_33 (v := i_37 33) hx hb hts hown hK hP rfl d_Mo_ruleText_184 ?_
    refine lv_icmp_ge (tgt := 198) hx hb d_Mo_ruleText_187 (by decide) (fun c_42 => ?_) (fun c_42 => ?_)
    · have hf := it_t c_42 hf
      exact k_Mo_ruleText_198 C0 hST hA hK hE hf hP hD hS (lv_sub hl [0] rfl)
    · have hf := it_f c_42 hf
      refine lv_aload_n hx hb d_Mo_ruleText_190 rfl (lv_at hl 0 rfl) ?_
      refine lv_aload_n hx hb d_Mo_ruleText_191 rfl (lv_at hl 0 rfl) ?_
      refine mg_32 (v := i_37 32) hx hb hts hown hK hP rfl d_Mo_ruleText_192 ?_
      obtain ⟨⟨i_43, j_44, a_45, b_46⟩, hc, hf⟩ := ob hf
      have hFc := mo_free hD hS hA
      refine cl_M (v := none) (st1 := []) (va_runV (As := [.int (i_37 32)]) (rest := []) ⟨hx, hb, hml, hown, hts⟩ (c_Mo_cannot l dC dI h0 r cA H.size nf (i_37 32) i_37 j_38 a_39 b_40 hc) (cwV 1 hts (gdV m_6_96 m_6_98 msel_50 m_1_10 m_6_99) rfl rfl rfl (by decide +kernel) ⟨Nat.le_trans (Nat.le_of_ble_eq_true rfl) hRf, Nat.le_trans (Nat.le_of_ble_eq_true rfl) hRl⟩) ((MU.pre hP hK hD (hST.mu hS hFc)).vir (va_recv hK hP (ci := 10) (q0 := 0) rfl rfl)) rfl rfl hl.1 rfl (lv_room (Nat.le_of_ble_eq_true rfl)) d_Mo_ruleText_195 ⟨Nat.zero_le _, Nat.zero_le _⟩) rfl hS (fun q _ h => hFc q h) hFc (fun t H1 locs ht hvm hB hz1 hk1 hS => ?_)
      obtain ⟨hP, hD⟩ := mo_back ht hD hB
      generalize H1 = H at hP hS ⊢
      exact k_Mo_ruleText_198 C0 hST hA hK hE hf hP hD hS (lv_sub hl [0] rfl)
set_option maxHeartbeats 400000 in
set_option maxRecDepth 100000 in
theorem k_Mo_ruleText_112 (C0 : Cx p s m meth c args R b_Mo_ruleText "ZoneFilesModel" 5 (some .boolean) 4 93) (hST : ST A s s.heap) (hA : ∀ q, s.heap.size ≤ q → A q) (hK : va_K (dC, dI) classes (moT cA) s) (hE : ∀ (pc : Nat) (ls : Array Slot) (H : Heap) (locs : List Loc), decode b_Mo_ruleText pc = .ok (.ireturn, 1) → narrow .boolean (.int r0) = .int r0 → va_P (dC, dI) classes (moW h0 r cA vi vj va vb) H → va_D A (moW h0 r cA vi vj va vb) → va_S A s.heap H locs → W p l e R s m args below meth c H locs 0 0 Q (F0 m pc ls [.int r0])) {x1 : Int32} {s0 : Int32} {si : Nat → Int32} {sj : Nat → Int64} {sa : Nat → Nat → Int32} {sb : Nat → Nat → Int64} (hf : f_Mo_ruleText_112 nf x1 s0 si sj sa sb = some (r0, vi, vj, va, vb)) {H : Heap} {locs : List Loc} {ls : Array Slot} (hP : va_P (dC, dI) classes (moW h0 r cA si sj sa sb) H) (hD : va_D A (moW h0 r cA si sj sa sb)) (hS : va_S A s.heap H locs) (hl : lv_has ls 5 [(0, .ref h0), (1, .int x1)]) : W p l e R s m args below meth c H locs 0 0 Q (F0 m 112 ls [.int s0]) := by
  obtain ⟨hx, hb, hr, hml, hown, hts, hlocks, hRf, hRl⟩ := id C0
  unfold f_Mo_ruleText_112 at hf
  refine lv_istore (lv' := [(4, .int s0), (0, .ref h0), (1, .int x1)]) hx hb d_Mo_ruleText_112 hl (by decide) rfl (fun ls hl => ?_)
  refine lv_aload_n hx hb d_Mo_ruleText_114 rfl (lv_at hl 1 rfl) ?_
  refine mg_24 hx hb hts hown hK hP d_Mo_ruleText_115 ?_
  refine lv_bipush (v := 9) hx hb d_Mo_ruleText_118 (by decide) ?_
  refine lv_iload hx hb d_Mo_ruleText_120 (lv_at hl 0 rfl) ?_
  refine lv_if_eq (tgt := 136) hx hb d_Mo_ruleText_122 (by decide) (fun c_22 => ?_) (fun c_22 => ?_)
  · have hf := it_t c_22 hf
    refine lv_aload_n hx hb d_Mo_ruleText_136 rfl (lv_at hl 1 rfl) ?_
    refine mg_24 hx hb hts hown hK hP d_Mo_ruleText_137 ?_
    refine lv_bipush (v := 8) hx hb d_Mo_ruleText_140 (by decide) ?_
    obtain ⟨c_23, hf⟩ := it_n hf
    refine ma_24 (v := sa 24 (8 : Int32).toNatClampNeg) hx hb hK hP c_23 rfl d_Mo_ruleText_142 ?_
    refine lv_sipush (v := 3600) hx hb d_Mo_ruleText_143 (by decide) ?_
    refine lv_iadd hx hb d_Mo_ruleText_146 ?_
    exact k_Mo_ruleText_147 C0 hST hA hK hE hf hP hD hS (lv_sub hl [1, 2] rfl)
  · have hf := it_f c_22 hf
    refine lv_aload_n hx hb d_Mo_ruleText_125 rfl (lv_at hl 1 rfl) ?_
    refine lv_iconst (v := 1) hx hb d_Mo_ruleText_126 (by decide) ?_
    refine lv_bipush (v := 24) hx hb d_Mo_ruleText_127 (by decide) ?_
    obtain ⟨⟨z_51, i_47, j_48, a_49, b_50⟩, hc, hf⟩ := ob hf
    have hFc := mo_free hD hS hA
    refine cl_M (v := (some (.int z_51))) (st1 := [.int z_51, .int 9, .ref (r 24)]) (va_runV (As := [.int 1, .int 24]) (rest := [.int 9, .ref (r 24)]) ⟨hx, hb, hml, hown, hts⟩ (c_Mo_offsetText l dC dI h0 r cA H.size nf 1 24 si sj sa sb hc) (cwV 2 hts (gdV m_6_104 m_6_106 msel_52 m_1_10 m_6_107) rfl rfl rfl (by decide +kernel) ⟨Nat.le_trans (Nat.le_of_ble_eq_true rfl) hRf, Nat.le_trans (Nat.le_of_ble_eq_true rfl) hRl⟩) ((MU.pre hP hK hD (hST.mu hS hFc)).vir (va_recv hK hP (ci := 10) (q0 := 0) rfl rfl)) rfl rfl hl.1 rfl (lv_room (Nat.le_of_ble_eq_true rfl)) d_Mo_ruleText_129 ⟨Nat.zero_le _, Nat.zero_le _⟩) rfl hS (fun q _ h => hFc q h) hFc (fun t H1 locs ht hvm hB hz1 hk1 hS => ?_)
    obtain ⟨hP, hD⟩ := mo_back ht hD hB
    generalize H1 = H at hP hS ⊢
    refine lv_ineg hx hb d_Mo_ruleText_132 ?_
    refine lv_goto (tgt := 147) hx hb d_Mo_ruleText_133 (by decide) ?_
    exact k_Mo_ruleText_147 C0 hST hA hK hE hf hP hD hS (lv_sub hl [1, 2] rfl)
set_option maxHeartbeats 400000 in
set_option maxRecDepth 100000 in
theorem k_Mo_ruleText_111 (C0 : Cx p s m meth c args R b_Mo_ruleText "ZoneFilesModel" 5 (some .boolean) 4 93) (hST : ST A s s.heap) (hA : ∀ q, s.heap.size ≤ q → A q) (hK : va_K (dC, dI) classes (moT cA) s) (hE : ∀ (pc : Nat) (ls : Array Slot) (H : Heap) (locs : List Loc), decode b_Mo_ruleText pc = .ok (.ireturn, 1) → narrow .boolean (.int r0) = .int r0 → va_P (dC, dI) classes (moW h0 r cA vi vj va vb) H → va_D A (moW h0 r cA vi vj va vb) → va_S A s.heap H locs → W p l e R s m args below meth c H locs 0 0 Q (F0 m pc ls [.int r0])) {x1 : Int32} {si : Nat → Int32} {sj : Nat → Int64} {sa : Nat → Nat → Int32} {sb : Nat → Nat → Int64} (hf : f_Mo_ruleText_111 nf x1 si sj sa sb = some (r0, vi, vj, va, vb)) {H : Heap} {locs : List Loc} {ls : Array Slot} (hP : va_P (dC, dI) classes (moW h0 r cA si sj sa sb) H) (hD : va_D A (moW h0 r cA si sj sa sb)) (hS : va_S A s.heap H locs) (hl : lv_has ls 5 [(0, .ref h0), (1, .int x1)]) : W p l e R s m args below meth c H locs 0 0 Q (F0 m 111 ls []) := by
  obtain ⟨hx, hb, hr, hml, hown, hts, hlocks, hRf, hRl⟩ := id C0
  unfold f_Mo_ruleText_111 at hf
  refine lv_iconst (v := 0) hx hb d_Mo_ruleText_111 (by decide) ?_
  exact k_Mo_ruleText_112 C0 hST hA hK hE hf hP hD hS (lv_sub hl [0, 1] rfl)
set_option maxHeartbeats 400000 in
set_option maxRecDepth 100000 in
theorem k_Mo_ruleText_107 (C0 : Cx p s m meth c args R b_Mo_ruleText "ZoneFilesModel" 5 (some .boolean) 4 93) (hST : ST A s s.heap) (hA : ∀ q, s.heap.size ≤ q → A q) (hK : va_K (dC, dI) classes (moT cA) s) (hE : ∀ (pc : Nat) (ls : Array Slot) (H : Heap) (locs : List Loc), decode b_Mo_ruleText pc = .ok (.ireturn, 1) → narrow .boolean (.int r0) = .int r0 → va_P (dC, dI) classes (moW h0 r cA vi vj va vb) H → va_D A (moW h0 r cA vi vj va vb) → va_S A s.heap H locs → W p l e R s m args below meth c H locs 0 0 Q (F0 m pc ls [.int r0])) {x1 : Int32} {si : Nat → Int32} {sj : Nat → Int64} {sa : Nat → Nat → Int32} {sb : Nat → Nat → Int64} (hf : f_Mo_ruleText_107 nf x1 si sj sa sb = some (r0, vi, vj, va, vb)) {H : Heap} {locs : List Loc} {ls : Array Slot} (hP : va_P (dC, dI) classes (moW h0 r cA si sj sa sb) H) (hD : va_D A (moW h0 r cA si sj sa sb)) (hS : va_S A s.heap H locs) (hl : lv_has ls 5 [(0, .ref h0), (1, .int x1)]) : W p l e R s m args below meth c H locs 0 0 Q (F0 m 107 ls []) := by
  obtain ⟨hx, hb, hr, hml, hown, hts, hlocks, hRf, hRl⟩ := id C0
  unfold f_Mo_ruleText_107 at hf
  refine lv_iconst (v := 1) hx hb d_Mo_ruleText_107 (by decide) ?_
  refine lv_goto (tgt := 112) hx hb d_Mo_ruleText_108 (by decide) ?_
  exact k_Mo_ruleText_112 C0 hST hA hK hE hf hP hD hS (lv_sub hl [0, 1] rfl)
set_option maxHeartbeats 400000 in
set_option maxRecDepth 100000 in
theorem k_Mo_ruleText_0 (C0 : Cx p s m meth c args R b_Mo_ruleText "ZoneFilesModel" 5 (some .boolean) 4 93) (hST : ST A s s.heap) (hA : ∀ q, s.heap.size ≤ q → A q) (hK : va_K (dC, dI) classes (moT cA) s) (hE : ∀ (pc : Nat) (ls : Array Slot) (H : Heap) (locs : List Loc), decode b_Mo_ruleText pc = .ok (.ireturn, 1) → narrow .boolean (.int r0) = .int r0 → va_P (dC, dI) classes (moW h0 r cA vi vj va vb) H → va_D A (moW h0 r cA vi vj va vb) → va_S A s.heap H locs → W p l e R s m args below meth c H locs 0 0 Q (F0 m pc ls [.int r0])) {x1 : Int32} {x2 : Int32} {x3 : Int32} {si : Nat → Int32} {sj : Nat → Int64} {sa : Nat → Nat → Int32} {sb : Nat → Nat → Int64} (hf : f_Mo_ruleText_0 nf x1 x2 x3 si sj sa sb = some (r0, vi, vj, va, vb)) {H : Heap} {locs : List Loc} {ls : Array Slot} (hP : va_P (dC, dI) classes (moW h0 r cA si sj sa sb) H) (hD : va_D A (moW h0 r cA si sj sa sb)) (hS : va_S A s.heap H locs) (hl : lv_has ls 5 [(0, .ref h0), (1, .int x1), (2, .int x2), (3, .int x3)]) : W p l e R s m args below meth c H locs 0 0 Q (F0 m 0 ls []) := by
  obtain ⟨hx, hb, hr, hml, hown, hts, hlocks, hRf, hRl⟩ := id C0
  unfold f_Mo_ruleText_0 at hf
  refine lv_aload_n hx hb d_Mo_ruleText_0 rfl (lv_at hl 0 rfl) ?_
  refine lv_iload_n hx hb d_Mo_ruleText_1 rfl (lv_at hl 2 rfl) ?_
  refine mp_32 hx hb hts hown hK hP hD hS d_Mo_ruleText_2 (fun H locs hP hD hS => ?_)
  refine lv_aload_n hx hb d_Mo_ruleText_5 rfl (lv_at hl 0 rfl) ?_
  refine lv_iload_n hx hb d_Mo_ruleText_6 rfl (lv_at hl 3 rfl) ?_
  refine mp_33 hx hb hts hown hK hP hD hS d_Mo_ruleText_7 (fun H locs hP hD hS => ?_)
  refine lv_aload_n hx hb d_Mo_ruleText_10 rfl (lv_at hl 0 rfl) ?_
  refine lv_iconst (v := 0) hx hb d_Mo_ruleText_11 (by decide) ?_
  refine mp_34 hx hb hts hown hK hP hD hS (by decide) d_Mo_ruleText_12 (fun H locs hP hD hS => ?_)
  refine lv_aload_n hx hb d_Mo_ruleText_15 rfl (lv_at hl 0 rfl) ?_
  refine lv_iconst (v := 0) hx hb d_Mo_ruleText_16 (by decide) ?_
  obtain ⟨⟨i_1, j_2, a_3, b_4⟩, hc, hf⟩ := ob hf
  have hFc := mo_free hD hS hA
  refine cl_M (v := none) (st1 := []) (va_runV (As := [.int 0]) (rest := []) ⟨hx, hb, hml, hown, hts⟩ (c_Mo_nameText l dC dI h0 r cA H.size nf 0 (va_up (va_up (va_up si 32 x2) 33 x3) 34 0) sj sa sb hc) (cwV 1 hts (gdV m_6_79 m_6_81 msel_48 m_1_10 m_6_82) rfl rfl rfl (by decide +kernel) ⟨Nat.le_trans (Nat.le_of_ble_eq_true rfl) hRf, Nat.le_trans (Nat.le_of_ble_eq_true rfl) hRl⟩) ((MU.pre hP hK hD (hST.mu hS hFc)).vir (va_recv hK hP (ci := 10) (q0 := 0) rfl rfl)) rfl rfl hl.1 rfl (lv_room (Nat.le_of_ble_eq_true rfl)) d_Mo_ruleText_17 ⟨Nat.zero_le _, Nat.zero_le _⟩) rfl hS (fun q _ h => hFc q h) hFc (fun t H1 locs ht hvm hB hz1 hk1 hS => ?_)
  obtain ⟨hP, hD⟩ := mo_back ht hD hB
  generalize H1 = H at hP hS ⊢
  refine lv_aload_n hx hb d_Mo_ruleText_20 rfl (lv_at hl 0 rfl) ?_
  refine mg_24 hx hb hts hown hK hP d_Mo_ruleText_21 ?_
  refine lv_bipush (v := 8) hx hb d_Mo_ruleText_24 (by decide) ?_
  refine lv_aload_n hx hb d_Mo_ruleText_26 rfl (lv_at hl 0 rfl) ?_
  refine lv_iconst (v := 1) hx hb d_Mo_ruleText_27 (by decide) ?_
  refine lv_bipush (v := 24) hx hb d_Mo_ruleText_28 (by decide) ?_
  obtain ⟨⟨z_9, i_5, j_6, a_7, b_8⟩, hc, hf⟩ := ob hf
  have hFc := mo_free hD hS hA
  refine cl_M (v := (some (.int z_9))) (st1 := [.int z_9, .int 8, .ref (r 24)]) (va_runV (As := [.int 1, .int 24]) (rest := [.int 8, .ref (r 24)]) ⟨hx, hb, hml, hown, hts⟩ (c_Mo_offsetText l dC dI h0 r cA H.size nf 1 24 i_1 j_2 a_3 b_4 hc) (cwV 2 hts (gdV m_6_104 m_6_106 msel_52 m_1_10 m_6_107) rfl rfl rfl (by decide +kernel) ⟨Nat.le_trans (Nat.le_of_ble_eq_true rfl) hRf, Nat.le_trans (Nat.le_of_ble_eq_true rfl) hRl⟩) ((MU.pre hP hK hD (hST.mu hS hFc)).vir (va_recv hK hP (ci := 10) (q0 := 0) rfl rfl)) rfl rfl hl.1 rfl (lv_room (Nat.le_of_ble_eq_true rfl)) d_Mo_ruleText_30 ⟨Nat.zero_le _, Nat.zero_le _⟩) rfl hS (fun q _ h => hFc q h) hFc (fun t H1 locs ht hvm hB hz1 hk1 hS => ?_)
  obtain ⟨hP, hD⟩ := mo_back ht hD hB
  generalize H1 = H at hP hS ⊢
  refine lv_ineg hx hb d_Mo_ruleText_33 ?_
  obtain ⟨c_10, hf⟩ := it_n hf
  refine mz_24 hx hb hK hP hD hS c_10 d_Mo_ruleText_34 (fun H locs hP hD hS => ?_)
  refine lv_aload_n hx hb d_Mo_ruleText_35 rfl (lv_at hl 0 rfl) ?_
  refine mg_23 hx hb hts hown hK hP d_Mo_ruleText_36 ?_
  refine lv_iconst (v := 4) hx hb d_Mo_ruleText_39 (by decide) ?_
  refine lv_iconst (v := 1) hx hb d_Mo_ruleText_40 (by decide) ?_
  obtain ⟨c_11, hf⟩ := it_n hf
  refine mz_23 hx hb hK hP hD hS c_11 d_Mo_ruleText_41 (fun H locs hP hD hS => ?_)
  refine lv_aload_n hx hb d_Mo_ruleText_42 rfl (lv_at hl 0 rfl) ?_
  refine mg_34 (v := i_5 34) hx hb hts hown hK hP rfl d_Mo_ruleText_43 ?_
  refine lv_if_ne (tgt := 198) hx hb d_Mo_ruleText_46 (by decide) (fun c_12 => ?_) (fun c_12 => ?_)
  · have hf := it_f c_12 hf
    exact k_Mo_ruleText_198 C0 hST hA hK hE hf hP hD hS (lv_sub hl [0] rfl)
  · have hf := it_t c_12 hf
    refine lv_aload_n hx hb d_Mo_ruleText_49 rfl (lv_at hl 0 rfl) ?_
    refine mg_32 (v := i_5 32) hx hb hts hown hK hP rfl d_Mo_ruleText_50 ?_
    refine lv_aload_n hx hb d_Mo_ruleText_53 rfl (lv_at hl 0 rfl) ?_
    refine mg_33 (v := i_5 33) hx hb hts hown hK hP rfl d_Mo_ruleText_54 ?_
    refine lv_icmp_ge (tgt := 198) hx hb d_Mo_ruleText_57 (by decide) (fun c_15 => ?_) (fun c_15 => ?_)
    · have hf := it_t c_15 hf
      exact k_Mo_ruleText_198 C0 hST hA hK hE hf hP hD hS (lv_sub hl [0] rfl)
    · have hf := it_f c_15 hf
      refine lv_aload_n hx hb d_Mo_ruleText_60 rfl (lv_at hl 0 rfl) ?_
      refine mg_23 hx hb hts hown hK hP d_Mo_ruleText_61 ?_
      refine lv_iconst (v := 4) hx hb d_Mo_ruleText_64 (by decide) ?_
      refine lv_iconst (v := 2) hx hb d_Mo_ruleText_65 (by decide) ?_
      obtain ⟨c_16, hf⟩ := it_n hf
      refine mz_23 hx hb hK hP hD hS c_16 d_Mo_ruleText_66 (fun H locs hP hD hS => ?_)
      refine lv_aload_n hx hb d_Mo_ruleText_67 rfl (lv_at hl 0 rfl) ?_
      refine lv_iconst (v := 1) hx hb d_Mo_ruleText_68 (by decide) ?_
      obtain ⟨⟨i_17, j_18, a_19, b_20⟩, hc, hf⟩ := ob hf
      have hFc := mo_free hD hS hA
      refine cl_M (v := none) (st1 := []) (va_runV (As := [.int 1]) (rest := []) ⟨hx, hb, hml, hown, hts⟩ (c_Mo_nameText l dC dI h0 r cA H.size nf 1 i_5 j_6 (va_up (va_up (va_up a_7 24 (upd (a_7 24) (8 : Int32).toNatClampNeg (-z_9))) 23 (upd (a_7 23) (4 : Int32).toNatClampNeg 1)) 23 (upd (upd (a_7 23) (4 : Int32).toNatClampNeg 1) (4 : Int32).toNatClampNeg 2)) b_8 hc) (cwV 1 hts (gdV m_6_79 m_6_81 msel_48 m_1_10 m_6_82) rfl rfl rfl (by decide +kernel) ⟨Nat.le_trans (Nat.le_of_ble_eq_true rfl) hRf, Nat.le_trans (Nat.le_of_ble_eq_true rfl) hRl⟩) ((MU.pre hP hK hD (hST.mu hS hFc)).vir (va_recv hK hP (ci := 10) (q0 := 0) rfl rfl)) rfl rfl hl.1 rfl (lv_room (Nat.le_of_ble_eq_true rfl)) d_Mo_ruleText_69 ⟨Nat.zero_le _, Nat.zero_le _⟩) rfl hS (fun q _ h => hFc q h) hFc (fun t H1 locs ht hvm hB hz1 hk1 hS => ?_)
      obtain ⟨hP, hD⟩ := mo_back ht hD hB
      generalize H1 = H at hP hS ⊢
      refine lv_aload_n hx hb d_Mo_ruleText_72 rfl (lv_at hl 0 rfl) ?_
      refine mg_34 (v := i_17 34) hx hb hts hown hK hP rfl d_Mo_ruleText_73 ?_
      refine lv_if_ne (tgt := 111) hx hb d_Mo_ruleText_76 (by decide) (fun c_21 => ?_) (fun c_21 => ?_)
      · have hf := it_f c_21 hf
        exact k_Mo_ruleText_111 C0 hST hA hK hE hf hP hD hS (lv_sub hl [0, 1] rfl)
      · have hf := it_t c_21 hf
        refine lv_aload_n hx hb d_Mo_ruleText_79 rfl (lv_at hl 0 rfl) ?_
        obtain ⟨r_52, hc, hf⟩ := ob hf
        refine cl_S (v := (some (.int r_52))) (st1 := [.int r_52]) (va_runV (As := []) (rest := []) ⟨hx, hb, hml, hown, hts⟩ (c_Mo_look l dC dI h0 r cA nf i_17 j_18 a_19 b_20 hc) (cwV 0 hts (gdV m_6_83 m_6_85 msel_49 m_1_10 m_6_86) rfl rfl rfl (by decide +kernel) ⟨Nat.le_trans (Nat.le_of_ble_eq_true rfl) hRf, Nat.le_trans (Nat.le_of_ble_eq_true rfl) hRl⟩) ((RO.pre hP hK (hST.ro hS)).vir (va_recv hK hP (ci := 10) (q0 := 0) rfl rfl)) rfl rfl hl.1 rfl (lv_room (Nat.le_of_ble_eq_true rfl)) d_Mo_ruleText_80 ⟨Nat.zero_le _, Nat.zero_le _⟩) rfl ?_
        refine lv_bipush (v := 43) hx hb d_Mo_ruleText_83 (by decide) ?_
        refine lv_icmp_eq (tgt := 107) hx hb d_Mo_ruleText_85 (by decide) (fun c_53 => ?_) (fun c_53 => ?_)
        · have hf := it_t c_53 hf
          exact k_Mo_ruleText_107 C0 hST hA hK hE hf hP hD hS (lv_sub hl [0, 1] rfl)
        · have hf := it_f c_53 hf
          refine lv_aload_n hx hb d_Mo_ruleText_88 rfl (lv_at hl 0 rfl) ?_
          obtain ⟨r_54, hc, hf⟩ := ob hf
          refine cl_S (v := (some (.int r_54))) (st1 := [.int r_54]) (va_runV (As := []) (rest := []) ⟨hx, hb, hml, hown, hts⟩ (c_Mo_look l dC dI h0 r cA nf i_17 j_18 a_19 b_20 hc) (cwV 0 hts (gdV m_6_83 m_6_85 msel_49 m_1_10 m_6_86) rfl rfl rfl (by decide +kernel) ⟨Nat.le_trans (Nat.le_of_ble_eq_true rfl) hRf, Nat.le_trans (Nat.le_of_ble_eq_true rfl) hRl⟩) ((RO.pre hP hK (hST.ro hS)).vir (va_recv hK hP (ci := 10) (q0 := 0) rfl rfl)) rfl rfl hl.1 rfl (lv_room (Nat.le_of_ble_eq_true rfl)) d_Mo_ruleText_89 ⟨Nat.zero_le _, Nat.zero_le _⟩) rfl ?_
          refine lv_bipush (v := 45) hx hb d_Mo_ruleText_92 (by decide) ?_
          refine lv_icmp_eq (tgt := 107) hx hb d_Mo_ruleText_94 (by decide) (fun c_55 => ?_) (fun c_55 => ?_)
          · have hf := it_t c_55 hf
            exact k_Mo_ruleText_107 C0 hST hA hK hE hf hP hD hS (lv_sub hl [0, 1] rfl)
          · have hf := it_f c_55 hf
            refine lv_aload_n hx hb d_Mo_ruleText_97 rfl (lv_at hl 0 rfl) ?_
            obtain ⟨r_56, hc, hf⟩ := ob hf
            refine cl_S (v := (some (.int r_56))) (st1 := [.int r_56]) (va_runV (As := []) (rest := []) ⟨hx, hb, hml, hown, hts⟩ (c_Mo_look l dC dI h0 r cA nf i_17 j_18 a_19 b_20 hc) (cwV 0 hts (gdV m_6_83 m_6_85 msel_49 m_1_10 m_6_86) rfl rfl rfl (by decide +kernel) ⟨Nat.le_trans (Nat.le_of_ble_eq_true rfl) hRf, Nat.le_trans (Nat.le_of_ble_eq_true rfl) hRl⟩) ((RO.pre hP hK (hST.ro hS)).vir (va_recv hK hP (ci := 10) (q0 := 0) rfl rfl)) rfl rfl hl.1 rfl (lv_room (Nat.le_of_ble_eq_true rfl)) d_Mo_ruleText_98 ⟨Nat.zero_le _, Nat.zero_le _⟩) rfl ?_
            obtain ⟨r_57, hc, hf⟩ := ob hf
            refine cl_S (v := (some (.int r_57))) (st1 := [.int r_57]) (va_runS (As := [.int r_56]) (rest := []) ⟨hx, hb, hml, hown, hts⟩ (c_Mo_isDigit l dC dI nf r_56 hc) (va_cwS 1 hts (gdS m_6_90 m_6_91 m_1_10 m_6_92) rfl rfl rfl (by decide +kernel) ⟨Nat.le_trans (Nat.le_of_ble_eq_true rfl) hRf, Nat.le_trans (Nat.le_of_ble_eq_true rfl) hRl⟩) (RO.pre0 hK (hST.ro hS)).sta rfl rfl hl.1 rfl (lv_room (Nat.le_of_ble_eq_true rfl)) d_Mo_ruleText_101 ⟨Nat.zero_le _, Nat.zero_le _⟩) rfl ?_
            refine lv_if_eq (tgt := 111) hx hb d_Mo_ruleText_104 (by decide) (fun c_58 => ?_) (fun c_58 => ?_)
            · have hf := it_t c_58 hf
              exact k_Mo_ruleText_111 C0 hST hA hK hE hf hP hD hS (lv_sub hl [0, 1] rfl)
            · have hf := it_f c_58 hf
              exact k_Mo_ruleText_107 C0 hST hA hK hE hf hP hD hS (lv_sub hl [0, 1] rfl)
end
set_option maxHeartbeats 400000 in
set_option maxRecDepth 100000 in
theorem c_Mo_ruleText (l : Launch) (dC : Nat → ClassId) (dI : Nat → Nat → Nat) (h0 : Nat) (r : Nat → Nat) (cA : Nat → ClassId) (sz : Nat) (nf : Nat) (p0 : Int32) (p1 : Int32) (p2 : Int32) (si : Nat → Int32) (sj : Nat → Int64) (sa : Nat → Nat → Int32) (sb : Nat → Nat → Int64) {r0 : Int32} {vi : Nat → Int32} {vj : Nat → Int64} {va : Nat → Nat → Int32} {vb : Nat → Nat → Int64} (hf : f_Mo_ruleText nf p0 p1 p2 si sj sa sb = some (r0, vi, vj, va, vb)) : Met l y_Mo_ruleText (wd y_Mo_ruleText b_Mo_ruleText 5 (some .boolean)) ({ frames := 4, cells := 0, slots := 0, locals := 93 }) (MU dC dI (moW h0 r cA si sj sa sb) (moT cA) sz [.ref h0, .int p0, .int p1, .int p2]) (MV (some (.int r0)) (fun t => va_P (dC, dI) classes (moW h0 r cA vi vj va vb) t.heap) (va_A (moW h0 r cA si sj sa sb) sz)) 0 0 (va_A (moW h0 r cA si sj sa sb) sz) :=
  met_M (plainFor_of_name (by decide)) (Nat.le_of_ble_eq_true rfl) (fun p e R s m args below meth c ls hRc hRs hsz hin C0 hST hK hP hD hl => by
    obtain ⟨hx, hb, hr, hml, hown, hts, hlocks, hRf, hRl⟩ := id C0
    subst hsz
    have hA : ∀ q : Nat, s.heap.size ≤ q → va_A (moW h0 r cA si sj sa sb) s.heap.size q := fun q h => Or.inr h
    have hS : va_S (va_A (moW h0 r cA si sj sa sb) s.heap.size) s.heap s.heap [] := va_S.rf
    unfold f_Mo_ruleText at hf
    exact k_Mo_ruleText_0 C0 hST hA hK (fun pc ls H locs hd hn hP hD hS => W.zret hx hb hr hn (fun t ht hW => ⟨⟨rfl, mo_end ht hP⟩, hS.F ht⟩) hS.2.2 hd) hf hP hD hS (lv_sub hl [0, 1, 2, 3] rfl))
