theorem m_1_23 : Cond.classLink "ZoneFilesLaw" 8 "ZoneFiles" ∈ T0 := tb_1 23 rfl rfl
theorem m_1_24 : Cond.instantiable "ZoneFiles" 9 ∈ T0 := tb_1 24 rfl rfl
theorem m_1_25 : Cond.methodLink "ZoneFilesLaw" 93 ⟨"ZoneFiles", "<init>", "()V"⟩ ∈ T0 := tb_1 25 rfl rfl
theorem m_1_26 : Cond.instanceMethod ⟨"ZoneFiles", "<init>", "()V"⟩ ∈ T0 := tb_1 26 rfl rfl
theorem m_1_27 : Cond.code ⟨"ZoneFiles", "<init>", "()V"⟩ prog_1_method_1_code 2 none ∈ T0 := tb_1 27 rfl rfl
theorem m_1_28 : Cond.methodLink "ZoneFiles" 1 ⟨"java/lang/Object", "<init>", "()V"⟩ ∈ T0 := tb_1 28 rfl rfl
theorem m_1_31 : Cond.classLink "ZoneFiles" 7 "ZoneFiles$Bytes" ∈ T0 := tb_1 31 rfl rfl
theorem m_1_33 : Cond.methodLink "ZoneFiles" 9 ⟨"ZoneFiles$Bytes", "<init>", "(I)V"⟩ ∈ T0 := tb_1 33 rfl rfl
theorem m_1_51 : Cond.classLink "ZoneFiles" 21 "ZoneFiles$Zone" ∈ T0 := tb_1 51 rfl rfl
theorem m_1_53 : Cond.instantiable "ZoneFiles$Zone" 17 ∈ T0 := tb_1 53 rfl rfl
theorem m_1_54 : Cond.methodLink "ZoneFiles" 27 ⟨"ZoneFiles$Zone", "<init>", "()V"⟩ ∈ T0 := tb_1 54 rfl rfl
theorem m_1_55 : Cond.instanceMethod ⟨"ZoneFiles$Zone", "<init>", "()V"⟩ ∈ T0 := tb_1 55 rfl rfl
theorem m_1_56 : Cond.code ⟨"ZoneFiles$Zone", "<init>", "()V"⟩ prog_12_method_1_code 1 none ∈ T0 := tb_1 56 rfl rfl
theorem m_2_25 : Cond.methodLink "ZoneFiles" 28 ⟨"ZoneFiles$Zone", "becomeUtc", "()V"⟩ ∈ T0 := tb_2 25 rfl rfl
theorem m_2_26 : Cond.instanceMethod ⟨"ZoneFiles$Zone", "becomeUtc", "()V"⟩ ∈ T0 := tb_2 26 rfl rfl
theorem m_2_27 : Cond.selects "ZoneFiles$Zone" ⟨"ZoneFiles$Zone", "becomeUtc", "()V"⟩ ⟨"ZoneFiles$Zone", "becomeUtc", "()V"⟩ ∈ T0 := tb_2 27 rfl rfl
theorem m_2_28 : Cond.code ⟨"ZoneFiles$Zone", "becomeUtc", "()V"⟩ prog_12_method_2_code 1 none ∈ T0 := tb_2 28 rfl rfl
theorem m_2_90 : Cond.classLink "ZoneFiles" 35 "ZoneFiles$LeapTable" ∈ T0 := tb_2 90 rfl rfl
theorem m_2_91 : Cond.instantiable "ZoneFiles$LeapTable" 4 ∈ T0 := tb_2 91 rfl rfl
theorem m_2_92 : Cond.methodLink "ZoneFiles" 37 ⟨"ZoneFiles$LeapTable", "<init>", "()V"⟩ ∈ T0 := tb_2 92 rfl rfl
theorem m_2_93 : Cond.instanceMethod ⟨"ZoneFiles$LeapTable", "<init>", "()V"⟩ ∈ T0 := tb_2 93 rfl rfl
theorem m_2_94 : Cond.code ⟨"ZoneFiles$LeapTable", "<init>", "()V"⟩ prog_8_method_1_code 1 none ∈ T0 := tb_2 94 rfl rfl
theorem m_6_69 : Cond.classLink "ZoneFilesLaw" 94 "ZoneFilesModel" ∈ T0 := tb_6 69 rfl rfl
theorem m_6_70 : Cond.instantiable "ZoneFilesModel" 72 ∈ T0 := tb_6 70 rfl rfl
theorem m_6_71 : Cond.methodLink "ZoneFilesLaw" 96 ⟨"ZoneFilesModel", "<init>", "()V"⟩ ∈ T0 := tb_6 71 rfl rfl
theorem m_6_72 : Cond.instanceMethod ⟨"ZoneFilesModel", "<init>", "()V"⟩ ∈ T0 := tb_6 72 rfl rfl
theorem m_6_73 : Cond.code ⟨"ZoneFilesModel", "<init>", "()V"⟩ prog_14_method_1_code 3 none ∈ T0 := tb_6 73 rfl rfl
abbrev b_ZF_init : ByteArray := prog_1_method_1_code
def y_ZF_init : MethodName := ⟨"ZoneFiles", "<init>", "()V"⟩
theorem d_ZF_init_0 : decode b_ZF_init 0 = .ok (.aload_n 0, 1) := by decide +kernel
theorem d_ZF_init_1 : decode b_ZF_init 1 = .ok (.invokespecial 1, 3) := by decide +kernel
theorem d_ZF_init_4 : decode b_ZF_init 4 = .ok (.aload_n 0, 1) := by decide +kernel
theorem d_ZF_init_5 : decode b_ZF_init 5 = .ok (.new 7, 3) := by decide +kernel
theorem d_ZF_init_8 : decode b_ZF_init 8 = .ok (.dup, 1) := by decide +kernel
theorem d_ZF_init_9 : decode b_ZF_init 9 = .ok (.bipush 64, 2) := by decide +kernel
theorem d_ZF_init_11 : decode b_ZF_init 11 = .ok (.invokespecial 9, 3) := by decide +kernel
theorem d_ZF_init_14 : decode b_ZF_init 14 = .ok (.putfield 12, 3) := by decide +kernel
theorem d_ZF_init_17 : decode b_ZF_init 17 = .ok (.aload_n 0, 1) := by decide +kernel
theorem d_ZF_init_18 : decode b_ZF_init 18 = .ok (.new 7, 3) := by decide +kernel
theorem d_ZF_init_21 : decode b_ZF_init 21 = .ok (.dup, 1) := by decide +kernel
theorem d_ZF_init_22 : decode b_ZF_init 22 = .ok (.bipush 64, 2) := by decide +kernel
theorem d_ZF_init_24 : decode b_ZF_init 24 = .ok (.invokespecial 9, 3) := by decide +kernel
theorem d_ZF_init_27 : decode b_ZF_init 27 = .ok (.putfield 18, 3) := by decide +kernel
theorem d_ZF_init_30 : decode b_ZF_init 30 = .ok (.aload_n 0, 1) := by decide +kernel
theorem d_ZF_init_31 : decode b_ZF_init 31 = .ok (.iconst 4, 1) := by decide +kernel
theorem d_ZF_init_32 : decode b_ZF_init 32 = .ok (.anewarray 21, 3) := by decide +kernel
theorem d_ZF_init_35 : decode b_ZF_init 35 = .ok (.putfield 23, 3) := by decide +kernel
theorem d_ZF_init_38 : decode b_ZF_init 38 = .ok (.iconst 0, 1) := by decide +kernel
theorem d_ZF_init_39 : decode b_ZF_init 39 = .ok (.istore_n 1, 1) := by decide +kernel
theorem d_ZF_init_40 : decode b_ZF_init 40 = .ok (.iload_n 1, 1) := by decide +kernel
theorem d_ZF_init_41 : decode b_ZF_init 41 = .ok (.iconst 4, 1) := by decide +kernel
theorem d_ZF_init_42 : decode b_ZF_init 42 = .ok (.if_icmp .ge 31, 3) := by decide +kernel
theorem d_ZF_init_45 : decode b_ZF_init 45 = .ok (.aload_n 0, 1) := by decide +kernel
theorem d_ZF_init_46 : decode b_ZF_init 46 = .ok (.getfield 23, 3) := by decide +kernel
theorem d_ZF_init_49 : decode b_ZF_init 49 = .ok (.iload_n 1, 1) := by decide +kernel
theorem d_ZF_init_50 : decode b_ZF_init 50 = .ok (.new 21, 3) := by decide +kernel
theorem d_ZF_init_53 : decode b_ZF_init 53 = .ok (.dup, 1) := by decide +kernel
theorem d_ZF_init_54 : decode b_ZF_init 54 = .ok (.invokespecial 27, 3) := by decide +kernel
theorem d_ZF_init_57 : decode b_ZF_init 57 = .ok (.aastore, 1) := by decide +kernel
theorem d_ZF_init_58 : decode b_ZF_init 58 = .ok (.aload_n 0, 1) := by decide +kernel
theorem d_ZF_init_59 : decode b_ZF_init 59 = .ok (.getfield 23, 3) := by decide +kernel
theorem d_ZF_init_62 : decode b_ZF_init 62 = .ok (.iload_n 1, 1) := by decide +kernel
theorem d_ZF_init_63 : decode b_ZF_init 63 = .ok (.aaload, 1) := by decide +kernel
theorem d_ZF_init_64 : decode b_ZF_init 64 = .ok (.invokevirtual 28, 3) := by decide +kernel
theorem d_ZF_init_67 : decode b_ZF_init 67 = .ok (.iinc 1 1, 3) := by decide +kernel
theorem d_ZF_init_70 : decode b_ZF_init 70 = .ok (.goto (-30), 3) := by decide +kernel
theorem d_ZF_init_73 : decode b_ZF_init 73 = .ok (.aload_n 0, 1) := by decide +kernel
theorem d_ZF_init_74 : decode b_ZF_init 74 = .ok (.new 21, 3) := by decide +kernel
theorem d_ZF_init_77 : decode b_ZF_init 77 = .ok (.dup, 1) := by decide +kernel
theorem d_ZF_init_78 : decode b_ZF_init 78 = .ok (.invokespecial 27, 3) := by decide +kernel
theorem d_ZF_init_81 : decode b_ZF_init 81 = .ok (.putfield 31, 3) := by decide +kernel
theorem d_ZF_init_84 : decode b_ZF_init 84 = .ok (.aload_n 0, 1) := by decide +kernel
theorem d_ZF_init_85 : decode b_ZF_init 85 = .ok (.new 35, 3) := by decide +kernel
theorem d_ZF_init_88 : decode b_ZF_init 88 = .ok (.dup, 1) := by decide +kernel
theorem d_ZF_init_89 : decode b_ZF_init 89 = .ok (.invokespecial 37, 3) := by decide +kernel
theorem d_ZF_init_92 : decode b_ZF_init 92 = .ok (.putfield 38, 3) := by decide +kernel
theorem d_ZF_init_95 : decode b_ZF_init 95 = .ok (.aload_n 0, 1) := by decide +kernel
theorem d_ZF_init_96 : decode b_ZF_init 96 = .ok (.new 35, 3) := by decide +kernel
theorem d_ZF_init_99 : decode b_ZF_init 99 = .ok (.dup, 1) := by decide +kernel
theorem d_ZF_init_100 : decode b_ZF_init 100 = .ok (.invokespecial 37, 3) := by decide +kernel
theorem d_ZF_init_103 : decode b_ZF_init 103 = .ok (.putfield 42, 3) := by decide +kernel
theorem d_ZF_init_106 : decode b_ZF_init 106 = .ok (.aload_n 0, 1) := by decide +kernel
theorem d_ZF_init_107 : decode b_ZF_init 107 = .ok (.bipush 42, 2) := by decide +kernel
theorem d_ZF_init_109 : decode b_ZF_init 109 = .ok (.newarray .long, 2) := by decide +kernel
theorem d_ZF_init_111 : decode b_ZF_init 111 = .ok (.putfield 45, 3) := by decide +kernel
theorem d_ZF_init_114 : decode b_ZF_init 114 = .ok (.aload_n 0, 1) := by decide +kernel
theorem d_ZF_init_115 : decode b_ZF_init 115 = .ok (.iconst 0, 1) := by decide +kernel
theorem d_ZF_init_116 : decode b_ZF_init 116 = .ok (.putfield 49, 3) := by decide +kernel
theorem d_ZF_init_119 : decode b_ZF_init 119 = .ok (.aload_n 0, 1) := by decide +kernel
theorem d_ZF_init_120 : decode b_ZF_init 120 = .ok (.iconst (-1), 1) := by decide +kernel
theorem d_ZF_init_121 : decode b_ZF_init 121 = .ok (.putfield 53, 3) := by decide +kernel
theorem d_ZF_init_124 : decode b_ZF_init 124 = .ok (.return_, 1) := by decide +kernel
-- m_1_31 : .classLink "ZoneFiles" 7 "ZoneFiles$Bytes"
-- m_1_51 : .classLink "ZoneFiles" 21 "ZoneFiles$Zone"
-- m_2_90 : .classLink "ZoneFiles" 35 "ZoneFiles$LeapTable"
-- m_1_32 : .instantiable "ZoneFiles$Bytes" 2
-- m_1_53 : .instantiable "ZoneFiles$Zone" 17
-- m_2_91 : .instantiable "ZoneFiles$LeapTable" 4
-- m_1_2 : .initialized "ZoneFiles$Bytes"
-- m_1_3 : .initialized "ZoneFiles$Zone"
-- m_1_9 : .initialized "ZoneFiles$LeapTable"
-- m_1_28 : .methodLink "ZoneFiles" 1 ⟨"java/lang/Object", "<init>", "()V"⟩
-- m_1_33 : .methodLink "ZoneFiles" 9 ⟨"ZoneFiles$Bytes", "<init>", "(I)V"⟩
-- m_1_54 : .methodLink "ZoneFiles" 27 ⟨"ZoneFiles$Zone", "<init>", "()V"⟩
-- m_2_92 : .methodLink "ZoneFiles" 37 ⟨"ZoneFiles$LeapTable", "<init>", "()V"⟩
-- m_1_23 : .classLink "ZoneFilesLaw" 8 "ZoneFiles"
-- m_6_69 : .classLink "ZoneFilesLaw" 94 "ZoneFilesModel"
-- m_1_24 : .instantiable "ZoneFiles" 9
-- m_6_70 : .instantiable "ZoneFilesModel" 72
-- m_1_25 : .methodLink "ZoneFilesLaw" 93 ⟨"ZoneFiles", "<init>", "()V"⟩
-- m_6_71 : .methodLink "ZoneFilesLaw" 96 ⟨"ZoneFilesModel", "<init>", "()V"⟩
-- m_1_26 : .instanceMethod ⟨"ZoneFiles", "<init>", "()V"⟩
-- m_6_72 : .instanceMethod ⟨"ZoneFilesModel", "<init>", "()V"⟩
-- m_1_55 : .instanceMethod ⟨"ZoneFiles$Zone", "<init>", "()V"⟩
-- m_2_93 : .instanceMethod ⟨"ZoneFiles$LeapTable", "<init>", "()V"⟩
-- m_1_34 : .instanceMethod ⟨"ZoneFiles$Bytes", "<init>", "(I)V"⟩
-- m_1_27 : .code ⟨"ZoneFiles", "<init>", "()V"⟩ prog_1_method_1_code 2 none
-- m_6_73 : .code ⟨"ZoneFilesModel", "<init>", "()V"⟩ prog_14_method_1_code 3 none
-- m_1_35 : .code ⟨"ZoneFiles$Bytes", "<init>", "(I)V"⟩ prog_2_method_1_code 2 none
-- m_1_56 : .code ⟨"ZoneFiles$Zone", "<init>", "()V"⟩ prog_12_method_1_code 1 none
-- m_2_25 : .methodLink "ZoneFiles" 28 ⟨"ZoneFiles$Zone", "becomeUtc", "()V"⟩
-- m_2_26 : .instanceMethod ⟨"ZoneFiles$Zone", "becomeUtc", "()V"⟩
-- m_2_27 : .selects "ZoneFiles$Zone" ⟨"ZoneFiles$Zone", "becomeUtc", "()V"⟩ ⟨"ZoneFiles$Zone", "becomeUtc", "()V"⟩
-- m_2_28 : .code ⟨"ZoneFiles$Zone", "becomeUtc", "()V"⟩ prog_12_method_2_code 1 none
-- m_2_94 : .code ⟨"ZoneFiles$LeapTable", "<init>", "()V"⟩ prog_8_method_1_code 1 none
-- m_2_117 : .fieldLink "ZoneFiles" 12 "ZoneFiles" "tape" "LZoneFiles$Bytes;"
-- m_2_118 : .fieldLink "ZoneFiles" 18 "ZoneFiles" "written" "LZoneFiles$Bytes;"
-- m_2_119 : .fieldLink "ZoneFiles" 23 "ZoneFiles" "zones" "[LZoneFiles$Zone;"
-- m_2_120 : .fieldLink "ZoneFiles" 31 "ZoneFiles" "spareZone" "LZoneFiles$Zone;"
-- m_2_121 : .fieldLink "ZoneFiles" 38 "ZoneFiles" "leapTable" "LZoneFiles$LeapTable;"
-- m_2_122 : .fieldLink "ZoneFiles" 42 "ZoneFiles" "spareTable" "LZoneFiles$LeapTable;"
-- m_2_123 : .fieldLink "ZoneFiles" 45 "ZoneFiles" "foundInstants" "[J"
-- m_2_124 : .fieldLink "ZoneFiles" 49 "ZoneFiles" "foundCount" "I"
-- m_2_125 : .fieldLink "ZoneFiles" 53 "ZoneFiles" "faultPlace" "I"
