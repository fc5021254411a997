theorem m_1_22 : Cond.initialized "ZoneFiles$FileWriting" ∈ T0 := tb_1 22 rfl rfl
theorem m_1_41 : Cond.fieldLink "ZoneFiles$FileWriting" 43 "ZoneFiles$Bytes" "size" "I" ∈ T0 := tb_1 41 rfl rfl
theorem m_1_103 : Cond.fieldLink "ZoneFiles$FileWriting" 37 "ZoneFiles$Rule" "text" "LZoneFiles$Bytes;" ∈ T0 := tb_1 103 rfl rfl
theorem m_1_168 : Cond.fieldLink "ZoneFiles$FileWriting" 74 "ZoneFiles$Zone" "timeCount" "I" ∈ T0 := tb_1 168 rfl rfl
theorem m_1_171 : Cond.fieldLink "ZoneFiles$FileWriting" 77 "ZoneFiles$Zone" "typeCount" "I" ∈ T0 := tb_1 171 rfl rfl
theorem m_1_175 : Cond.fieldLink "ZoneFiles$FileWriting" 71 "ZoneFiles$Zone" "leapCount" "I" ∈ T0 := tb_1 175 rfl rfl
theorem m_1_179 : Cond.fieldLink "ZoneFiles$FileWriting" 68 "ZoneFiles$Zone" "stdCount" "I" ∈ T0 := tb_1 179 rfl rfl
theorem m_1_183 : Cond.fieldLink "ZoneFiles$FileWriting" 65 "ZoneFiles$Zone" "utCount" "I" ∈ T0 := tb_1 183 rfl rfl
theorem m_1_188 : Cond.fieldLink "ZoneFiles$FileWriting" 83 "ZoneFiles$Zone" "times" "[J" ∈ T0 := tb_1 188 rfl rfl
theorem m_1_192 : Cond.fieldLink "ZoneFiles$FileWriting" 87 "ZoneFiles$Zone" "timeTypes" "[I" ∈ T0 := tb_1 192 rfl rfl
theorem m_1_195 : Cond.fieldLink "ZoneFiles$FileWriting" 90 "ZoneFiles$Zone" "offsets" "[I" ∈ T0 := tb_1 195 rfl rfl
theorem m_1_199 : Cond.fieldLink "ZoneFiles$FileWriting" 93 "ZoneFiles$Zone" "dsts" "[I" ∈ T0 := tb_1 199 rfl rfl
theorem m_1_203 : Cond.fieldLink "ZoneFiles$FileWriting" 96 "ZoneFiles$Zone" "indexes" "[I" ∈ T0 := tb_1 203 rfl rfl
theorem m_1_207 : Cond.fieldLink "ZoneFiles$FileWriting" 105 "ZoneFiles$Zone" "stds" "[I" ∈ T0 := tb_1 207 rfl rfl
theorem m_1_211 : Cond.fieldLink "ZoneFiles$FileWriting" 108 "ZoneFiles$Zone" "uts" "[I" ∈ T0 := tb_1 211 rfl rfl
theorem m_1_215 : Cond.fieldLink "ZoneFiles$FileWriting" 80 "ZoneFiles$Zone" "chars" "LZoneFiles$Bytes;" ∈ T0 := tb_1 215 rfl rfl
theorem m_1_219 : Cond.fieldLink "ZoneFiles$FileWriting" 99 "ZoneFiles$Zone" "leapTimes" "[J" ∈ T0 := tb_1 219 rfl rfl
theorem m_1_223 : Cond.fieldLink "ZoneFiles$FileWriting" 102 "ZoneFiles$Zone" "leapCorrections" "[I" ∈ T0 := tb_1 223 rfl rfl
theorem m_1_227 : Cond.fieldLink "ZoneFiles$FileWriting" 31 "ZoneFiles$Zone" "rule" "LZoneFiles$Rule;" ∈ T0 := tb_1 227 rfl rfl
theorem m_6_23 : Cond.methodLink "ZoneFiles$FileWriting" 9 ⟨"ZoneFiles$Bytes", "clear", "()V"⟩ ∈ T0 := tb_6 23 rfl rfl
theorem m_6_24 : Cond.methodLink "ZoneFiles$FileWriting" 14 ⟨"ZoneFiles$FileWriting", "putHeader", "(LZoneFiles$Bytes;LZoneFiles$Zone;I)V"⟩ ∈ T0 := tb_6 24 rfl rfl
theorem m_6_25 : Cond.static ⟨"ZoneFiles$FileWriting", "putHeader", "(LZoneFiles$Bytes;LZoneFiles$Zone;I)V"⟩ ∈ T0 := tb_6 25 rfl rfl
theorem m_6_26 : Cond.code ⟨"ZoneFiles$FileWriting", "putHeader", "(LZoneFiles$Bytes;LZoneFiles$Zone;I)V"⟩ prog_7_method_5_code 3 none ∈ T0 := tb_6 26 rfl rfl
theorem m_6_27 : Cond.methodLink "ZoneFiles$FileWriting" 58 ⟨"ZoneFiles$FileWriting", "putHeaderStart", "(LZoneFiles$Bytes;I)V"⟩ ∈ T0 := tb_6 27 rfl rfl
theorem m_6_28 : Cond.static ⟨"ZoneFiles$FileWriting", "putHeaderStart", "(LZoneFiles$Bytes;I)V"⟩ ∈ T0 := tb_6 28 rfl rfl
theorem m_6_29 : Cond.code ⟨"ZoneFiles$FileWriting", "putHeaderStart", "(LZoneFiles$Bytes;I)V"⟩ prog_7_method_3_code 3 none ∈ T0 := tb_6 29 rfl rfl
theorem m_6_31 : Cond.methodLink "ZoneFiles$FileWriting" 27 ⟨"ZoneFiles$Bytes", "put", "(I)V"⟩ ∈ T0 := tb_6 31 rfl rfl
theorem m_6_32 : Cond.methodLink "ZoneFiles$FileWriting" 55 ⟨"ZoneFiles$Bytes", "putZeros", "(I)V"⟩ ∈ T0 := tb_6 32 rfl rfl
theorem m_6_33 : Cond.instanceMethod ⟨"ZoneFiles$Bytes", "putZeros", "(I)V"⟩ ∈ T0 := tb_6 33 rfl rfl
theorem m_6_34 : Cond.selects "ZoneFiles$Bytes" ⟨"ZoneFiles$Bytes", "putZeros", "(I)V"⟩ ⟨"ZoneFiles$Bytes", "putZeros", "(I)V"⟩ ∈ T0 := tb_6 34 rfl rfl
theorem m_6_35 : Cond.code ⟨"ZoneFiles$Bytes", "putZeros", "(I)V"⟩ prog_2_method_6_code 3 none ∈ T0 := tb_6 35 rfl rfl
theorem m_6_36 : Cond.methodLink "ZoneFiles$FileWriting" 61 ⟨"ZoneFiles$Bytes", "putNumber", "(JI)V"⟩ ∈ T0 := tb_6 36 rfl rfl
theorem m_6_37 : Cond.instanceMethod ⟨"ZoneFiles$Bytes", "putNumber", "(JI)V"⟩ ∈ T0 := tb_6 37 rfl rfl
theorem m_6_38 : Cond.selects "ZoneFiles$Bytes" ⟨"ZoneFiles$Bytes", "putNumber", "(JI)V"⟩ ⟨"ZoneFiles$Bytes", "putNumber", "(JI)V"⟩ ∈ T0 := tb_6 38 rfl rfl
theorem m_6_39 : Cond.code ⟨"ZoneFiles$Bytes", "putNumber", "(JI)V"⟩ prog_2_method_5_code 5 none ∈ T0 := tb_6 39 rfl rfl
theorem m_6_40 : Cond.methodLink "ZoneFiles$FileWriting" 20 ⟨"ZoneFiles$FileWriting", "putBlock", "(LZoneFiles$Bytes;LZoneFiles$Zone;I)V"⟩ ∈ T0 := tb_6 40 rfl rfl
theorem m_6_41 : Cond.static ⟨"ZoneFiles$FileWriting", "putBlock", "(LZoneFiles$Bytes;LZoneFiles$Zone;I)V"⟩ ∈ T0 := tb_6 41 rfl rfl
theorem m_6_42 : Cond.code ⟨"ZoneFiles$FileWriting", "putBlock", "(LZoneFiles$Bytes;LZoneFiles$Zone;I)V"⟩ prog_7_method_6_code 4 none ∈ T0 := tb_6 42 rfl rfl
theorem m_6_43 : Cond.methodLink "ZoneFiles$FileWriting" 47 ⟨"ZoneFiles$Bytes", "putAll", "(LZoneFiles$Bytes;II)V"⟩ ∈ T0 := tb_6 43 rfl rfl
theorem m_6_44 : Cond.methodLink "ZoneFiles$FileWriting" 23 ⟨"ZoneFiles$FileWriting", "putEmptyFile", "(LZoneFiles$Bytes;I)V"⟩ ∈ T0 := tb_6 44 rfl rfl
theorem m_6_45 : Cond.static ⟨"ZoneFiles$FileWriting", "putEmptyFile", "(LZoneFiles$Bytes;I)V"⟩ ∈ T0 := tb_6 45 rfl rfl
theorem m_6_46 : Cond.code ⟨"ZoneFiles$FileWriting", "putEmptyFile", "(LZoneFiles$Bytes;I)V"⟩ prog_7_method_4_code 2 none ∈ T0 := tb_6 46 rfl rfl
abbrev b_FW_putHeaderStart : ByteArray := prog_7_method_3_code
def y_FW_putHeaderStart : MethodName := ⟨"ZoneFiles$FileWriting", "putHeaderStart", "(LZoneFiles$Bytes;I)V"⟩
theorem d_FW_putHeaderStart_0 : decode b_FW_putHeaderStart 0 = .ok (.iconst 0, 1) := by decide +kernel
theorem d_FW_putHeaderStart_1 : decode b_FW_putHeaderStart 1 = .ok (.istore_n 2, 1) := by decide +kernel
theorem d_FW_putHeaderStart_2 : decode b_FW_putHeaderStart 2 = .ok (.iload_n 2, 1) := by decide +kernel
theorem d_FW_putHeaderStart_3 : decode b_FW_putHeaderStart 3 = .ok (.getstatic 51, 3) := by decide +kernel
theorem d_FW_putHeaderStart_6 : decode b_FW_putHeaderStart 6 = .ok (.arraylength, 1) := by decide +kernel
theorem d_FW_putHeaderStart_7 : decode b_FW_putHeaderStart 7 = .ok (.if_icmp .ge 18, 3) := by decide +kernel
theorem d_FW_putHeaderStart_10 : decode b_FW_putHeaderStart 10 = .ok (.aload_n 0, 1) := by decide +kernel
theorem d_FW_putHeaderStart_11 : decode b_FW_putHeaderStart 11 = .ok (.getstatic 51, 3) := by decide +kernel
theorem d_FW_putHeaderStart_14 : decode b_FW_putHeaderStart 14 = .ok (.iload_n 2, 1) := by decide +kernel
theorem d_FW_putHeaderStart_15 : decode b_FW_putHeaderStart 15 = .ok (.iaload, 1) := by decide +kernel
theorem d_FW_putHeaderStart_16 : decode b_FW_putHeaderStart 16 = .ok (.invokevirtual 27, 3) := by decide +kernel
theorem d_FW_putHeaderStart_19 : decode b_FW_putHeaderStart 19 = .ok (.iinc 2 1, 3) := by decide +kernel
theorem d_FW_putHeaderStart_22 : decode b_FW_putHeaderStart 22 = .ok (.goto (-20), 3) := by decide +kernel
theorem d_FW_putHeaderStart_25 : decode b_FW_putHeaderStart 25 = .ok (.aload_n 0, 1) := by decide +kernel
theorem d_FW_putHeaderStart_26 : decode b_FW_putHeaderStart 26 = .ok (.iload_n 1, 1) := by decide +kernel
theorem d_FW_putHeaderStart_27 : decode b_FW_putHeaderStart 27 = .ok (.invokevirtual 27, 3) := by decide +kernel
theorem d_FW_putHeaderStart_30 : decode b_FW_putHeaderStart 30 = .ok (.aload_n 0, 1) := by decide +kernel
theorem d_FW_putHeaderStart_31 : decode b_FW_putHeaderStart 31 = .ok (.bipush 15, 2) := by decide +kernel
theorem d_FW_putHeaderStart_33 : decode b_FW_putHeaderStart 33 = .ok (.invokevirtual 55, 3) := by decide +kernel
theorem d_FW_putHeaderStart_36 : decode b_FW_putHeaderStart 36 = .ok (.return_, 1) := by decide +kernel
abbrev b_FW_putEmptyFile : ByteArray := prog_7_method_4_code
def y_FW_putEmptyFile : MethodName := ⟨"ZoneFiles$FileWriting", "putEmptyFile", "(LZoneFiles$Bytes;I)V"⟩
theorem d_FW_putEmptyFile_0 : decode b_FW_putEmptyFile 0 = .ok (.aload_n 0, 1) := by decide +kernel
theorem d_FW_putEmptyFile_1 : decode b_FW_putEmptyFile 1 = .ok (.iload_n 1, 1) := by decide +kernel
theorem d_FW_putEmptyFile_2 : decode b_FW_putEmptyFile 2 = .ok (.invokestatic 58, 3) := by decide +kernel
theorem d_FW_putEmptyFile_5 : decode b_FW_putEmptyFile 5 = .ok (.aload_n 0, 1) := by decide +kernel
theorem d_FW_putEmptyFile_6 : decode b_FW_putEmptyFile 6 = .ok (.bipush 16, 2) := by decide +kernel
theorem d_FW_putEmptyFile_8 : decode b_FW_putEmptyFile 8 = .ok (.invokevirtual 55, 3) := by decide +kernel
theorem d_FW_putEmptyFile_11 : decode b_FW_putEmptyFile 11 = .ok (.aload_n 0, 1) := by decide +kernel
theorem d_FW_putEmptyFile_12 : decode b_FW_putEmptyFile 12 = .ok (.lconst 1, 1) := by decide +kernel
theorem d_FW_putEmptyFile_13 : decode b_FW_putEmptyFile 13 = .ok (.iconst 4, 1) := by decide +kernel
theorem d_FW_putEmptyFile_14 : decode b_FW_putEmptyFile 14 = .ok (.invokevirtual 61, 3) := by decide +kernel
theorem d_FW_putEmptyFile_17 : decode b_FW_putEmptyFile 17 = .ok (.aload_n 0, 1) := by decide +kernel
theorem d_FW_putEmptyFile_18 : decode b_FW_putEmptyFile 18 = .ok (.lconst 1, 1) := by decide +kernel
theorem d_FW_putEmptyFile_19 : decode b_FW_putEmptyFile 19 = .ok (.iconst 4, 1) := by decide +kernel
theorem d_FW_putEmptyFile_20 : decode b_FW_putEmptyFile 20 = .ok (.invokevirtual 61, 3) := by decide +kernel
theorem d_FW_putEmptyFile_23 : decode b_FW_putEmptyFile 23 = .ok (.aload_n 0, 1) := by decide +kernel
theorem d_FW_putEmptyFile_24 : decode b_FW_putEmptyFile 24 = .ok (.bipush 7, 2) := by decide +kernel
theorem d_FW_putEmptyFile_26 : decode b_FW_putEmptyFile 26 = .ok (.invokevirtual 55, 3) := by decide +kernel
theorem d_FW_putEmptyFile_29 : decode b_FW_putEmptyFile 29 = .ok (.return_, 1) := by decide +kernel
abbrev b_FW_putHeader : ByteArray := prog_7_method_5_code
def y_FW_putHeader : MethodName := ⟨"ZoneFiles$FileWriting", "putHeader", "(LZoneFiles$Bytes;LZoneFiles$Zone;I)V"⟩
theorem d_FW_putHeader_0 : decode b_FW_putHeader 0 = .ok (.aload_n 0, 1) := by decide +kernel
theorem d_FW_putHeader_1 : decode b_FW_putHeader 1 = .ok (.iload_n 2, 1) := by decide +kernel
theorem d_FW_putHeader_2 : decode b_FW_putHeader 2 = .ok (.invokestatic 58, 3) := by decide +kernel
theorem d_FW_putHeader_5 : decode b_FW_putHeader 5 = .ok (.aload_n 0, 1) := by decide +kernel
theorem d_FW_putHeader_6 : decode b_FW_putHeader 6 = .ok (.aload_n 1, 1) := by decide +kernel
theorem d_FW_putHeader_7 : decode b_FW_putHeader 7 = .ok (.getfield 65, 3) := by decide +kernel
theorem d_FW_putHeader_10 : decode b_FW_putHeader 10 = .ok (.i2l, 1) := by decide +kernel
theorem d_FW_putHeader_11 : decode b_FW_putHeader 11 = .ok (.iconst 4, 1) := by decide +kernel
theorem d_FW_putHeader_12 : decode b_FW_putHeader 12 = .ok (.invokevirtual 61, 3) := by decide +kernel
theorem d_FW_putHeader_15 : decode b_FW_putHeader 15 = .ok (.aload_n 0, 1) := by decide +kernel
theorem d_FW_putHeader_16 : decode b_FW_putHeader 16 = .ok (.aload_n 1, 1) := by decide +kernel
theorem d_FW_putHeader_17 : decode b_FW_putHeader 17 = .ok (.getfield 68, 3) := by decide +kernel
theorem d_FW_putHeader_20 : decode b_FW_putHeader 20 = .ok (.i2l, 1) := by decide +kernel
theorem d_FW_putHeader_21 : decode b_FW_putHeader 21 = .ok (.iconst 4, 1) := by decide +kernel
theorem d_FW_putHeader_22 : decode b_FW_putHeader 22 = .ok (.invokevirtual 61, 3) := by decide +kernel
theorem d_FW_putHeader_25 : decode b_FW_putHeader 25 = .ok (.aload_n 0, 1) := by decide +kernel
theorem d_FW_putHeader_26 : decode b_FW_putHeader 26 = .ok (.aload_n 1, 1) := by decide +kernel
theorem d_FW_putHeader_27 : decode b_FW_putHeader 27 = .ok (.getfield 71, 3) := by decide +kernel
theorem d_FW_putHeader_30 : decode b_FW_putHeader 30 = .ok (.i2l, 1) := by decide +kernel
theorem d_FW_putHeader_31 : decode b_FW_putHeader 31 = .ok (.iconst 4, 1) := by decide +kernel
theorem d_FW_putHeader_32 : decode b_FW_putHeader 32 = .ok (.invokevirtual 61, 3) := by decide +kernel
theorem d_FW_putHeader_35 : decode b_FW_putHeader 35 = .ok (.aload_n 0, 1) := by decide +kernel
theorem d_FW_putHeader_36 : decode b_FW_putHeader 36 = .ok (.aload_n 1, 1) := by decide +kernel
theorem d_FW_putHeader_37 : decode b_FW_putHeader 37 = .ok (.getfield 74, 3) := by decide +kernel
theorem d_FW_putHeader_40 : decode b_FW_putHeader 40 = .ok (.i2l, 1) := by decide +kernel
theorem d_FW_putHeader_41 : decode b_FW_putHeader 41 = .ok (.iconst 4, 1) := by decide +kernel
theorem d_FW_putHeader_42 : decode b_FW_putHeader 42 = .ok (.invokevirtual 61, 3) := by decide +kernel
theorem d_FW_putHeader_45 : decode b_FW_putHeader 45 = .ok (.aload_n 0, 1) := by decide +kernel
theorem d_FW_putHeader_46 : decode b_FW_putHeader 46 = .ok (.aload_n 1, 1) := by decide +kernel
theorem d_FW_putHeader_47 : decode b_FW_putHeader 47 = .ok (.getfield 77, 3) := by decide +kernel
theorem d_FW_putHeader_50 : decode b_FW_putHeader 50 = .ok (.i2l, 1) := by decide +kernel
theorem d_FW_putHeader_51 : decode b_FW_putHeader 51 = .ok (.iconst 4, 1) := by decide +kernel
theorem d_FW_putHeader_52 : decode b_FW_putHeader 52 = .ok (.invokevirtual 61, 3) := by decide +kernel
theorem d_FW_putHeader_55 : decode b_FW_putHeader 55 = .ok (.aload_n 0, 1) := by decide +kernel
theorem d_FW_putHeader_56 : decode b_FW_putHeader 56 = .ok (.aload_n 1, 1) := by decide +kernel
theorem d_FW_putHeader_57 : decode b_FW_putHeader 57 = .ok (.getfield 80, 3) := by decide +kernel
theorem d_FW_putHeader_60 : decode b_FW_putHeader 60 = .ok (.getfield 43, 3) := by decide +kernel
theorem d_FW_putHeader_63 : decode b_FW_putHeader 63 = .ok (.i2l, 1) := by decide +kernel
theorem d_FW_putHeader_64 : decode b_FW_putHeader 64 = .ok (.iconst 4, 1) := by decide +kernel
theorem d_FW_putHeader_65 : decode b_FW_putHeader 65 = .ok (.invokevirtual 61, 3) := by decide +kernel
theorem d_FW_putHeader_68 : decode b_FW_putHeader 68 = .ok (.return_, 1) := by decide +kernel
abbrev b_FW_putBlock : ByteArray := prog_7_method_6_code
def y_FW_putBlock : MethodName := ⟨"ZoneFiles$FileWriting", "putBlock", "(LZoneFiles$Bytes;LZoneFiles$Zone;I)V"⟩
theorem d_FW_putBlock_0 : decode b_FW_putBlock 0 = .ok (.iconst 0, 1) := by decide +kernel
theorem d_FW_putBlock_1 : decode b_FW_putBlock 1 = .ok (.istore_n 3, 1) := by decide +kernel
theorem d_FW_putBlock_2 : decode b_FW_putBlock 2 = .ok (.iload_n 3, 1) := by decide +kernel
theorem d_FW_putBlock_3 : decode b_FW_putBlock 3 = .ok (.aload_n 1, 1) := by decide +kernel
theorem d_FW_putBlock_4 : decode b_FW_putBlock 4 = .ok (.getfield 74, 3) := by decide +kernel
theorem d_FW_putBlock_7 : decode b_FW_putBlock 7 = .ok (.if_icmp .ge 20, 3) := by decide +kernel
theorem d_FW_putBlock_10 : decode b_FW_putBlock 10 = .ok (.aload_n 0, 1) := by decide +kernel
theorem d_FW_putBlock_11 : decode b_FW_putBlock 11 = .ok (.aload_n 1, 1) := by decide +kernel
theorem d_FW_putBlock_12 : decode b_FW_putBlock 12 = .ok (.getfield 83, 3) := by decide +kernel
theorem d_FW_putBlock_15 : decode b_FW_putBlock 15 = .ok (.iload_n 3, 1) := by decide +kernel
theorem d_FW_putBlock_16 : decode b_FW_putBlock 16 = .ok (.laload, 1) := by decide +kernel
theorem d_FW_putBlock_17 : decode b_FW_putBlock 17 = .ok (.iload_n 2, 1) := by decide +kernel
theorem d_FW_putBlock_18 : decode b_FW_putBlock 18 = .ok (.invokevirtual 61, 3) := by decide +kernel
theorem d_FW_putBlock_21 : decode b_FW_putBlock 21 = .ok (.iinc 3 1, 3) := by decide +kernel
theorem d_FW_putBlock_24 : decode b_FW_putBlock 24 = .ok (.goto (-22), 3) := by decide +kernel
theorem d_FW_putBlock_27 : decode b_FW_putBlock 27 = .ok (.iconst 0, 1) := by decide +kernel
theorem d_FW_putBlock_28 : decode b_FW_putBlock 28 = .ok (.istore_n 3, 1) := by decide +kernel
theorem d_FW_putBlock_29 : decode b_FW_putBlock 29 = .ok (.iload_n 3, 1) := by decide +kernel
theorem d_FW_putBlock_30 : decode b_FW_putBlock 30 = .ok (.aload_n 1, 1) := by decide +kernel
theorem d_FW_putBlock_31 : decode b_FW_putBlock 31 = .ok (.getfield 74, 3) := by decide +kernel
theorem d_FW_putBlock_34 : decode b_FW_putBlock 34 = .ok (.if_icmp .ge 19, 3) := by decide +kernel
theorem d_FW_putBlock_37 : decode b_FW_putBlock 37 = .ok (.aload_n 0, 1) := by decide +kernel
theorem d_FW_putBlock_38 : decode b_FW_putBlock 38 = .ok (.aload_n 1, 1) := by decide +kernel
theorem d_FW_putBlock_39 : decode b_FW_putBlock 39 = .ok (.getfield 87, 3) := by decide +kernel
theorem d_FW_putBlock_42 : decode b_FW_putBlock 42 = .ok (.iload_n 3, 1) := by decide +kernel
theorem d_FW_putBlock_43 : decode b_FW_putBlock 43 = .ok (.iaload, 1) := by decide +kernel
theorem d_FW_putBlock_44 : decode b_FW_putBlock 44 = .ok (.invokevirtual 27, 3) := by decide +kernel
theorem d_FW_putBlock_47 : decode b_FW_putBlock 47 = .ok (.iinc 3 1, 3) := by decide +kernel
theorem d_FW_putBlock_50 : decode b_FW_putBlock 50 = .ok (.goto (-21), 3) := by decide +kernel
theorem d_FW_putBlock_53 : decode b_FW_putBlock 53 = .ok (.iconst 0, 1) := by decide +kernel
theorem d_FW_putBlock_54 : decode b_FW_putBlock 54 = .ok (.istore_n 3, 1) := by decide +kernel
theorem d_FW_putBlock_55 : decode b_FW_putBlock 55 = .ok (.iload_n 3, 1) := by decide +kernel
theorem d_FW_putBlock_56 : decode b_FW_putBlock 56 = .ok (.aload_n 1, 1) := by decide +kernel
theorem d_FW_putBlock_57 : decode b_FW_putBlock 57 = .ok (.getfield 77, 3) := by decide +kernel
theorem d_FW_putBlock_60 : decode b_FW_putBlock 60 = .ok (.if_icmp .ge 41, 3) := by decide +kernel
theorem d_FW_putBlock_63 : decode b_FW_putBlock 63 = .ok (.aload_n 0, 1) := by decide +kernel
theorem d_FW_putBlock_64 : decode b_FW_putBlock 64 = .ok (.aload_n 1, 1) := by decide +kernel
theorem d_FW_putBlock_65 : decode b_FW_putBlock 65 = .ok (.getfield 90, 3) := by decide +kernel
theorem d_FW_putBlock_68 : decode b_FW_putBlock 68 = .ok (.iload_n 3, 1) := by decide +kernel
theorem d_FW_putBlock_69 : decode b_FW_putBlock 69 = .ok (.iaload, 1) := by decide +kernel
theorem d_FW_putBlock_70 : decode b_FW_putBlock 70 = .ok (.i2l, 1) := by decide +kernel
theorem d_FW_putBlock_71 : decode b_FW_putBlock 71 = .ok (.iconst 4, 1) := by decide +kernel
theorem d_FW_putBlock_72 : decode b_FW_putBlock 72 = .ok (.invokevirtual 61, 3) := by decide +kernel
theorem d_FW_putBlock_75 : decode b_FW_putBlock 75 = .ok (.aload_n 0, 1) := by decide +kernel
theorem d_FW_putBlock_76 : decode b_FW_putBlock 76 = .ok (.aload_n 1, 1) := by decide +kernel
theorem d_FW_putBlock_77 : decode b_FW_putBlock 77 = .ok (.getfield 93, 3) := by decide +kernel
theorem d_FW_putBlock_80 : decode b_FW_putBlock 80 = .ok (.iload_n 3, 1) := by decide +kernel
theorem d_FW_putBlock_81 : decode b_FW_putBlock 81 = .ok (.iaload, 1) := by decide +kernel
theorem d_FW_putBlock_82 : decode b_FW_putBlock 82 = .ok (.invokevirtual 27, 3) := by decide +kernel
theorem d_FW_putBlock_85 : decode b_FW_putBlock 85 = .ok (.aload_n 0, 1) := by decide +kernel
theorem d_FW_putBlock_86 : decode b_FW_putBlock 86 = .ok (.aload_n 1, 1) := by decide +kernel
theorem d_FW_putBlock_87 : decode b_FW_putBlock 87 = .ok (.getfield 96, 3) := by decide +kernel
theorem d_FW_putBlock_90 : decode b_FW_putBlock 90 = .ok (.iload_n 3, 1) := by decide +kernel
theorem d_FW_putBlock_91 : decode b_FW_putBlock 91 = .ok (.iaload, 1) := by decide +kernel
theorem d_FW_putBlock_92 : decode b_FW_putBlock 92 = .ok (.invokevirtual 27, 3) := by decide +kernel
theorem d_FW_putBlock_95 : decode b_FW_putBlock 95 = .ok (.iinc 3 1, 3) := by decide +kernel
theorem d_FW_putBlock_98 : decode b_FW_putBlock 98 = .ok (.goto (-43), 3) := by decide +kernel
theorem d_FW_putBlock_101 : decode b_FW_putBlock 101 = .ok (.aload_n 0, 1) := by decide +kernel
theorem d_FW_putBlock_102 : decode b_FW_putBlock 102 = .ok (.aload_n 1, 1) := by decide +kernel
theorem d_FW_putBlock_103 : decode b_FW_putBlock 103 = .ok (.getfield 80, 3) := by decide +kernel
theorem d_FW_putBlock_106 : decode b_FW_putBlock 106 = .ok (.iconst 0, 1) := by decide +kernel
theorem d_FW_putBlock_107 : decode b_FW_putBlock 107 = .ok (.aload_n 1, 1) := by decide +kernel
theorem d_FW_putBlock_108 : decode b_FW_putBlock 108 = .ok (.getfield 80, 3) := by decide +kernel
theorem d_FW_putBlock_111 : decode b_FW_putBlock 111 = .ok (.getfield 43, 3) := by decide +kernel
theorem d_FW_putBlock_114 : decode b_FW_putBlock 114 = .ok (.invokevirtual 47, 3) := by decide +kernel
theorem d_FW_putBlock_117 : decode b_FW_putBlock 117 = .ok (.iconst 0, 1) := by decide +kernel
theorem d_FW_putBlock_118 : decode b_FW_putBlock 118 = .ok (.istore_n 3, 1) := by decide +kernel
theorem d_FW_putBlock_119 : decode b_FW_putBlock 119 = .ok (.iload_n 3, 1) := by decide +kernel
theorem d_FW_putBlock_120 : decode b_FW_putBlock 120 = .ok (.aload_n 1, 1) := by decide +kernel
theorem d_FW_putBlock_121 : decode b_FW_putBlock 121 = .ok (.getfield 71, 3) := by decide +kernel
theorem d_FW_putBlock_124 : decode b_FW_putBlock 124 = .ok (.if_icmp .ge 32, 3) := by decide +kernel
theorem d_FW_putBlock_127 : decode b_FW_putBlock 127 = .ok (.aload_n 0, 1) := by decide +kernel
theorem d_FW_putBlock_128 : decode b_FW_putBlock 128 = .ok (.aload_n 1, 1) := by decide +kernel
theorem d_FW_putBlock_129 : decode b_FW_putBlock 129 = .ok (.getfield 99, 3) := by decide +kernel
theorem d_FW_putBlock_132 : decode b_FW_putBlock 132 = .ok (.iload_n 3, 1) := by decide +kernel
theorem d_FW_putBlock_133 : decode b_FW_putBlock 133 = .ok (.laload, 1) := by decide +kernel
theorem d_FW_putBlock_134 : decode b_FW_putBlock 134 = .ok (.iload_n 2, 1) := by decide +kernel
theorem d_FW_putBlock_135 : decode b_FW_putBlock 135 = .ok (.invokevirtual 61, 3) := by decide +kernel
theorem d_FW_putBlock_138 : decode b_FW_putBlock 138 = .ok (.aload_n 0, 1) := by decide +kernel
theorem d_FW_putBlock_139 : decode b_FW_putBlock 139 = .ok (.aload_n 1, 1) := by decide +kernel
theorem d_FW_putBlock_140 : decode b_FW_putBlock 140 = .ok (.getfield 102, 3) := by decide +kernel
theorem d_FW_putBlock_143 : decode b_FW_putBlock 143 = .ok (.iload_n 3, 1) := by decide +kernel
theorem d_FW_putBlock_144 : decode b_FW_putBlock 144 = .ok (.iaload, 1) := by decide +kernel
theorem d_FW_putBlock_145 : decode b_FW_putBlock 145 = .ok (.i2l, 1) := by decide +kernel
theorem d_FW_putBlock_146 : decode b_FW_putBlock 146 = .ok (.iconst 4, 1) := by decide +kernel
theorem d_FW_putBlock_147 : decode b_FW_putBlock 147 = .ok (.invokevirtual 61, 3) := by decide +kernel
theorem d_FW_putBlock_150 : decode b_FW_putBlock 150 = .ok (.iinc 3 1, 3) := by decide +kernel
theorem d_FW_putBlock_153 : decode b_FW_putBlock 153 = .ok (.goto (-34), 3) := by decide +kernel
theorem d_FW_putBlock_156 : decode b_FW_putBlock 156 = .ok (.iconst 0, 1) := by decide +kernel
theorem d_FW_putBlock_157 : decode b_FW_putBlock 157 = .ok (.istore_n 3, 1) := by decide +kernel
theorem d_FW_putBlock_158 : decode b_FW_putBlock 158 = .ok (.iload_n 3, 1) := by decide +kernel
theorem d_FW_putBlock_159 : decode b_FW_putBlock 159 = .ok (.aload_n 1, 1) := by decide +kernel
theorem d_FW_putBlock_160 : decode b_FW_putBlock 160 = .ok (.getfield 68, 3) := by decide +kernel
theorem d_FW_putBlock_163 : decode b_FW_putBlock 163 = .ok (.if_icmp .ge 19, 3) := by decide +kernel
theorem d_FW_putBlock_166 : decode b_FW_putBlock 166 = .ok (.aload_n 0, 1) := by decide +kernel
theorem d_FW_putBlock_167 : decode b_FW_putBlock 167 = .ok (.aload_n 1, 1) := by decide +kernel
theorem d_FW_putBlock_168 : decode b_FW_putBlock 168 = .ok (.getfield 105, 3) := by decide +kernel
theorem d_FW_putBlock_171 : decode b_FW_putBlock 171 = .ok (.iload_n 3, 1) := by decide +kernel
theorem d_FW_putBlock_172 : decode b_FW_putBlock 172 = .ok (.iaload, 1) := by decide +kernel
theorem d_FW_putBlock_173 : decode b_FW_putBlock 173 = .ok (.invokevirtual 27, 3) := by decide +kernel
theorem d_FW_putBlock_176 : decode b_FW_putBlock 176 = .ok (.iinc 3 1, 3) := by decide +kernel
theorem d_FW_putBlock_179 : decode b_FW_putBlock 179 = .ok (.goto (-21), 3) := by decide +kernel
theorem d_FW_putBlock_182 : decode b_FW_putBlock 182 = .ok (.iconst 0, 1) := by decide +kernel
theorem d_FW_putBlock_183 : decode b_FW_putBlock 183 = .ok (.istore_n 3, 1) := by decide +kernel
theorem d_FW_putBlock_184 : decode b_FW_putBlock 184 = .ok (.iload_n 3, 1) := by decide +kernel
theorem d_FW_putBlock_185 : decode b_FW_putBlock 185 = .ok (.aload_n 1, 1) := by decide +kernel
theorem d_FW_putBlock_186 : decode b_FW_putBlock 186 = .ok (.getfield 65, 3) := by decide +kernel
theorem d_FW_putBlock_189 : decode b_FW_putBlock 189 = .ok (.if_icmp .ge 19, 3) := by decide +kernel
theorem d_FW_putBlock_192 : decode b_FW_putBlock 192 = .ok (.aload_n 0, 1) := by decide +kernel
theorem d_FW_putBlock_193 : decode b_FW_putBlock 193 = .ok (.aload_n 1, 1) := by decide +kernel
theorem d_FW_putBlock_194 : decode b_FW_putBlock 194 = .ok (.getfield 108, 3) := by decide +kernel
theorem d_FW_putBlock_197 : decode b_FW_putBlock 197 = .ok (.iload_n 3, 1) := by decide +kernel
theorem d_FW_putBlock_198 : decode b_FW_putBlock 198 = .ok (.iaload, 1) := by decide +kernel
theorem d_FW_putBlock_199 : decode b_FW_putBlock 199 = .ok (.invokevirtual 27, 3) := by decide +kernel
theorem d_FW_putBlock_202 : decode b_FW_putBlock 202 = .ok (.iinc 3 1, 3) := by decide +kernel
theorem d_FW_putBlock_205 : decode b_FW_putBlock 205 = .ok (.goto (-21), 3) := by decide +kernel
theorem d_FW_putBlock_208 : decode b_FW_putBlock 208 = .ok (.return_, 1) := by decide +kernel
abbrev b_FW_putFile : ByteArray := prog_7_method_2_code
def y_FW_putFile : MethodName := ⟨"ZoneFiles$FileWriting", "putFile", "(LZoneFiles$Bytes;LZoneFiles$Zone;I)V"⟩
theorem d_FW_putFile_0 : decode b_FW_putFile 0 = .ok (.aload_n 0, 1) := by decide +kernel
theorem d_FW_putFile_1 : decode b_FW_putFile 1 = .ok (.invokevirtual 9, 3) := by decide +kernel
theorem d_FW_putFile_4 : decode b_FW_putFile 4 = .ok (.iload_n 2, 1) := by decide +kernel
theorem d_FW_putFile_5 : decode b_FW_putFile 5 = .ok (.ifCond .ne 16, 3) := by decide +kernel
theorem d_FW_putFile_8 : decode b_FW_putFile 8 = .ok (.aload_n 0, 1) := by decide +kernel
theorem d_FW_putFile_9 : decode b_FW_putFile 9 = .ok (.aload_n 1, 1) := by decide +kernel
theorem d_FW_putFile_10 : decode b_FW_putFile 10 = .ok (.iload_n 2, 1) := by decide +kernel
theorem d_FW_putFile_11 : decode b_FW_putFile 11 = .ok (.invokestatic 14, 3) := by decide +kernel
theorem d_FW_putFile_14 : decode b_FW_putFile 14 = .ok (.aload_n 0, 1) := by decide +kernel
theorem d_FW_putFile_15 : decode b_FW_putFile 15 = .ok (.aload_n 1, 1) := by decide +kernel
theorem d_FW_putFile_16 : decode b_FW_putFile 16 = .ok (.iconst 4, 1) := by decide +kernel
theorem d_FW_putFile_17 : decode b_FW_putFile 17 = .ok (.invokestatic 20, 3) := by decide +kernel
theorem d_FW_putFile_20 : decode b_FW_putFile 20 = .ok (.return_, 1) := by decide +kernel
theorem d_FW_putFile_21 : decode b_FW_putFile 21 = .ok (.aload_n 0, 1) := by decide +kernel
theorem d_FW_putFile_22 : decode b_FW_putFile 22 = .ok (.iload_n 2, 1) := by decide +kernel
theorem d_FW_putFile_23 : decode b_FW_putFile 23 = .ok (.invokestatic 23, 3) := by decide +kernel
theorem d_FW_putFile_26 : decode b_FW_putFile 26 = .ok (.aload_n 0, 1) := by decide +kernel
theorem d_FW_putFile_27 : decode b_FW_putFile 27 = .ok (.aload_n 1, 1) := by decide +kernel
theorem d_FW_putFile_28 : decode b_FW_putFile 28 = .ok (.iload_n 2, 1) := by decide +kernel
theorem d_FW_putFile_29 : decode b_FW_putFile 29 = .ok (.invokestatic 14, 3) := by decide +kernel
theorem d_FW_putFile_32 : decode b_FW_putFile 32 = .ok (.aload_n 0, 1) := by decide +kernel
theorem d_FW_putFile_33 : decode b_FW_putFile 33 = .ok (.aload_n 1, 1) := by decide +kernel
theorem d_FW_putFile_34 : decode b_FW_putFile 34 = .ok (.bipush 8, 2) := by decide +kernel
theorem d_FW_putFile_36 : decode b_FW_putFile 36 = .ok (.invokestatic 20, 3) := by decide +kernel
theorem d_FW_putFile_39 : decode b_FW_putFile 39 = .ok (.aload_n 0, 1) := by decide +kernel
theorem d_FW_putFile_40 : decode b_FW_putFile 40 = .ok (.bipush 10, 2) := by decide +kernel
theorem d_FW_putFile_42 : decode b_FW_putFile 42 = .ok (.invokevirtual 27, 3) := by decide +kernel
theorem d_FW_putFile_45 : decode b_FW_putFile 45 = .ok (.aload_n 0, 1) := by decide +kernel
theorem d_FW_putFile_46 : decode b_FW_putFile 46 = .ok (.aload_n 1, 1) := by decide +kernel
theorem d_FW_putFile_47 : decode b_FW_putFile 47 = .ok (.getfield 31, 3) := by decide +kernel
theorem d_FW_putFile_50 : decode b_FW_putFile 50 = .ok (.getfield 37, 3) := by decide +kernel
theorem d_FW_putFile_53 : decode b_FW_putFile 53 = .ok (.iconst 0, 1) := by decide +kernel
theorem d_FW_putFile_54 : decode b_FW_putFile 54 = .ok (.aload_n 1, 1) := by decide +kernel
theorem d_FW_putFile_55 : decode b_FW_putFile 55 = .ok (.getfield 31, 3) := by decide +kernel
theorem d_FW_putFile_58 : decode b_FW_putFile 58 = .ok (.getfield 37, 3) := by decide +kernel
theorem d_FW_putFile_61 : decode b_FW_putFile 61 = .ok (.getfield 43, 3) := by decide +kernel
theorem d_FW_putFile_64 : decode b_FW_putFile 64 = .ok (.invokevirtual 47, 3) := by decide +kernel
theorem d_FW_putFile_67 : decode b_FW_putFile 67 = .ok (.aload_n 0, 1) := by decide +kernel
theorem d_FW_putFile_68 : decode b_FW_putFile 68 = .ok (.bipush 10, 2) := by decide +kernel
theorem d_FW_putFile_70 : decode b_FW_putFile 70 = .ok (.invokevirtual 27, 3) := by decide +kernel
theorem d_FW_putFile_73 : decode b_FW_putFile 73 = .ok (.return_, 1) := by decide +kernel
-- ZoneFiles$FileWriting.putHeaderStart(LZoneFiles$Bytes;I)V
def f_FW_putHeaderStart_2 (nf : Nat) : Nat → Int32 → Int32 → Int32 → Nat → (Nat → Int32) → Option ((Int32 × Nat × (Nat → Int32)) × Nat × Nat)
  | 0, _, _, _, _, _ => none
  | n + 1, x2, x1, w0_1, w1_n, w1_a =>
    if (4 : Int32) ≤ x2 then
    (f_By_put nf x1 w0_1 w1_n w1_a).bind fun ((z_2, z_3, z_4), kc_7, ks_8) =>
      ad kc_7 ks_8 ((f_By_putZeros nf 15 z_2 z_3 z_4).bind fun ((z_9, z_10, z_11), kc_14, ks_15) =>
      ad kc_14 ks_15 (some ((z_9, z_10, z_11), 0, 0)))
    else
    if x2 < 0 ∨ 4 ≤ x2.toNatClampNeg then none else
      (f_By_put nf (mg_v x2.toNatClampNeg) w0_1 w1_n w1_a).bind fun ((z_17, z_18, z_19), kc_22, ks_23) =>
      ad kc_22 ks_23 (f_FW_putHeaderStart_2 nf n (x2 + 1) x1 z_17 z_18 z_19)
def f_FW_putHeaderStart_0 (nf : Nat) (x1 : Int32) (w0_1 : Int32) (w1_n : Nat) (w1_a : Nat → Int32) : Option ((Int32 × Nat × (Nat → Int32)) × Nat × Nat) :=
  f_FW_putHeaderStart_2 nf nf 0 x1 w0_1 w1_n w1_a
def f_FW_putHeaderStart (nf : Nat) (p1 : Int32) (inS : Int32) (inN : Nat) (inA : Nat → Int32) : Option ((Int32 × Nat × (Nat → Int32)) × Nat × Nat) :=
  f_FW_putHeaderStart_0 nf p1 inS inN inA
section
variable {p : Program} {l : Launch} {e : Env} {R : Room} {s : State} {m : MethodId} {args : Array Value} {below : List Frame} {meth : Method} {c : Code} {Q : State → Prop} {dC : Nat → ClassId} {dI : Nat → Nat → Nat} {nf : Nat} {A : Nat → Prop}
variable {into : Nat} {inR : Nat} {cAinR : ClassId} {inS : Int32} {inN : Nat} {inA : Nat → Int32} {v0_1 : Int32} {v1_n : Nat} {v1_a : Nat → Int32}
set_option maxHeartbeats 400000 in
set_option maxRecDepth 100000 in
theorem k_FW_putHeaderStart_2 (C0 : Cx p s m meth c args R b_FW_putHeaderStart "ZoneFiles$FileWriting" 3 none 4 84) (hST : ST A s s.heap) (hA : ∀ q, s.heap.size ≤ q → A q) (hE : ∀ (pc : Nat) (ls : Array Slot) {q1 : Nat} {nA1 : ClassId} (H : Heap) (locs : List Loc), decode b_FW_putHeaderStart pc = .ok (.return_, 1) → va_P (dC, dI) classes [(into, .inr (0, [.ref q1, .int v0_1])), (q1, .inl (nA1, v1_n, .inl v1_a))] H → va_D A [(into, .inr (0, [.ref q1, .int v0_1])), (q1, .inl (nA1, v1_n, .inl v1_a))] → va_S A s.heap H locs → va_K (dC, dI) classes [(nA1, .byte)] s → W p l e R s m args below meth c H locs R.cells R.slots Q (F0 m pc ls [])) : ∀ (n : Nat) {x2 : Int32} {x1 : Int32} {w0_1 : Int32} {w1_n : Nat} {w1_a : Nat → Int32} {kc ks : Nat}, f_FW_putHeaderStart_2 nf n x2 x1 w0_1 w1_n w1_a = some ((v0_1, v1_n, v1_a), kc, ks) → ∀ {q1 : Nat} {nA1 : ClassId} {cells slots : Nat} {H : Heap} {locs : List Loc} {ls : Array Slot}, va_K (dC, dI) classes [(nA1, .byte)] s → va_P (dC, dI) classes [(into, .inr (0, [.ref q1, .int w0_1])), (q1, .inl (nA1, w1_n, .inl w1_a))] H → va_D A [(into, .inr (0, [.ref q1, .int w0_1])), (q1, .inl (nA1, w1_n, .inl w1_a))] → va_S A s.heap H locs → cells + kc = R.cells → slots + ks = R.slots → lv_has ls 3 [(2, .int x2), (0, .ref into), (1, .int x1)] → W p l e R s m args below meth c H locs cells slots Q (F0 m 2 ls []) := by
  obtain ⟨hx, hb, hr, hml, hown, hts, hlocks, hRf, hRl⟩ := id C0
  obtain ⟨tms, hZms, hTms, tmg, hZmg, hTmg, hNW⟩ := id hST
  intro n
  induction n with
  | zero =>
    intro x2 x1 w0_1 w1_n w1_a kc ks hf
    exact absurd hf (by simp [f_FW_putHeaderStart_2])
  | succ n ih =>
    intro x2 x1 w0_1 w1_n w1_a kc ks hf q1 nA1 cells slots H locs ls hK hP hD hS hkc hks hl
    unfold f_FW_putHeaderStart_2 at hf
    refine lv_iload_n hx hb d_FW_putHeaderStart_2 rfl (lv_at hl 0 rfl) ?_
    refine va_getsN hx hb hZmg hS hown (va_Nw.use rfl hNW.2.2.2.2.2.2.2.2) (fun _ h9 => h9) d_FW_putHeaderStart_3 ?_
    refine va_tlen (v := 4) hx hb hTmg hS rfl d_FW_putHeaderStart_6 ?_
    refine lv_icmp_ge (tgt := 25) hx hb d_FW_putHeaderStart_7 (by decide) (fun c_1 => ?_) (fun c_1 => ?_)
    · have hf := it_t c_1 hf
      refine lv_aload_n hx hb d_FW_putHeaderStart_25 rfl (lv_at hl 1 rfl) ?_
      refine lv_iload_n hx hb d_FW_putHeaderStart_26 rfl (lv_at hl 2 rfl) ?_
      obtain ⟨⟨⟨z_2, z_3, z_4⟩, kc_7, ks_8⟩, hc, hf⟩ := ob hf
      obtain ⟨kc, ks, hf, ekc, eks⟩ := oa hf
      have hPc := hP.sub (ws' := [(into, .inr (0, [.ref q1, .int w0_1])), (q1, .inl (nA1, w1_n, .inl w1_a))]) [0, 1] rfl
      have hDc := hD.sub (ws' := [(into, .inr (0, [.ref q1, .int w0_1])), (q1, .inl (nA1, w1_n, .inl w1_a))]) [0, 1] (by decide) rfl
      have hKc := hK.sub (tys' := [(nA1, .byte)]) [0] rfl
      have hFc := va_free (wc := [(into, .inr (0, [.ref q1, .int w0_1])), (q1, .inl (nA1, w1_n, .inl w1_a))]) hD hS hA [0, 1] rfl
      refine cl_M (v := none) (st1 := []) (va_runV (As := [.int x1]) (rest := []) ⟨hx, hb, hml, hown, hts⟩ (c_By_put l dC dI into q1 nA1 H.size nf x1 w0_1 w1_n w1_a hc) (cwV 1 hts (gdV m_6_31 m_2_38 m_2_39 m_1_2 m_2_40) rfl rfl rfl (by decide +kernel) ⟨Nat.le_trans (Nat.le_of_ble_eq_true rfl) hRf, Nat.le_trans (Nat.le_of_ble_eq_true rfl) hRl⟩) ((MU.pre hPc hKc hDc (hST.mu hS hFc)).vir (va_recv hKc hPc (ci := 0) (q0 := 0) rfl rfl)) rfl rfl hl.1 rfl (lv_room (Nat.le_of_ble_eq_true rfl)) d_FW_putHeaderStart_27 ⟨cb hkc ekc, cb hks eks⟩) rfl hS (fun q _ h => hFc q h) hFc (fun t H1 locs ht hvm hB hz1 hk1 hS => ?_)
      obtain ⟨q_5, cq_6, hP1, hK1, hD1⟩ := hB
      rw [ht] at hP1
      have hK1 := va_K.moved hvm.symm hK1
      obtain ⟨hP, hD⟩ := va_join (wr := []) (w1 := [(into, .inr (0, [.ref q_5, .int z_2])), (q_5, .inl (cq_6, z_3, .inl z_4))]) hP hD [0, 1] [] rfl rfl (by decide) (by decide) hk1 hFc hP1 hD1
      have hK := (hK.sub (tys' := []) [] rfl).app hK1
      generalize H1 = H at hP hS ⊢
      have hP := hP.sub (ws' := [(into, .inr (0, [.ref q_5, .int z_2])), (q_5, .inl (cq_6, z_3, .inl z_4))]) [0, 1] rfl
      have hD := hD.sub (ws' := [(into, .inr (0, [.ref q_5, .int z_2])), (q_5, .inl (cq_6, z_3, .inl z_4))]) [0, 1] (by decide) rfl
      have hK := hK.sub (tys' := [(cq_6, .byte)]) [0] rfl
      have hkc := ck hkc ekc
      have hks := ck hks eks
      generalize cells + kc_7 = cells at hkc ⊢
      generalize slots + ks_8 = slots at hks ⊢
      refine lv_aload_n hx hb d_FW_putHeaderStart_30 rfl (lv_at hl 1 rfl) ?_
      refine lv_bipush (v := 15) hx hb d_FW_putHeaderStart_31 (by decide) ?_
      obtain ⟨⟨⟨z_9, z_10, z_11⟩, kc_14, ks_15⟩, hc, hf⟩ := ob hf
      obtain ⟨kc, ks, hf, ekc, eks⟩ := oa hf
      have hPc := hP.sub (ws' := [(into, .inr (0, [.ref q_5, .int z_2])), (q_5, .inl (cq_6, z_3, .inl z_4))]) [0, 1] rfl
      have hDc := hD.sub (ws' := [(into, .inr (0, [.ref q_5, .int z_2])), (q_5, .inl (cq_6, z_3, .inl z_4))]) [0, 1] (by decide) rfl
      have hKc := hK.sub (tys' := [(cq_6, .byte)]) [0] rfl
      have hFc := va_free (wc := [(into, .inr (0, [.ref q_5, .int z_2])), (q_5, .inl (cq_6, z_3, .inl z_4))]) hD hS hA [0, 1] rfl
      refine cl_M (v := none) (st1 := []) (va_runV (As := [.int 15]) (rest := []) ⟨hx, hb, hml, hown, hts⟩ (c_By_putZeros l dC dI into q_5 cq_6 H.size nf 15 z_2 z_3 z_4 hc) (cwV 1 hts (gdV m_6_32 m_6_33 m_6_34 m_1_2 m_6_35) rfl rfl rfl (by decide +kernel) ⟨Nat.le_trans (Nat.le_of_ble_eq_true rfl) hRf, Nat.le_trans (Nat.le_of_ble_eq_true rfl) hRl⟩) ((MU.pre hPc hKc hDc (hST.mu hS hFc)).vir (va_recv hKc hPc (ci := 0) (q0 := 0) rfl rfl)) rfl rfl hl.1 rfl (lv_room (Nat.le_of_ble_eq_true rfl)) d_FW_putHeaderStart_33 ⟨cb hkc ekc, cb hks eks⟩) rfl hS (fun q _ h => hFc q h) hFc (fun t H1 locs ht hvm hB hz1 hk1 hS => ?_)
      obtain ⟨q_12, cq_13, hP1, hK1, hD1⟩ := hB
      rw [ht] at hP1
      have hK1 := va_K.moved hvm.symm hK1
      obtain ⟨hP, hD⟩ := va_join (wr := []) (w1 := [(into, .inr (0, [.ref q_12, .int z_9])), (q_12, .inl (cq_13, z_10, .inl z_11))]) hP hD [0, 1] [] rfl rfl (by decide) (by decide) hk1 hFc hP1 hD1
      have hK := (hK.sub (tys' := []) [] rfl).app hK1
      generalize H1 = H at hP hS ⊢
      have hP := hP.sub (ws' := [(into, .inr (0, [.ref q_12, .int z_9])), (q_12, .inl (cq_13, z_10, .inl z_11))]) [0, 1] rfl
      have hD := hD.sub (ws' := [(into, .inr (0, [.ref q_12, .int z_9])), (q_12, .inl (cq_13, z_10, .inl z_11))]) [0, 1] (by decide) rfl
      have hK := hK.sub (tys' := [(cq_13, .byte)]) [0] rfl
      have hkc := ck hkc ekc
      have hks := ck hks eks
      generalize cells + kc_14 = cells at hkc ⊢
      generalize slots + ks_15 = slots at hks ⊢
      cases rs hf
      have hkc : cells = R.cells := hkc
      have hks : slots = R.slots := hks
      subst hkc; subst hks
      exact hE _ _ _ _ d_FW_putHeaderStart_36 hP hD hS hK
    · have hf := it_f c_1 hf
      refine lv_aload_n hx hb d_FW_putHeaderStart_10 rfl (lv_at hl 1 rfl) ?_
      refine va_getsN hx hb hZmg hS hown (va_Nw.use rfl hNW.2.2.2.2.2.2.2.2) (fun _ h9 => h9) d_FW_putHeaderStart_11 ?_
      refine lv_iload_n hx hb d_FW_putHeaderStart_14 rfl (lv_at hl 0 rfl) ?_
      obtain ⟨c_16, hf⟩ := it_n hf
      refine va_ti (v := .int (mg_v x2.toNatClampNeg)) hx hb hTmg hS c_16 rfl d_FW_putHeaderStart_15 ?_
      obtain ⟨⟨⟨z_17, z_18, z_19⟩, kc_22, ks_23⟩, hc, hf⟩ := ob hf
      obtain ⟨kc, ks, hf, ekc, eks⟩ := oa hf
      have hPc := hP.sub (ws' := [(into, .inr (0, [.ref q1, .int w0_1])), (q1, .inl (nA1, w1_n, .inl w1_a))]) [0, 1] rfl
      have hDc := hD.sub (ws' := [(into, .inr (0, [.ref q1, .int w0_1])), (q1, .inl (nA1, w1_n, .inl w1_a))]) [0, 1] (by decide) rfl
      have hKc := hK.sub (tys' := [(nA1, .byte)]) [0] rfl
      have hFc := va_free (wc := [(into, .inr (0, [.ref q1, .int w0_1])), (q1, .inl (nA1, w1_n, .inl w1_a))]) hD hS hA [0, 1] rfl
      refine cl_M (v := none) (st1 := []) (va_runV (As := [.int (mg_v x2.toNatClampNeg)]) (rest := []) ⟨hx, hb, hml, hown, hts⟩ (c_By_put l dC dI into q1 nA1 H.size nf (mg_v x2.toNatClampNeg) w0_1 w1_n w1_a hc) (cwV 1 hts (gdV m_6_31 m_2_38 m_2_39 m_1_2 m_2_40) rfl rfl rfl (by decide +kernel) ⟨Nat.le_trans (Nat.le_of_ble_eq_true rfl) hRf, Nat.le_trans (Nat.le_of_ble_eq_true rfl) hRl⟩) ((MU.pre hPc hKc hDc (hST.mu hS hFc)).vir (va_recv hKc hPc (ci := 0) (q0 := 0) rfl rfl)) rfl rfl hl.1 rfl (lv_room (Nat.le_of_ble_eq_true rfl)) d_FW_putHeaderStart_16 ⟨cb hkc ekc, cb hks eks⟩) rfl hS (fun q _ h => hFc q h) hFc (fun t H1 locs ht hvm hB hz1 hk1 hS => ?_)
      obtain ⟨q_20, cq_21, hP1, hK1, hD1⟩ := hB
      rw [ht] at hP1
      have hK1 := va_K.moved hvm.symm hK1
      obtain ⟨hP, hD⟩ := va_join (wr := []) (w1 := [(into, .inr (0, [.ref q_20, .int z_17])), (q_20, .inl (cq_21, z_18, .inl z_19))]) hP hD [0, 1] [] rfl rfl (by decide) (by decide) hk1 hFc hP1 hD1
      have hK := (hK.sub (tys' := []) [] rfl).app hK1
      generalize H1 = H at hP hS ⊢
      have hP := hP.sub (ws' := [(into, .inr (0, [.ref q_20, .int z_17])), (q_20, .inl (cq_21, z_18, .inl z_19))]) [0, 1] rfl
      have hD := hD.sub (ws' := [(into, .inr (0, [.ref q_20, .int z_17])), (q_20, .inl (cq_21, z_18, .inl z_19))]) [0, 1] (by decide) rfl
      have hK := hK.sub (tys' := [(cq_21, .byte)]) [0] rfl
      have hkc := ck hkc ekc
      have hks := ck hks eks
      generalize cells + kc_22 = cells at hkc ⊢
      generalize slots + ks_23 = slots at hks ⊢
      refine lv_iinc (v := x2 + 1) (lv' := [(2, .int (x2 + 1)), (0, .ref into), (1, .int x1)]) hx hb d_FW_putHeaderStart_19 hl (k := 0) rfl rfl (by decide) rfl (fun ls hl => ?_)
      refine lv_goto (tgt := 2) hx hb d_FW_putHeaderStart_22 (by decide) ?_
      exact ih hf hK hP hD hS hkc hks (lv_sub hl [0, 1, 2] rfl)
set_option maxHeartbeats 400000 in
set_option maxRecDepth 100000 in
theorem k_FW_putHeaderStart_0 (C0 : Cx p s m meth c args R b_FW_putHeaderStart "ZoneFiles$FileWriting" 3 none 4 84) (hST : ST A s s.heap) (hA : ∀ q, s.heap.size ≤ q → A q) (hE : ∀ (pc : Nat) (ls : Array Slot) {q1 : Nat} {nA1 : ClassId} (H : Heap) (locs : List Loc), decode b_FW_putHeaderStart pc = .ok (.return_, 1) → va_P (dC, dI) classes [(into, .inr (0, [.ref q1, .int v0_1])), (q1, .inl (nA1, v1_n, .inl v1_a))] H → va_D A [(into, .inr (0, [.ref q1, .int v0_1])), (q1, .inl (nA1, v1_n, .inl v1_a))] → va_S A s.heap H locs → va_K (dC, dI) classes [(nA1, .byte)] s → W p l e R s m args below meth c H locs R.cells R.slots Q (F0 m pc ls [])) {x1 : Int32} {w0_1 : Int32} {w1_n : Nat} {w1_a : Nat → Int32} {kc ks : Nat} (hf : f_FW_putHeaderStart_0 nf x1 w0_1 w1_n w1_a = some ((v0_1, v1_n, v1_a), kc, ks)) {q1 : Nat} {nA1 : ClassId} {cells slots : Nat} {H : Heap} {locs : List Loc} {ls : Array Slot} (hK : va_K (dC, dI) classes [(nA1, .byte)] s) (hP : va_P (dC, dI) classes [(into, .inr (0, [.ref q1, .int w0_1])), (q1, .inl (nA1, w1_n, .inl w1_a))] H) (hD : va_D A [(into, .inr (0, [.ref q1, .int w0_1])), (q1, .inl (nA1, w1_n, .inl w1_a))]) (hS : va_S A s.heap H locs) (hkc : cells + kc = R.cells) (hks : slots + ks = R.slots) (hl : lv_has ls 3 [(0, .ref into), (1, .int x1)]) : W p l e R s m args below meth c H locs cells slots Q (F0 m 0 ls []) := by
  obtain ⟨hx, hb, hr, hml, hown, hts, hlocks, hRf, hRl⟩ := id C0
  obtain ⟨tms, hZms, hTms, tmg, hZmg, hTmg, hNW⟩ := id hST
  unfold f_FW_putHeaderStart_0 at hf
  refine lv_iconst (v := 0) hx hb d_FW_putHeaderStart_0 (by decide) ?_
  refine lv_istore_n (lv' := [(2, .int 0), (0, .ref into), (1, .int x1)]) hx hb d_FW_putHeaderStart_1 rfl hl (by decide) rfl (fun ls hl => ?_)
  exact k_FW_putHeaderStart_2 C0 hST hA hE nf hf hK hP hD hS hkc hks (lv_sub hl [0, 1, 2] rfl)
end
set_option maxHeartbeats 400000 in
set_option maxRecDepth 100000 in
theorem c_FW_putHeaderStart (l : Launch) (dC : Nat → ClassId) (dI : Nat → Nat → Nat) (into : Nat) (inR : Nat) (cAinR : ClassId) (sz : Nat) (nf : Nat) (p1 : Int32) (inS : Int32) (inN : Nat) (inA : Nat → Int32) {v0_1 : Int32} {v1_n : Nat} {v1_a : Nat → Int32} {kc ks : Nat} (hf : f_FW_putHeaderStart nf p1 inS inN inA = some ((v0_1, v1_n, v1_a), kc, ks)) : Met l y_FW_putHeaderStart (wd y_FW_putHeaderStart b_FW_putHeaderStart 3 none) ({ frames := 4, cells := kc, slots := ks, locals := 84 }) (MU dC dI [(into, .inr (0, [.ref inR, .int inS])), (inR, .inl (cAinR, inN, .inl inA))] [(cAinR, .byte)] sz [.ref into, .int p1]) (MV none (fun t => ∃ (q1 : Nat) (nA1 : ClassId), va_P (dC, dI) classes [(into, .inr (0, [.ref q1, .int v0_1])), (q1, .inl (nA1, v1_n, .inl v1_a))] t.heap ∧ va_K (dC, dI) classes [(nA1, .byte)] t ∧ va_D (va_A [(into, .inr (0, [.ref inR, .int inS])), (inR, .inl (cAinR, inN, .inl inA))] sz) [(into, .inr (0, [.ref q1, .int v0_1])), (q1, .inl (nA1, v1_n, .inl v1_a))]) (va_A [(into, .inr (0, [.ref inR, .int inS])), (inR, .inl (cAinR, inN, .inl inA))] sz)) kc ks (va_A [(into, .inr (0, [.ref inR, .int inS])), (inR, .inl (cAinR, inN, .inl inA))] sz) :=
  met_M (plainFor_of_name (by decide)) (Nat.le_of_ble_eq_true rfl) (fun p e R s m args below meth c ls hRc hRs hsz hin C0 hST hK hP hD hl => by
    obtain ⟨hx, hb, hr, hml, hown, hts, hlocks, hRf, hRl⟩ := id C0
    subst hRc; subst hRs
    subst hsz
    have hA : ∀ q : Nat, s.heap.size ≤ q → va_A [(into, .inr (0, [.ref inR, .int inS])), (inR, .inl (cAinR, inN, .inl inA))] s.heap.size q := fun q h => Or.inr h
    have hS : va_S (va_A [(into, .inr (0, [.ref inR, .int inS])), (inR, .inl (cAinR, inN, .inl inA))] s.heap.size) s.heap s.heap [] := va_S.rf
    have hkc := Nat.zero_add R.cells
    have hks := Nat.zero_add R.slots
    unfold f_FW_putHeaderStart at hf
    exact k_FW_putHeaderStart_0 C0 hST hA (fun pc ls {q1} {nA1} H locs hd hP hD hS hK => W.vret hx hb hr (fun t ht hW => ⟨⟨rfl, ⟨q1, nA1, by rw [ht]; exact hP, va_K.moved hW.alike hK, hD⟩⟩, hS.F ht⟩) hS.2.2 hd) hf hK hP hD hS hkc hks (lv_sub hl [0, 1] rfl))
-- ZoneFiles$FileWriting.putEmptyFile(LZoneFiles$Bytes;I)V
def f_FW_putEmptyFile_0 (nf : Nat) (x1 : Int32) (w0_1 : Int32) (w1_n : Nat) (w1_a : Nat → Int32) : Option ((Int32 × Nat × (Nat → Int32)) × Nat × Nat) :=
  (f_FW_putHeaderStart nf x1 w0_1 w1_n w1_a).bind fun ((z_1, z_2, z_3), kc_6, ks_7) =>
  ad kc_6 ks_7 ((f_By_putZeros nf 16 z_1 z_2 z_3).bind fun ((z_8, z_9, z_10), kc_13, ks_14) =>
  ad kc_13 ks_14 ((f_By_putNumber nf 1 4 z_8 z_9 z_10).bind fun ((z_15, z_16, z_17), kc_20, ks_21) =>
  ad kc_20 ks_21 ((f_By_putNumber nf 1 4 z_15 z_16 z_17).bind fun ((z_22, z_23, z_24), kc_27, ks_28) =>
  ad kc_27 ks_28 ((f_By_putZeros nf 7 z_22 z_23 z_24).bind fun ((z_29, z_30, z_31), kc_34, ks_35) =>
  ad kc_34 ks_35 (some ((z_29, z_30, z_31), 0, 0))))))
def f_FW_putEmptyFile (nf : Nat) (p1 : Int32) (inS : Int32) (inN : Nat) (inA : Nat → Int32) : Option ((Int32 × Nat × (Nat → Int32)) × Nat × Nat) :=
  f_FW_putEmptyFile_0 nf p1 inS inN inA
section
variable {p : Program} {l : Launch} {e : Env} {R : Room} {s : State} {m : MethodId} {args : Array Value} {below : List Frame} {meth : Method} {c : Code} {Q : State → Prop} {dC : Nat → ClassId} {dI : Nat → Nat → Nat} {nf : Nat} {A : Nat → Prop}
variable {into : Nat} {inR : Nat} {cAinR : ClassId} {inS : Int32} {inN : Nat} {inA : Nat → Int32} {v0_1 : Int32} {v1_n : Nat} {v1_a : Nat → Int32}
set_option maxHeartbeats 400000 in
set_option maxRecDepth 100000 in
theorem k_FW_putEmptyFile_0 (C0 : Cx p s m meth c args R b_FW_putEmptyFile "ZoneFiles$FileWriting" 2 none 5 106) (hST : ST A s s.heap) (hA : ∀ q, s.heap.size ≤ q → A q) (hE : ∀ (pc : Nat) (ls : Array Slot) {q1 : Nat} {nA1 : ClassId} (H : Heap) (locs : List Loc), decode b_FW_putEmptyFile pc = .ok (.return_, 1) → va_P (dC, dI) classes [(into, .inr (0, [.ref q1, .int v0_1])), (q1, .inl (nA1, v1_n, .inl v1_a))] H → va_D A [(into, .inr (0, [.ref q1, .int v0_1])), (q1, .inl (nA1, v1_n, .inl v1_a))] → va_S A s.heap H locs → va_K (dC, dI) classes [(nA1, .byte)] s → W p l e R s m args below meth c H locs R.cells R.slots Q (F0 m pc ls [])) {x1 : Int32} {w0_1 : Int32} {w1_n : Nat} {w1_a : Nat → Int32} {kc ks : Nat} (hf : f_FW_putEmptyFile_0 nf x1 w0_1 w1_n w1_a = some ((v0_1, v1_n, v1_a), kc, ks)) {q1 : Nat} {nA1 : ClassId} {cells slots : Nat} {H : Heap} {locs : List Loc} {ls : Array Slot} (hK : va_K (dC, dI) classes [(nA1, .byte)] s) (hP : va_P (dC, dI) classes [(into, .inr (0, [.ref q1, .int w0_1])), (q1, .inl (nA1, w1_n, .inl w1_a))] H) (hD : va_D A [(into, .inr (0, [.ref q1, .int w0_1])), (q1, .inl (nA1, w1_n, .inl w1_a))]) (hS : va_S A s.heap H locs) (hkc : cells + kc = R.cells) (hks : slots + ks = R.slots) (hl : lv_has ls 2 [(0, .ref into), (1, .int x1)]) : W p l e R s m args below meth c H locs cells slots Q (F0 m 0 ls []) := by
  obtain ⟨hx, hb, hr, hml, hown, hts, hlocks, hRf, hRl⟩ := id C0
  obtain ⟨tms, hZms, hTms, tmg, hZmg, hTmg, hNW⟩ := id hST
  unfold f_FW_putEmptyFile_0 at hf
  refine lv_aload_n hx hb d_FW_putEmptyFile_0 rfl (lv_at hl 0 rfl) ?_
  refine lv_iload_n hx hb d_FW_putEmptyFile_1 rfl (lv_at hl 1 rfl) ?_
  obtain ⟨⟨⟨z_1, z_2, z_3⟩, kc_6, ks_7⟩, hc, hf⟩ := ob hf
  obtain ⟨kc, ks, hf, ekc, eks⟩ := oa hf
  have hPc := hP.sub (ws' := [(into, .inr (0, [.ref q1, .int w0_1])), (q1, .inl (nA1, w1_n, .inl w1_a))]) [0, 1] rfl
  have hDc := hD.sub (ws' := [(into, .inr (0, [.ref q1, .int w0_1])), (q1, .inl (nA1, w1_n, .inl w1_a))]) [0, 1] (by decide) rfl
  have hKc := hK.sub (tys' := [(nA1, .byte)]) [0] rfl
  have hFc := va_free (wc := [(into, .inr (0, [.ref q1, .int w0_1])), (q1, .inl (nA1, w1_n, .inl w1_a))]) hD hS hA [0, 1] rfl
  refine cl_M (v := none) (st1 := []) (va_runS (As := [.ref into, .int x1]) (rest := []) ⟨hx, hb, hml, hown, hts⟩ (c_FW_putHeaderStart l dC dI into q1 nA1 H.size nf x1 w0_1 w1_n w1_a hc) (va_cwS 2 hts (gdS m_6_27 m_6_28 m_1_22 m_6_29) rfl rfl rfl (by decide +kernel) ⟨Nat.le_trans (Nat.le_of_ble_eq_true rfl) hRf, Nat.le_trans (Nat.le_of_ble_eq_true rfl) hRl⟩) (MU.pre hPc hKc hDc (hST.mu hS hFc)).sta rfl rfl hl.1 rfl (lv_room (Nat.le_of_ble_eq_true rfl)) d_FW_putEmptyFile_2 ⟨cb hkc ekc, cb hks eks⟩) rfl hS (fun q _ h => hFc q h) hFc (fun t H1 locs ht hvm hB hz1 hk1 hS => ?_)
  obtain ⟨q_4, cq_5, hP1, hK1, hD1⟩ := hB
  rw [ht] at hP1
  have hK1 := va_K.moved hvm.symm hK1
  obtain ⟨hP, hD⟩ := va_join (wr := []) (w1 := [(into, .inr (0, [.ref q_4, .int z_1])), (q_4, .inl (cq_5, z_2, .inl z_3))]) hP hD [0, 1] [] rfl rfl (by decide) (by decide) hk1 hFc hP1 hD1
  have hK := (hK.sub (tys' := []) [] rfl).app hK1
  generalize H1 = H at hP hS ⊢
  have hP := hP.sub (ws' := [(into, .inr (0, [.ref q_4, .int z_1])), (q_4, .inl (cq_5, z_2, .inl z_3))]) [0, 1] rfl
  have hD := hD.sub (ws' := [(into, .inr (0, [.ref q_4, .int z_1])), (q_4, .inl (cq_5, z_2, .inl z_3))]) [0, 1] (by decide) rfl
  have hK := hK.sub (tys' := [(cq_5, .byte)]) [0] rfl
  have hkc := ck hkc ekc
  have hks := ck hks eks
  generalize cells + kc_6 = cells at hkc ⊢
  generalize slots + ks_7 = slots at hks ⊢
  refine lv_aload_n hx hb d_FW_putEmptyFile_5 rfl (lv_at hl 0 rfl) ?_
  refine lv_bipush (v := 16) hx hb d_FW_putEmptyFile_6 (by decide) ?_
  obtain ⟨⟨⟨z_8, z_9, z_10⟩, kc_13, ks_14⟩, hc, hf⟩ := ob hf
  obtain ⟨kc, ks, hf, ekc, eks⟩ := oa hf
  have hPc := hP.sub (ws' := [(into, .inr (0, [.ref q_4, .int z_1])), (q_4, .inl (cq_5, z_2, .inl z_3))]) [0, 1] rfl
  have hDc := hD.sub (ws' := [(into, .inr (0, [.ref q_4, .int z_1])), (q_4, .inl (cq_5, z_2, .inl z_3))]) [0, 1] (by decide) rfl
  have hKc := hK.sub (tys' := [(cq_5, .byte)]) [0] rfl
  have hFc := va_free (wc := [(into, .inr (0, [.ref q_4, .int z_1])), (q_4, .inl (cq_5, z_2, .inl z_3))]) hD hS hA [0, 1] rfl
  refine cl_M (v := none) (st1 := []) (va_runV (As := [.int 16]) (rest := []) ⟨hx, hb, hml, hown, hts⟩ (c_By_putZeros l dC dI into q_4 cq_5 H.size nf 16 z_1 z_2 z_3 hc) (cwV 1 hts (gdV m_6_32 m_6_33 m_6_34 m_1_2 m_6_35) rfl rfl rfl (by decide +kernel) ⟨Nat.le_trans (Nat.le_of_ble_eq_true rfl) hRf, Nat.le_trans (Nat.le_of_ble_eq_true rfl) hRl⟩) ((MU.pre hPc hKc hDc (hST.mu hS hFc)).vir (va_recv hKc hPc (ci := 0) (q0 := 0) rfl rfl)) rfl rfl hl.1 rfl (lv_room (Nat.le_of_ble_eq_true rfl)) d_FW_putEmptyFile_8 ⟨cb hkc ekc, cb hks eks⟩) rfl hS (fun q _ h => hFc q h) hFc (fun t H1 locs ht hvm hB hz1 hk1 hS => ?_)
  obtain ⟨q_11, cq_12, hP1, hK1, hD1⟩ := hB
  rw [ht] at hP1
  have hK1 := va_K.moved hvm.symm hK1
  obtain ⟨hP, hD⟩ := va_join (wr := []) (w1 := [(into, .inr (0, [.ref q_11, .int z_8])), (q_11, .inl (cq_12, z_9, .inl z_10))]) hP hD [0, 1] [] rfl rfl (by decide) (by decide) hk1 hFc hP1 hD1
  have hK := (hK.sub (tys' := []) [] rfl).app hK1
  generalize H1 = H at hP hS ⊢
  have hP := hP.sub (ws' := [(into, .inr (0, [.ref q_11, .int z_8])), (q_11, .inl (cq_12, z_9, .inl z_10))]) [0, 1] rfl
  have hD := hD.sub (ws' := [(into, .inr (0, [.ref q_11, .int z_8])), (q_11, .inl (cq_12, z_9, .inl z_10))]) [0, 1] (by decide) rfl
  have hK := hK.sub (tys' := [(cq_12, .byte)]) [0] rfl
  have hkc := ck hkc ekc
  have hks := ck hks eks
  generalize cells + kc_13 = cells at hkc ⊢
  generalize slots + ks_14 = slots at hks ⊢
  refine lv_aload_n hx hb d_FW_putEmptyFile_11 rfl (lv_at hl 0 rfl) ?_
  refine lv_lconst (v := 1) hx hb d_FW_putEmptyFile_12 (by decide) ?_
  refine lv_iconst (v := 4) hx hb d_FW_putEmptyFile_13 (by decide) ?_
  obtain ⟨⟨⟨z_15, z_16, z_17⟩, kc_20, ks_21⟩, hc, hf⟩ := ob hf
  obtain ⟨kc, ks, hf, ekc, eks⟩ := oa hf
  have hPc := hP.sub (ws' := [(into, .inr (0, [.ref q_11, .int z_8])), (q_11, .inl (cq_12, z_9, .inl z_10))]) [0, 1] rfl
  have hDc := hD.sub (ws' := [(into, .inr (0, [.ref q_11, .int z_8])), (q_11, .inl (cq_12, z_9, .inl z_10))]) [0, 1] (by decide) rfl
  have hKc := hK.sub (tys' := [(cq_12, .byte)]) [0] rfl
  have hFc := va_free (wc := [(into, .inr (0, [.ref q_11, .int z_8])), (q_11, .inl (cq_12, z_9, .inl z_10))]) hD hS hA [0, 1] rfl
  refine cl_M (v := none) (st1 := []) (va_runV (As := [.long 1, .int 4]) (rest := []) ⟨hx, hb, hml, hown, hts⟩ (c_By_putNumber l dC dI into q_11 cq_12 H.size nf 1 4 z_8 z_9 z_10 hc) (cwV 2 hts (gdV m_6_36 m_6_37 m_6_38 m_1_2 m_6_39) rfl rfl rfl (by decide +kernel) ⟨Nat.le_trans (Nat.le_of_ble_eq_true rfl) hRf, Nat.le_trans (Nat.le_of_ble_eq_true rfl) hRl⟩) ((MU.pre hPc hKc hDc (hST.mu hS hFc)).vir (va_recv hKc hPc (ci := 0) (q0 := 0) rfl rfl)) rfl rfl hl.1 rfl (lv_room (Nat.le_of_ble_eq_true rfl)) d_FW_putEmptyFile_14 ⟨cb hkc ekc, cb hks eks⟩) rfl hS (fun q _ h => hFc q h) hFc (fun t H1 locs ht hvm hB hz1 hk1 hS => ?_)
  obtain ⟨q_18, cq_19, hP1, hK1, hD1⟩ := hB
  rw [ht] at hP1
  have hK1 := va_K.moved hvm.symm hK1
  obtain ⟨hP, hD⟩ := va_join (wr := []) (w1 := [(into, .inr (0, [.ref q_18, .int z_15])), (q_18, .inl (cq_19, z_16, .inl z_17))]) hP hD [0, 1] [] rfl rfl (by decide) (by decide) hk1 hFc hP1 hD1
  have hK := (hK.sub (tys' := []) [] rfl).app hK1
  generalize H1 = H at hP hS ⊢
  have hP := hP.sub (ws' := [(into, .inr (0, [.ref q_18, .int z_15])), (q_18, .inl (cq_19, z_16, .inl z_17))]) [0, 1] rfl
  have hD := hD.sub (ws' := [(into, .inr (0, [.ref q_18, .int z_15])), (q_18, .inl (cq_19, z_16, .inl z_17))]) [0, 1] (by decide) rfl
  have hK := hK.sub (tys' := [(cq_19, .byte)]) [0] rfl
  have hkc := ck hkc ekc
  have hks := ck hks eks
  generalize cells + kc_20 = cells at hkc ⊢
  generalize slots + ks_21 = slots at hks ⊢
  refine lv_aload_n hx hb d_FW_putEmptyFile_17 rfl (lv_at hl 0 rfl) ?_
  refine lv_lconst (v := 1) hx hb d_FW_putEmptyFile_18 (by decide) ?_
  refine lv_iconst (v := 4) hx hb d_FW_putEmptyFile_19 (by decide) ?_
  obtain ⟨⟨⟨z_22, z_23, z_24⟩, kc_27, ks_28⟩, hc, hf⟩ := ob hf
  obtain ⟨kc, ks, hf, ekc, eks⟩ := oa hf
  have hPc := hP.sub (ws' := [(into, .inr (0, [.ref q_18, .int z_15])), (q_18, .inl (cq_19, z_16, .inl z_17))]) [0, 1] rfl
  have hDc := hD.sub (ws' := [(into, .inr (0, [.ref q_18, .int z_15])), (q_18, .inl (cq_19, z_16, .inl z_17))]) [0, 1] (by decide) rfl
  have hKc := hK.sub (tys' := [(cq_19, .byte)]) [0] rfl
  have hFc := va_free (wc := [(into, .inr (0, [.ref q_18, .int z_15])), (q_18, .inl (cq_19, z_16, .inl z_17))]) hD hS hA [0, 1] rfl
  refine cl_M (v := none) (st1 := []) (va_runV (As := [.long 1, .int 4]) (rest := []) ⟨hx, hb, hml, hown, hts⟩ (c_By_putNumber l dC dI into q_18 cq_19 H.size nf 1 4 z_15 z_16 z_17 hc) (cwV 2 hts (gdV m_6_36 m_6_37 m_6_38 m_1_2 m_6_39) rfl rfl rfl (by decide +kernel) ⟨Nat.le_trans (Nat.le_of_ble_eq_true rfl) hRf, Nat.le_trans (Nat.le_of_ble_eq_true rfl) hRl⟩) ((MU.pre hPc hKc hDc (hST.mu hS hFc)).vir (va_recv hKc hPc (ci := 0) (q0 := 0) rfl rfl)) rfl rfl hl.1 rfl (lv_room (Nat.le_of_ble_eq_true rfl)) d_FW_putEmptyFile_20 ⟨cb hkc ekc, cb hks eks⟩) rfl hS (fun q _ h => hFc q h) hFc (fun t H1 locs ht hvm hB hz1 hk1 hS => ?_)
  obtain ⟨q_25, cq_26, hP1, hK1, hD1⟩ := hB
  rw [ht] at hP1
  have hK1 := va_K.moved hvm.symm hK1
  obtain ⟨hP, hD⟩ := va_join (wr := []) (w1 := [(into, .inr (0, [.ref q_25, .int z_22])), (q_25, .inl (cq_26, z_23, .inl z_24))]) hP hD [0, 1] [] rfl rfl (by decide) (by decide) hk1 hFc hP1 hD1
  have hK := (hK.sub (tys' := []) [] rfl).app hK1
  generalize H1 = H at hP hS ⊢
  have hP := hP.sub (ws' := [(into, .inr (0, [.ref q_25, .int z_22])), (q_25, .inl (cq_26, z_23, .inl z_24))]) [0, 1] rfl
  have hD := hD.sub (ws' := [(into, .inr (0, [.ref q_25, .int z_22])), (q_25, .inl (cq_26, z_23, .inl z_24))]) [0, 1] (by decide) rfl
  have hK := hK.sub (tys' := [(cq_26, .byte)]) [0] rfl
  have hkc := ck hkc ekc
  have hks := ck hks eks
  generalize cells + kc_27 = cells at hkc ⊢
  generalize slots + ks_28 = slots at hks ⊢
  refine lv_aload_n hx hb d_FW_putEmptyFile_23 rfl (lv_at hl 0 rfl) ?_
  refine lv_bipush (v := 7) hx hb d_FW_putEmptyFile_24 (by decide) ?_
  obtain ⟨⟨⟨z_29, z_30, z_31⟩, kc_34, ks_35⟩, hc, hf⟩ := ob hf
  obtain ⟨kc, ks, hf, ekc, eks⟩ := oa hf
  have hPc := hP.sub (ws' := [(into, .inr (0, [.ref q_25, .int z_22])), (q_25, .inl (cq_26, z_23, .inl z_24))]) [0, 1] rfl
  have hDc := hD.sub (ws' := [(into, .inr (0, [.ref q_25, .int z_22])), (q_25, .inl (cq_26, z_23, .inl z_24))]) [0, 1] (by decide) rfl
  have hKc := hK.sub (tys' := [(cq_26, .byte)]) [0] rfl
  have hFc := va_free (wc := [(into, .inr (0, [.ref q_25, .int z_22])), (q_25, .inl (cq_26, z_23, .inl z_24))]) hD hS hA [0, 1] rfl
  refine cl_M (v := none) (st1 := []) (va_runV (As := [.int 7]) (rest := []) ⟨hx, hb, hml, hown, hts⟩ (c_By_putZeros l dC dI into q_25 cq_26 H.size nf 7 z_22 z_23 z_24 hc) (cwV 1 hts (gdV m_6_32 m_6_33 m_6_34 m_1_2 m_6_35) rfl rfl rfl (by decide +kernel) ⟨Nat.le_trans (Nat.le_of_ble_eq_true rfl) hRf, Nat.le_trans (Nat.le_of_ble_eq_true rfl) hRl⟩) ((MU.pre hPc hKc hDc (hST.mu hS hFc)).vir (va_recv hKc hPc (ci := 0) (q0 := 0) rfl rfl)) rfl rfl hl.1 rfl (lv_room (Nat.le_of_ble_eq_true rfl)) d_FW_putEmptyFile_26 ⟨cb hkc ekc, cb hks eks⟩) rfl hS (fun q _ h => hFc q h) hFc (fun t H1 locs ht hvm hB hz1 hk1 hS => ?_)
  obtain ⟨q_32, cq_33, hP1, hK1, hD1⟩ := hB
  rw [ht] at hP1
  have hK1 := va_K.moved hvm.symm hK1
  obtain ⟨hP, hD⟩ := va_join (wr := []) (w1 := [(into, .inr (0, [.ref q_32, .int z_29])), (q_32, .inl (cq_33, z_30, .inl z_31))]) hP hD [0, 1] [] rfl rfl (by decide) (by decide) hk1 hFc hP1 hD1
  have hK := (hK.sub (tys' := []) [] rfl).app hK1
  generalize H1 = H at hP hS ⊢
  have hP := hP.sub (ws' := [(into, .inr (0, [.ref q_32, .int z_29])), (q_32, .inl (cq_33, z_30, .inl z_31))]) [0, 1] rfl
  have hD := hD.sub (ws' := [(into, .inr (0, [.ref q_32, .int z_29])), (q_32, .inl (cq_33, z_30, .inl z_31))]) [0, 1] (by decide) rfl
  have hK := hK.sub (tys' := [(cq_33, .byte)]) [0] rfl
  have hkc := ck hkc ekc
  have hks := ck hks eks
  generalize cells + kc_34 = cells at hkc ⊢
  generalize slots + ks_35 = slots at hks ⊢
  cases rs hf
  have hkc : cells = R.cells := hkc
  have hks : slots = R.slots := hks
  subst hkc; subst hks
  exact hE _ _ _ _ d_FW_putEmptyFile_29 hP hD hS hK
end
set_option maxHeartbeats 400000 in
set_option maxRecDepth 100000 in
theorem c_FW_putEmptyFile (l : Launch) (dC : Nat → ClassId) (dI : Nat → Nat → Nat) (into : Nat) (inR : Nat) (cAinR : ClassId) (sz : Nat) (nf : Nat) (p1 : Int32) (inS : Int32) (inN : Nat) (inA : Nat → Int32) {v0_1 : Int32} {v1_n : Nat} {v1_a : Nat → Int32} {kc ks : Nat} (hf : f_FW_putEmptyFile nf p1 inS inN inA = some ((v0_1, v1_n, v1_a), kc, ks)) : Met l y_FW_putEmptyFile (wd y_FW_putEmptyFile b_FW_putEmptyFile 2 none) ({ frames := 5, cells := kc, slots := ks, locals := 106 }) (MU dC dI [(into, .inr (0, [.ref inR, .int inS])), (inR, .inl (cAinR, inN, .inl inA))] [(cAinR, .byte)] sz [.ref into, .int p1]) (MV none (fun t => ∃ (q1 : Nat) (nA1 : ClassId), va_P (dC, dI) classes [(into, .inr (0, [.ref q1, .int v0_1])), (q1, .inl (nA1, v1_n, .inl v1_a))] t.heap ∧ va_K (dC, dI) classes [(nA1, .byte)] t ∧ va_D (va_A [(into, .inr (0, [.ref inR, .int inS])), (inR, .inl (cAinR, inN, .inl inA))] sz) [(into, .inr (0, [.ref q1, .int v0_1])), (q1, .inl (nA1, v1_n, .inl v1_a))]) (va_A [(into, .inr (0, [.ref inR, .int inS])), (inR, .inl (cAinR, inN, .inl inA))] sz)) kc ks (va_A [(into, .inr (0, [.ref inR, .int inS])), (inR, .inl (cAinR, inN, .inl inA))] sz) :=
  met_M (plainFor_of_name (by decide)) (Nat.le_of_ble_eq_true rfl) (fun p e R s m args below meth c ls hRc hRs hsz hin C0 hST hK hP hD hl => by
    obtain ⟨hx, hb, hr, hml, hown, hts, hlocks, hRf, hRl⟩ := id C0
    subst hRc; subst hRs
    subst hsz
    have hA : ∀ q : Nat, s.heap.size ≤ q → va_A [(into, .inr (0, [.ref inR, .int inS])), (inR, .inl (cAinR, inN, .inl inA))] s.heap.size q := fun q h => Or.inr h
    have hS : va_S (va_A [(into, .inr (0, [.ref inR, .int inS])), (inR, .inl (cAinR, inN, .inl inA))] s.heap.size) s.heap s.heap [] := va_S.rf
    have hkc := Nat.zero_add R.cells
    have hks := Nat.zero_add R.slots
    unfold f_FW_putEmptyFile at hf
    exact k_FW_putEmptyFile_0 C0 hST hA (fun pc ls {q1} {nA1} H locs hd hP hD hS hK => W.vret hx hb hr (fun t ht hW => ⟨⟨rfl, ⟨q1, nA1, by rw [ht]; exact hP, va_K.moved hW.alike hK, hD⟩⟩, hS.F ht⟩) hS.2.2 hd) hf hK hP hD hS hkc hks (lv_sub hl [0, 1] rfl))
-- ZoneFiles$FileWriting.putHeader(LZoneFiles$Bytes;LZoneFiles$Zone;I)V
def f_FW_putHeader_0 (nf : Nat) (zTic : Int32) (zTyc : Int32) (zLec : Int32) (zStc : Int32) (zUtc : Int32) (chS : Int32) (x2 : Int32) (w0_1 : Int32) (w1_n : Nat) (w1_a : Nat → Int32) : Option ((Int32 × Nat × (Nat → Int32)) × Nat × Nat) :=
  (f_FW_putHeaderStart nf x2 w0_1 w1_n w1_a).bind fun ((z_1, z_2, z_3), kc_6, ks_7) =>
  ad kc_6 ks_7 ((f_By_putNumber nf zUtc.toInt64 4 z_1 z_2 z_3).bind fun ((z_8, z_9, z_10), kc_13, ks_14) =>
  ad kc_13 ks_14 ((f_By_putNumber nf zStc.toInt64 4 z_8 z_9 z_10).bind fun ((z_15, z_16, z_17), kc_20, ks_21) =>
  ad kc_20 ks_21 ((f_By_putNumber nf zLec.toInt64 4 z_15 z_16 z_17).bind fun ((z_22, z_23, z_24), kc_27, ks_28) =>
  ad kc_27 ks_28 ((f_By_putNumber nf zTic.toInt64 4 z_22 z_23 z_24).bind fun ((z_29, z_30, z_31), kc_34, ks_35) =>
  ad kc_34 ks_35 ((f_By_putNumber nf zTyc.toInt64 4 z_29 z_30 z_31).bind fun ((z_36, z_37, z_38), kc_41, ks_42) =>
  ad kc_41 ks_42 ((f_By_putNumber nf chS.toInt64 4 z_36 z_37 z_38).bind fun ((z_43, z_44, z_45), kc_48, ks_49) =>
  ad kc_48 ks_49 (some ((z_43, z_44, z_45), 0, 0))))))))
def f_FW_putHeader (nf : Nat) (p1 : Int32) (inS : Int32) (inN : Nat) (inA : Nat → Int32) (zTic : Int32) (zTyc : Int32) (zLec : Int32) (zStc : Int32) (zUtc : Int32) (chS : Int32) : Option ((Int32 × Nat × (Nat → Int32)) × Nat × Nat) :=
  f_FW_putHeader_0 nf zTic zTyc zLec zStc zUtc chS p1 inS inN inA
section
variable {p : Program} {l : Launch} {e : Env} {R : Room} {s : State} {m : MethodId} {args : Array Value} {below : List Frame} {meth : Method} {c : Code} {Q : State → Prop} {dC : Nat → ClassId} {dI : Nat → Nat → Nat} {nf : Nat} {A : Nat → Prop}
variable {into : Nat} {zz : Nat} {inR : Nat} {zTi : Nat} {zTt : Nat} {zOf : Nat} {zDs : Nat} {zIx : Nat} {zSd : Nat} {zUt : Nat} {zCh : Nat} {zLt : Nat} {zLo : Nat} {zRu : Nat} {chR : Nat} {cAinR : ClassId} {inS : Int32} {inN : Nat} {inA : Nat → Int32} {zVer : Int32} {zTic : Int32} {zTyc : Int32} {zLec : Int32} {zStc : Int32} {zUtc : Int32} {chS : Int32} {v0_1 : Int32} {v1_n : Nat} {v1_a : Nat → Int32}
set_option maxHeartbeats 400000 in
set_option maxRecDepth 100000 in
theorem k_FW_putHeader_0 (C0 : Cx p s m meth c args R b_FW_putHeader "ZoneFiles$FileWriting" 3 none 5 106) (hST : ST A s s.heap) (hA : ∀ q, s.heap.size ≤ q → A q) (hE : ∀ (pc : Nat) (ls : Array Slot) {q1 : Nat} {nA1 : ClassId} (H : Heap) (locs : List Loc), decode b_FW_putHeader pc = .ok (.return_, 1) → va_P (dC, dI) classes [(into, .inr (0, [.ref q1, .int v0_1])), (q1, .inl (nA1, v1_n, .inl v1_a)), (zz, .inr (8, [.int zVer, .int zTic, .int zTyc, .int zLec, .int zStc, .int zUtc, .ref zTi, .ref zTt, .ref zOf, .ref zDs, .ref zIx, .ref zSd, .ref zUt, .ref zCh, .ref zLt, .ref zLo, .ref zRu])), (zCh, .inr (0, [.ref chR, .int chS]))] H → va_D A [(into, .inr (0, [.ref q1, .int v0_1])), (q1, .inl (nA1, v1_n, .inl v1_a)), (zz, .inr (8, [.int zVer, .int zTic, .int zTyc, .int zLec, .int zStc, .int zUtc, .ref zTi, .ref zTt, .ref zOf, .ref zDs, .ref zIx, .ref zSd, .ref zUt, .ref zCh, .ref zLt, .ref zLo, .ref zRu])), (zCh, .inr (0, [.ref chR, .int chS]))] → va_S A s.heap H locs → va_K (dC, dI) classes [(nA1, .byte)] s → W p l e R s m args below meth c H locs R.cells R.slots Q (F0 m pc ls [])) {x2 : Int32} {w0_1 : Int32} {w1_n : Nat} {w1_a : Nat → Int32} {kc ks : Nat} (hf : f_FW_putHeader_0 nf zTic zTyc zLec zStc zUtc chS x2 w0_1 w1_n w1_a = some ((v0_1, v1_n, v1_a), kc, ks)) {q1 : Nat} {nA1 : ClassId} {cells slots : Nat} {H : Heap} {locs : List Loc} {ls : Array Slot} (hK : va_K (dC, dI) classes [(nA1, .byte)] s) (hP : va_P (dC, dI) classes [(into, .inr (0, [.ref q1, .int w0_1])), (q1, .inl (nA1, w1_n, .inl w1_a)), (zz, .inr (8, [.int zVer, .int zTic, .int zTyc, .int zLec, .int zStc, .int zUtc, .ref zTi, .ref zTt, .ref zOf, .ref zDs, .ref zIx, .ref zSd, .ref zUt, .ref zCh, .ref zLt, .ref zLo, .ref zRu])), (zCh, .inr (0, [.ref chR, .int chS]))] H) (hD : va_D A [(into, .inr (0, [.ref q1, .int w0_1])), (q1, .inl (nA1, w1_n, .inl w1_a)), (zz, .inr (8, [.int zVer, .int zTic, .int zTyc, .int zLec, .int zStc, .int zUtc, .ref zTi, .ref zTt, .ref zOf, .ref zDs, .ref zIx, .ref zSd, .ref zUt, .ref zCh, .ref zLt, .ref zLo, .ref zRu])), (zCh, .inr (0, [.ref chR, .int chS]))]) (hS : va_S A s.heap H locs) (hkc : cells + kc = R.cells) (hks : slots + ks = R.slots) (hl : lv_has ls 3 [(0, .ref into), (1, .ref zz), (2, .int x2)]) : W p l e R s m args below meth c H locs cells slots Q (F0 m 0 ls []) := by
  obtain ⟨hx, hb, hr, hml, hown, hts, hlocks, hRf, hRl⟩ := id C0
  obtain ⟨tms, hZms, hTms, tmg, hZmg, hTmg, hNW⟩ := id hST
  unfold f_FW_putHeader_0 at hf
  refine lv_aload_n hx hb d_FW_putHeader_0 rfl (lv_at hl 0 rfl) ?_
  refine lv_iload_n hx hb d_FW_putHeader_1 rfl (lv_at hl 2 rfl) ?_
  obtain ⟨⟨⟨z_1, z_2, z_3⟩, kc_6, ks_7⟩, hc, hf⟩ := ob hf
  obtain ⟨kc, ks, hf, ekc, eks⟩ := oa hf
  have hPc := hP.sub (ws' := [(into, .inr (0, [.ref q1, .int w0_1])), (q1, .inl (nA1, w1_n, .inl w1_a))]) [0, 1] rfl
  have hDc := hD.sub (ws' := [(into, .inr (0, [.ref q1, .int w0_1])), (q1, .inl (nA1, w1_n, .inl w1_a))]) [0, 1] (by decide) rfl
  have hKc := hK.sub (tys' := [(nA1, .byte)]) [0] rfl
  have hFc := va_free (wc := [(into, .inr (0, [.ref q1, .int w0_1])), (q1, .inl (nA1, w1_n, .inl w1_a))]) hD hS hA [0, 1] rfl
  refine cl_M (v := none) (st1 := []) (va_runS (As := [.ref into, .int x2]) (rest := []) ⟨hx, hb, hml, hown, hts⟩ (c_FW_putHeaderStart l dC dI into q1 nA1 H.size nf x2 w0_1 w1_n w1_a hc) (va_cwS 2 hts (gdS m_6_27 m_6_28 m_1_22 m_6_29) rfl rfl rfl (by decide +kernel) ⟨Nat.le_trans (Nat.le_of_ble_eq_true rfl) hRf, Nat.le_trans (Nat.le_of_ble_eq_true rfl) hRl⟩) (MU.pre hPc hKc hDc (hST.mu hS hFc)).sta rfl rfl hl.1 rfl (lv_room (Nat.le_of_ble_eq_true rfl)) d_FW_putHeader_2 ⟨cb hkc ekc, cb hks eks⟩) rfl hS (fun q _ h => hFc q h) hFc (fun t H1 locs ht hvm hB hz1 hk1 hS => ?_)
  obtain ⟨q_4, cq_5, hP1, hK1, hD1⟩ := hB
  rw [ht] at hP1
  have hK1 := va_K.moved hvm.symm hK1
  obtain ⟨hP, hD⟩ := va_join (wr := [(zz, .inr (8, [.int zVer, .int zTic, .int zTyc, .int zLec, .int zStc, .int zUtc, .ref zTi, .ref zTt, .ref zOf, .ref zDs, .ref zIx, .ref zSd, .ref zUt, .ref zCh, .ref zLt, .ref zLo, .ref zRu])), (zCh, .inr (0, [.ref chR, .int chS]))]) (w1 := [(into, .inr (0, [.ref q_4, .int z_1])), (q_4, .inl (cq_5, z_2, .inl z_3))]) hP hD [0, 1] [2, 3] rfl rfl (by decide) (by decide) hk1 hFc hP1 hD1
  have hK := (hK.sub (tys' := []) [] rfl).app hK1
  generalize H1 = H at hP hS ⊢
  have hP := hP.sub (ws' := [(into, .inr (0, [.ref q_4, .int z_1])), (q_4, .inl (cq_5, z_2, .inl z_3)), (zz, .inr (8, [.int zVer, .int zTic, .int zTyc, .int zLec, .int zStc, .int zUtc, .ref zTi, .ref zTt, .ref zOf, .ref zDs, .ref zIx, .ref zSd, .ref zUt, .ref zCh, .ref zLt, .ref zLo, .ref zRu])), (zCh, .inr (0, [.ref chR, .int chS]))]) [2, 3, 0, 1] rfl
  have hD := hD.sub (ws' := [(into, .inr (0, [.ref q_4, .int z_1])), (q_4, .inl (cq_5, z_2, .inl z_3)), (zz, .inr (8, [.int zVer, .int zTic, .int zTyc, .int zLec, .int zStc, .int zUtc, .ref zTi, .ref zTt, .ref zOf, .ref zDs, .ref zIx, .ref zSd, .ref zUt, .ref zCh, .ref zLt, .ref zLo, .ref zRu])), (zCh, .inr (0, [.ref chR, .int chS]))]) [2, 3, 0, 1] (by decide) rfl
  have hK := hK.sub (tys' := [(cq_5, .byte)]) [0] rfl
  have hkc := ck hkc ekc
  have hks := ck hks eks
  generalize cells + kc_6 = cells at hkc ⊢
  generalize slots + ks_7 = slots at hks ⊢
  refine lv_aload_n hx hb d_FW_putHeader_5 rfl (lv_at hl 0 rfl) ?_
  refine lv_aload_n hx hb d_FW_putHeader_6 rfl (lv_at hl 1 rfl) ?_
  refine va_get (D := (dC, dI)) (ci := 8) (v := .int zUtc) (C := RZone) (T := TZone) (N := 17) hx hb hts in_Zone hown hK hP 2 rfl rfl 5 (by decide) (hts (.fieldLink "ZoneFiles$FileWriting" 65 "ZoneFiles$Zone" "utCount" "I") m_1_183) (fun _ h9 => h9) rfl d_FW_putHeader_7 ?_
  refine lv_i2l hx hb d_FW_putHeader_10 rfl ?_
  refine lv_iconst (v := 4) hx hb d_FW_putHeader_11 (by decide) ?_
  obtain ⟨⟨⟨z_8, z_9, z_10⟩, kc_13, ks_14⟩, hc, hf⟩ := ob hf
  obtain ⟨kc, ks, hf, ekc, eks⟩ := oa hf
  have hPc := hP.sub (ws' := [(into, .inr (0, [.ref q_4, .int z_1])), (q_4, .inl (cq_5, z_2, .inl z_3))]) [0, 1] rfl
  have hDc := hD.sub (ws' := [(into, .inr (0, [.ref q_4, .int z_1])), (q_4, .inl (cq_5, z_2, .inl z_3))]) [0, 1] (by decide) rfl
  have hKc := hK.sub (tys' := [(cq_5, .byte)]) [0] rfl
  have hFc := va_free (wc := [(into, .inr (0, [.ref q_4, .int z_1])), (q_4, .inl (cq_5, z_2, .inl z_3))]) hD hS hA [0, 1] rfl
  refine cl_M (v := none) (st1 := []) (va_runV (As := [.long zUtc.toInt64, .int 4]) (rest := []) ⟨hx, hb, hml, hown, hts⟩ (c_By_putNumber l dC dI into q_4 cq_5 H.size nf zUtc.toInt64 4 z_1 z_2 z_3 hc) (cwV 2 hts (gdV m_6_36 m_6_37 m_6_38 m_1_2 m_6_39) rfl rfl rfl (by decide +kernel) ⟨Nat.le_trans (Nat.le_of_ble_eq_true rfl) hRf, Nat.le_trans (Nat.le_of_ble_eq_true rfl) hRl⟩) ((MU.pre hPc hKc hDc (hST.mu hS hFc)).vir (va_recv hKc hPc (ci := 0) (q0 := 0) rfl rfl)) rfl rfl hl.1 rfl (lv_room (Nat.le_of_ble_eq_true rfl)) d_FW_putHeader_12 ⟨cb hkc ekc, cb hks eks⟩) rfl hS (fun q _ h => hFc q h) hFc (fun t H1 locs ht hvm hB hz1 hk1 hS => ?_)
  obtain ⟨q_11, cq_12, hP1, hK1, hD1⟩ := hB
  rw [ht] at hP1
  have hK1 := va_K.moved hvm.symm hK1
  obtain ⟨hP, hD⟩ := va_join (wr := [(zz, .inr (8, [.int zVer, .int zTic, .int zTyc, .int zLec, .int zStc, .int zUtc, .ref zTi, .ref zTt, .ref zOf, .ref zDs, .ref zIx, .ref zSd, .ref zUt, .ref zCh, .ref zLt, .ref zLo, .ref zRu])), (zCh, .inr (0, [.ref chR, .int chS]))]) (w1 := [(into, .inr (0, [.ref q_11, .int z_8])), (q_11, .inl (cq_12, z_9, .inl z_10))]) hP hD [0, 1] [2, 3] rfl rfl (by decide) (by decide) hk1 hFc hP1 hD1
  have hK := (hK.sub (tys' := []) [] rfl).app hK1
  generalize H1 = H at hP hS ⊢
  have hP := hP.sub (ws' := [(into, .inr (0, [.ref q_11, .int z_8])), (q_11, .inl (cq_12, z_9, .inl z_10)), (zz, .inr (8, [.int zVer, .int zTic, .int zTyc, .int zLec, .int zStc, .int zUtc, .ref zTi, .ref zTt, .ref zOf, .ref zDs, .ref zIx, .ref zSd, .ref zUt, .ref zCh, .ref zLt, .ref zLo, .ref zRu])), (zCh, .inr (0, [.ref chR, .int chS]))]) [2, 3, 0, 1] rfl
  have hD := hD.sub (ws' := [(into, .inr (0, [.ref q_11, .int z_8])), (q_11, .inl (cq_12, z_9, .inl z_10)), (zz, .inr (8, [.int zVer, .int zTic, .int zTyc, .int zLec, .int zStc, .int zUtc, .ref zTi, .ref zTt, .ref zOf, .ref zDs, .ref zIx, .ref zSd, .ref zUt, .ref zCh, .ref zLt, .ref zLo, .ref zRu])), (zCh, .inr (0, [.ref chR, .int chS]))]) [2, 3, 0, 1] (by decide) rfl
  have hK := hK.sub (tys' := [(cq_12, .byte)]) [0] rfl
  have hkc := ck hkc ekc
  have hks := ck hks eks
  generalize cells + kc_13 = cells at hkc ⊢
  generalize slots + ks_14 = slots at hks ⊢
  refine lv_aload_n hx hb d_FW_putHeader_15 rfl (lv_at hl 0 rfl) ?_
  refine lv_aload_n hx hb d_FW_putHeader_16 rfl (lv_at hl 1 rfl) ?_
  refine va_get (D := (dC, dI)) (ci := 8) (v := .int zStc) (C := RZone) (T := TZone) (N := 17) hx hb hts in_Zone hown hK hP 2 rfl rfl 4 (by decide) (hts (.fieldLink "ZoneFiles$FileWriting" 68 "ZoneFiles$Zone" "stdCount" "I") m_1_179) (fun _ h9 => h9) rfl d_FW_putHeader_17 ?_
  refine lv_i2l hx hb d_FW_putHeader_20 rfl ?_
  refine lv_iconst (v := 4) hx hb d_FW_putHeader_21 (by decide) ?_
  obtain ⟨⟨⟨z_15, z_16, z_17⟩, kc_20, ks_21⟩, hc, hf⟩ := ob hf
  obtain ⟨kc, ks, hf, ekc, eks⟩ := oa hf
  have hPc := hP.sub (ws' := [(into, .inr (0, [.ref q_11, .int z_8])), (q_11, .inl (cq_12, z_9, .inl z_10))]) [0, 1] rfl
  have hDc := hD.sub (ws' := [(into, .inr (0, [.ref q_11, .int z_8])), (q_11, .inl (cq_12, z_9, .inl z_10))]) [0, 1] (by decide) rfl
  have hKc := hK.sub (tys' := [(cq_12, .byte)]) [0] rfl
  have hFc := va_free (wc := [(into, .inr (0, [.ref q_11, .int z_8])), (q_11, .inl (cq_12, z_9, .inl z_10))]) hD hS hA [0, 1] rfl
  refine cl_M (v := none) (st1 := []) (va_runV (As := [.long zStc.toInt64, .int 4]) (rest := []) ⟨hx, hb, hml, hown, hts⟩ (c_By_putNumber l dC dI into q_11 cq_12 H.size nf zStc.toInt64 4 z_8 z_9 z_10 hc) (cwV 2 hts (gdV m_6_36 m_6_37 m_6_38 m_1_2 m_6_39) rfl rfl rfl (by decide +kernel) ⟨Nat.le_trans (Nat.le_of_ble_eq_true rfl) hRf, Nat.le_trans (Nat.le_of_ble_eq_true rfl) hRl⟩) ((MU.pre hPc hKc hDc (hST.mu hS hFc)).vir (va_recv hKc hPc (ci := 0) (q0 := 0) rfl rfl)) rfl rfl hl.1 rfl (lv_room (Nat.le_of_ble_eq_true rfl)) d_FW_putHeader_22 ⟨cb hkc ekc, cb hks eks⟩) rfl hS (fun q _ h => hFc q h) hFc (fun t H1 locs ht hvm hB hz1 hk1 hS => ?_)
  obtain ⟨q_18, cq_19, hP1, hK1, hD1⟩ := hB
  rw [ht] at hP1
  have hK1 := va_K.moved hvm.symm hK1
  obtain ⟨hP, hD⟩ := va_join (wr := [(zz, .inr (8, [.int zVer, .int zTic, .int zTyc, .int zLec, .int zStc, .int zUtc, .ref zTi, .ref zTt, .ref zOf, .ref zDs, .ref zIx, .ref zSd, .ref zUt, .ref zCh, .ref zLt, .ref zLo, .ref zRu])), (zCh, .inr (0, [.ref chR, .int chS]))]) (w1 := [(into, .inr (0, [.ref q_18, .int z_15])), (q_18, .inl (cq_19, z_16, .inl z_17))]) hP hD [0, 1] [2, 3] rfl rfl (by decide) (by decide) hk1 hFc hP1 hD1
  have hK := (hK.sub (tys' := []) [] rfl).app hK1
  generalize H1 = H at hP hS ⊢
  have hP := hP.sub (ws' := [(into, .inr (0, [.ref q_18, .int z_15])), (q_18, .inl (cq_19, z_16, .inl z_17)), (zz, .inr (8, [.int zVer, .int zTic, .int zTyc, .int zLec, .int zStc, .int zUtc, .ref zTi, .ref zTt, .ref zOf, .ref zDs, .ref zIx, .ref zSd, .ref zUt, .ref zCh, .ref zLt, .ref zLo, .ref zRu])), (zCh, .inr (0, [.ref chR, .int chS]))]) [2, 3, 0, 1] rfl
  have hD := hD.sub (ws' := [(into, .inr (0, [.ref q_18, .int z_15])), (q_18, .inl (cq_19, z_16, .inl z_17)), (zz, .inr (8, [.int zVer, .int zTic, .int zTyc, .int zLec, .int zStc, .int zUtc, .ref zTi, .ref zTt, .ref zOf, .ref zDs, .ref zIx, .ref zSd, .ref zUt, .ref zCh, .ref zLt, .ref zLo, .ref zRu])), (zCh, .inr (0, [.ref chR, .int chS]))]) [2, 3, 0, 1] (by decide) rfl
  have hK := hK.sub (tys' := [(cq_19, .byte)]) [0] rfl
  have hkc := ck hkc ekc
  have hks := ck hks eks
  generalize cells + kc_20 = cells at hkc ⊢
  generalize slots + ks_21 = slots at hks ⊢
  refine lv_aload_n hx hb d_FW_putHeader_25 rfl (lv_at hl 0 rfl) ?_
  refine lv_aload_n hx hb d_FW_putHeader_26 rfl (lv_at hl 1 rfl) ?_
  refine va_get (D := (dC, dI)) (ci := 8) (v := .int zLec) (C := RZone) (T := TZone) (N := 17) hx hb hts in_Zone hown hK hP 2 rfl rfl 3 (by decide) (hts (.fieldLink "ZoneFiles$FileWriting" 71 "ZoneFiles$Zone" "leapCount" "I") m_1_175) (fun _ h9 => h9) rfl d_FW_putHeader_27 ?_
  refine lv_i2l hx hb d_FW_putHeader_30 rfl ?_
  refine lv_iconst (v := 4) hx hb d_FW_putHeader_31 (by decide) ?_
  obtain ⟨⟨⟨z_22, z_23, z_24⟩, kc_27, ks_28⟩, hc, hf⟩ := ob hf
  obtain ⟨kc, ks, hf, ekc, eks⟩ := oa hf
  have hPc := hP.sub (ws' := [(into, .inr (0, [.ref q_18, .int z_15])), (q_18, .inl (cq_19, z_16, .inl z_17))]) [0, 1] rfl
  have hDc := hD.sub (ws' := [(into, .inr (0, [.ref q_18, .int z_15])), (q_18, .inl (cq_19, z_16, .inl z_17))]) [0, 1] (by decide) rfl
  have hKc := hK.sub (tys' := [(cq_19, .byte)]) [0] rfl
  have hFc := va_free (wc := [(into, .inr (0, [.ref q_18, .int z_15])), (q_18, .inl (cq_19, z_16, .inl z_17))]) hD hS hA [0, 1] rfl
  refine cl_M (v := none) (st1 := []) (va_runV (As := [.long zLec.toInt64, .int 4]) (rest := []) ⟨hx, hb, hml, hown, hts⟩ (c_By_putNumber l dC dI into q_18 cq_19 H.size nf zLec.toInt64 4 z_15 z_16 z_17 hc) (cwV 2 hts (gdV m_6_36 m_6_37 m_6_38 m_1_2 m_6_39) rfl rfl rfl (by decide +kernel) ⟨Nat.le_trans (Nat.le_of_ble_eq_true rfl) hRf, Nat.le_trans (Nat.le_of_ble_eq_true rfl) hRl⟩) ((MU.pre hPc hKc hDc (hST.mu hS hFc)).vir (va_recv hKc hPc (ci := 0) (q0 := 0) rfl rfl)) rfl rfl hl.1 rfl (lv_room (Nat.le_of_ble_eq_true rfl)) d_FW_putHeader_32 ⟨cb hkc ekc, cb hks eks⟩) rfl hS (fun q _ h => hFc q h) hFc (fun t H1 locs ht hvm hB hz1 hk1 hS => ?_)
  obtain ⟨q_25, cq_26, hP1, hK1, hD1⟩ := hB
  rw [ht] at hP1
  have hK1 := va_K.moved hvm.symm hK1
  obtain ⟨hP, hD⟩ := va_join (wr := [(zz, .inr (8, [.int zVer, .int zTic, .int zTyc, .int zLec, .int zStc, .int zUtc, .ref zTi, .ref zTt, .ref zOf, .ref zDs, .ref zIx, .ref zSd, .ref zUt, .ref zCh, .ref zLt, .ref zLo, .ref zRu])), (zCh, .inr (0, [.ref chR, .int chS]))]) (w1 := [(into, .inr (0, [.ref q_25, .int z_22])), (q_25, .inl (cq_26, z_23, .inl z_24))]) hP hD [0, 1] [2, 3] rfl rfl (by decide) (by decide) hk1 hFc hP1 hD1
  have hK := (hK.sub (tys' := []) [] rfl).app hK1
  generalize H1 = H at hP hS ⊢
  have hP := hP.sub (ws' := [(into, .inr (0, [.ref q_25, .int z_22])), (q_25, .inl (cq_26, z_23, .inl z_24)), (zz, .inr (8, [.int zVer, .int zTic, .int zTyc, .int zLec, .int zStc, .int zUtc, .ref zTi, .ref zTt, .ref zOf, .ref zDs, .ref zIx, .ref zSd, .ref zUt, .ref zCh, .ref zLt, .ref zLo, .ref zRu])), (zCh, .inr (0, [.ref chR, .int chS]))]) [2, 3, 0, 1] rfl
  have hD := hD.sub (ws' := [(into, .inr (0, [.ref q_25, .int z_22])), (q_25, .inl (cq_26, z_23, .inl z_24)), (zz, .inr (8, [.int zVer, .int zTic, .int zTyc, .int zLec, .int zStc, .int zUtc, .ref zTi, .ref zTt, .ref zOf, .ref zDs, .ref zIx, .ref zSd, .ref zUt, .ref zCh, .ref zLt, .ref zLo, .ref zRu])), (zCh, .inr (0, [.ref chR, .int chS]))]) [2, 3, 0, 1] (by decide) rfl
  have hK := hK.sub (tys' := [(cq_26, .byte)]) [0] rfl
  have hkc := ck hkc ekc
  have hks := ck hks eks
  generalize cells + kc_27 = cells at hkc ⊢
  generalize slots + ks_28 = slots at hks ⊢
  refine lv_aload_n hx hb d_FW_putHeader_35 rfl (lv_at hl 0 rfl) ?_
  refine lv_aload_n hx hb d_FW_putHeader_36 rfl (lv_at hl 1 rfl) ?_
  refine va_get (D := (dC, dI)) (ci := 8) (v := .int zTic) (C := RZone) (T := TZone) (N := 17) hx hb hts in_Zone hown hK hP 2 rfl rfl 1 (by decide) (hts (.fieldLink "ZoneFiles$FileWriting" 74 "ZoneFiles$Zone" "timeCount" "I") m_1_168) (fun _ h9 => h9) rfl d_FW_putHeader_37 ?_
  refine lv_i2l hx hb d_FW_putHeader_40 rfl ?_
  refine lv_iconst (v := 4) hx hb d_FW_putHeader_41 (by decide) ?_
  obtain ⟨⟨⟨z_29, z_30, z_31⟩, kc_34, ks_35⟩, hc, hf⟩ := ob hf
  obtain ⟨kc, ks, hf, ekc, eks⟩ := oa hf
  have hPc := hP.sub (ws' := [(into, .inr (0, [.ref q_25, .int z_22])), (q_25, .inl (cq_26, z_23, .inl z_24))]) [0, 1] rfl
  have hDc := hD.sub (ws' := [(into, .inr (0, [.ref q_25, .int z_22])), (q_25, .inl (cq_26, z_23, .inl z_24))]) [0, 1] (by decide) rfl
  have hKc := hK.sub (tys' := [(cq_26, .byte)]) [0] rfl
  have hFc := va_free (wc := [(into, .inr (0, [.ref q_25, .int z_22])), (q_25, .inl (cq_26, z_23, .inl z_24))]) hD hS hA [0, 1] rfl
  refine cl_M (v := none) (st1 := []) (va_runV (As := [.long zTic.toInt64, .int 4]) (rest := []) ⟨hx, hb, hml, hown, hts⟩ (c_By_putNumber l dC dI into q_25 cq_26 H.size nf zTic.toInt64 4 z_22 z_23 z_24 hc) (cwV 2 hts (gdV m_6_36 m_6_37 m_6_38 m_1_2 m_6_39) rfl rfl rfl (by decide +kernel) ⟨Nat.le_trans (Nat.le_of_ble_eq_true rfl) hRf, Nat.le_trans (Nat.le_of_ble_eq_true rfl) hRl⟩) ((MU.pre hPc hKc hDc (hST.mu hS hFc)).vir (va_recv hKc hPc (ci := 0) (q0 := 0) rfl rfl)) rfl rfl hl.1 rfl (lv_room (Nat.le_of_ble_eq_true rfl)) d_FW_putHeader_42 ⟨cb hkc ekc, cb hks eks⟩) rfl hS (fun q _ h => hFc q h) hFc (fun t H1 locs ht hvm hB hz1 hk1 hS => ?_)
  obtain ⟨q_32, cq_33, hP1, hK1, hD1⟩ := hB
  rw [ht] at hP1
  have hK1 := va_K.moved hvm.symm hK1
  obtain ⟨hP, hD⟩ := va_join (wr := [(zz, .inr (8, [.int zVer, .int zTic, .int zTyc, .int zLec, .int zStc, .int zUtc, .ref zTi, .ref zTt, .ref zOf, .ref zDs, .ref zIx, .ref zSd, .ref zUt, .ref zCh, .ref zLt, .ref zLo, .ref zRu])), (zCh, .inr (0, [.ref chR, .int chS]))]) (w1 := [(into, .inr (0, [.ref q_32, .int z_29])), (q_32, .inl (cq_33, z_30, .inl z_31))]) hP hD [0, 1] [2, 3] rfl rfl (by decide) (by decide) hk1 hFc hP1 hD1
  have hK := (hK.sub (tys' := []) [] rfl).app hK1
  generalize H1 = H at hP hS ⊢
  have hP := hP.sub (ws' := [(into, .inr (0, [.ref q_32, .int z_29])), (q_32, .inl (cq_33, z_30, .inl z_31)), (zz, .inr (8, [.int zVer, .int zTic, .int zTyc, .int zLec, .int zStc, .int zUtc, .ref zTi, .ref zTt, .ref zOf, .ref zDs, .ref zIx, .ref zSd, .ref zUt, .ref zCh, .ref zLt, .ref zLo, .ref zRu])), (zCh, .inr (0, [.ref chR, .int chS]))]) [2, 3, 0, 1] rfl
  have hD := hD.sub (ws' := [(into, .inr (0, [.ref q_32, .int z_29])), (q_32, .inl (cq_33, z_30, .inl z_31)), (zz, .inr (8, [.int zVer, .int zTic, .int zTyc, .int zLec, .int zStc, .int zUtc, .ref zTi, .ref zTt, .ref zOf, .ref zDs, .ref zIx, .ref zSd, .ref zUt, .ref zCh, .ref zLt, .ref zLo, .ref zRu])), (zCh, .inr (0, [.ref chR, .int chS]))]) [2, 3, 0, 1] (by decide) rfl
  have hK := hK.sub (tys' := [(cq_33, .byte)]) [0] rfl
  have hkc := ck hkc ekc
  have hks := ck hks eks
  generalize cells + kc_34 = cells at hkc ⊢
  generalize slots + ks_35 = slots at hks ⊢
  refine lv_aload_n hx hb d_FW_putHeader_45 rfl (lv_at hl 0 rfl) ?_
  refine lv_aload_n hx hb d_FW_putHeader_46 rfl (lv_at hl 1 rfl) ?_
  refine va_get (D := (dC, dI)) (ci := 8) (v := .int zTyc) (C := RZone) (T := TZone) (N := 17) hx hb hts in_Zone hown hK hP 2 rfl rfl 2 (by decide) (hts (.fieldLink "ZoneFiles$FileWriting" 77 "ZoneFiles$Zone" "typeCount" "I") m_1_171) (fun _ h9 => h9) rfl d_FW_putHeader_47 ?_
  refine lv_i2l hx hb d_FW_putHeader_50 rfl ?_
  refine lv_iconst (v := 4) hx hb d_FW_putHeader_51 (by decide) ?_
  obtain ⟨⟨⟨z_36, z_37, z_38⟩, kc_41, ks_42⟩, hc, hf⟩ := ob hf
  obtain ⟨kc, ks, hf, ekc, eks⟩ := oa hf
  have hPc := hP.sub (ws' := [(into, .inr (0, [.ref q_32, .int z_29])), (q_32, .inl (cq_33, z_30, .inl z_31))]) [0, 1] rfl
  have hDc := hD.sub (ws' := [(into, .inr (0, [.ref q_32, .int z_29])), (q_32, .inl (cq_33, z_30, .inl z_31))]) [0, 1] (by decide) rfl
  have hKc := hK.sub (tys' := [(cq_33, .byte)]) [0] rfl
  have hFc := va_free (wc := [(into, .inr (0, [.ref q_32, .int z_29])), (q_32, .inl (cq_33, z_30, .inl z_31))]) hD hS hA [0, 1] rfl
  refine cl_M (v := none) (st1 := []) (va_runV (As := [.long zTyc.toInt64, .int 4]) (rest := []) ⟨hx, hb, hml, hown, hts⟩ (c_By_putNumber l dC dI into q_32 cq_33 H.size nf zTyc.toInt64 4 z_29 z_30 z_31 hc) (cwV 2 hts (gdV m_6_36 m_6_37 m_6_38 m_1_2 m_6_39) rfl rfl rfl (by decide +kernel) ⟨Nat.le_trans (Nat.le_of_ble_eq_true rfl) hRf, Nat.le_trans (Nat.le_of_ble_eq_true rfl) hRl⟩) ((MU.pre hPc hKc hDc (hST.mu hS hFc)).vir (va_recv hKc hPc (ci := 0) (q0 := 0) rfl rfl)) rfl rfl hl.1 rfl (lv_room (Nat.le_of_ble_eq_true rfl)) d_FW_putHeader_52 ⟨cb hkc ekc, cb hks eks⟩) rfl hS (fun q _ h => hFc q h) hFc (fun t H1 locs ht hvm hB hz1 hk1 hS => ?_)
  obtain ⟨q_39, cq_40, hP1, hK1, hD1⟩ := hB
  rw [ht] at hP1
  have hK1 := va_K.moved hvm.symm hK1
  obtain ⟨hP, hD⟩ := va_join (wr := [(zz, .inr (8, [.int zVer, .int zTic, .int zTyc, .int zLec, .int zStc, .int zUtc, .ref zTi, .ref zTt, .ref zOf, .ref zDs, .ref zIx, .ref zSd, .ref zUt, .ref zCh, .ref zLt, .ref zLo, .ref zRu])), (zCh, .inr (0, [.ref chR, .int chS]))]) (w1 := [(into, .inr (0, [.ref q_39, .int z_36])), (q_39, .inl (cq_40, z_37, .inl z_38))]) hP hD [0, 1] [2, 3] rfl rfl (by decide) (by decide) hk1 hFc hP1 hD1
  have hK := (hK.sub (tys' := []) [] rfl).app hK1
  generalize H1 = H at hP hS ⊢
  have hP := hP.sub (ws' := [(into, .inr (0, [.ref q_39, .int z_36])), (q_39, .inl (cq_40, z_37, .inl z_38)), (zz, .inr (8, [.int zVer, .int zTic, .int zTyc, .int zLec, .int zStc, .int zUtc, .ref zTi, .ref zTt, .ref zOf, .ref zDs, .ref zIx, .ref zSd, .ref zUt, .ref zCh, .ref zLt, .ref zLo, .ref zRu])), (zCh, .inr (0, [.ref chR, .int chS]))]) [2, 3, 0, 1] rfl
  have hD := hD.sub (ws' := [(into, .inr (0, [.ref q_39, .int z_36])), (q_39, .inl (cq_40, z_37, .inl z_38)), (zz, .inr (8, [.int zVer, .int zTic, .int zTyc, .int zLec, .int zStc, .int zUtc, .ref zTi, .ref zTt, .ref zOf, .ref zDs, .ref zIx, .ref zSd, .ref zUt, .ref zCh, .ref zLt, .ref zLo, .ref zRu])), (zCh, .inr (0, [.ref chR, .int chS]))]) [2, 3, 0, 1] (by decide) rfl
  have hK := hK.sub (tys' := [(cq_40, .byte)]) [0] rfl
  have hkc := ck hkc ekc
  have hks := ck hks eks
  generalize cells + kc_41 = cells at hkc ⊢
  generalize slots + ks_42 = slots at hks ⊢
  refine lv_aload_n hx hb d_FW_putHeader_55 rfl (lv_at hl 0 rfl) ?_
  refine lv_aload_n hx hb d_FW_putHeader_56 rfl (lv_at hl 1 rfl) ?_
  refine va_get (D := (dC, dI)) (ci := 8) (v := .ref zCh) (C := RZone) (T := TZone) (N := 17) hx hb hts in_Zone hown hK hP 2 rfl rfl 13 (by decide) (hts (.fieldLink "ZoneFiles$FileWriting" 80 "ZoneFiles$Zone" "chars" "LZoneFiles$Bytes;") m_1_215) (fun _ h9 => h9) rfl d_FW_putHeader_57 ?_
  refine va_get (D := (dC, dI)) (ci := 0) (v := .int chS) (C := RBytes) (T := TBytes) (N := 2) hx hb hts in_Bytes hown hK hP 3 rfl rfl 1 (by decide) (hts (.fieldLink "ZoneFiles$FileWriting" 43 "ZoneFiles$Bytes" "size" "I") m_1_41) (fun _ h9 => h9) rfl d_FW_putHeader_60 ?_
  refine lv_i2l hx hb d_FW_putHeader_63 rfl ?_
  refine lv_iconst (v := 4) hx hb d_FW_putHeader_64 (by decide) ?_
  obtain ⟨⟨⟨z_43, z_44, z_45⟩, kc_48, ks_49⟩, hc, hf⟩ := ob hf
  obtain ⟨kc, ks, hf, ekc, eks⟩ := oa hf
  have hPc := hP.sub (ws' := [(into, .inr (0, [.ref q_39, .int z_36])), (q_39, .inl (cq_40, z_37, .inl z_38))]) [0, 1] rfl
  have hDc := hD.sub (ws' := [(into, .inr (0, [.ref q_39, .int z_36])), (q_39, .inl (cq_40, z_37, .inl z_38))]) [0, 1] (by decide) rfl
  have hKc := hK.sub (tys' := [(cq_40, .byte)]) [0] rfl
  have hFc := va_free (wc := [(into, .inr (0, [.ref q_39, .int z_36])), (q_39, .inl (cq_40, z_37, .inl z_38))]) hD hS hA [0, 1] rfl
  refine cl_M (v := none) (st1 := []) (va_runV (As := [.long chS.toInt64, .int 4]) (rest := []) ⟨hx, hb, hml, hown, hts⟩ (c_By_putNumber l dC dI into q_39 cq_40 H.size nf chS.toInt64 4 z_36 z_37 z_38 hc) (cwV 2 hts (gdV m_6_36 m_6_37 m_6_38 m_1_2 m_6_39) rfl rfl rfl (by decide +kernel) ⟨Nat.le_trans (Nat.le_of_ble_eq_true rfl) hRf, Nat.le_trans (Nat.le_of_ble_eq_true rfl) hRl⟩) ((MU.pre hPc hKc hDc (hST.mu hS hFc)).vir (va_recv hKc hPc (ci := 0) (q0 := 0) rfl rfl)) rfl rfl hl.1 rfl (lv_room (Nat.le_of_ble_eq_true rfl)) d_FW_putHeader_65 ⟨cb hkc ekc, cb hks eks⟩) rfl hS (fun q _ h => hFc q h) hFc (fun t H1 locs ht hvm hB hz1 hk1 hS => ?_)
  obtain ⟨q_46, cq_47, hP1, hK1, hD1⟩ := hB
  rw [ht] at hP1
  have hK1 := va_K.moved hvm.symm hK1
  obtain ⟨hP, hD⟩ := va_join (wr := [(zz, .inr (8, [.int zVer, .int zTic, .int zTyc, .int zLec, .int zStc, .int zUtc, .ref zTi, .ref zTt, .ref zOf, .ref zDs, .ref zIx, .ref zSd, .ref zUt, .ref zCh, .ref zLt, .ref zLo, .ref zRu])), (zCh, .inr (0, [.ref chR, .int chS]))]) (w1 := [(into, .inr (0, [.ref q_46, .int z_43])), (q_46, .inl (cq_47, z_44, .inl z_45))]) hP hD [0, 1] [2, 3] rfl rfl (by decide) (by decide) hk1 hFc hP1 hD1
  have hK := (hK.sub (tys' := []) [] rfl).app hK1
  generalize H1 = H at hP hS ⊢
  have hP := hP.sub (ws' := [(into, .inr (0, [.ref q_46, .int z_43])), (q_46, .inl (cq_47, z_44, .inl z_45)), (zz, .inr (8, [.int zVer, .int zTic, .int zTyc, .int zLec, .int zStc, .int zUtc, .ref zTi, .ref zTt, .ref zOf, .ref zDs, .ref zIx, .ref zSd, .ref zUt, .ref zCh, .ref zLt, .ref zLo, .ref zRu])), (zCh, .inr (0, [.ref chR, .int chS]))]) [2, 3, 0, 1] rfl
  have hD := hD.sub (ws' := [(into, .inr (0, [.ref q_46, .int z_43])), (q_46, .inl (cq_47, z_44, .inl z_45)), (zz, .inr (8, [.int zVer, .int zTic, .int zTyc, .int zLec, .int zStc, .int zUtc, .ref zTi, .ref zTt, .ref zOf, .ref zDs, .ref zIx, .ref zSd, .ref zUt, .ref zCh, .ref zLt, .ref zLo, .ref zRu])), (zCh, .inr (0, [.ref chR, .int chS]))]) [2, 3, 0, 1] (by decide) rfl
  have hK := hK.sub (tys' := [(cq_47, .byte)]) [0] rfl
  have hkc := ck hkc ekc
  have hks := ck hks eks
  generalize cells + kc_48 = cells at hkc ⊢
  generalize slots + ks_49 = slots at hks ⊢
  cases rs hf
  have hkc : cells = R.cells := hkc
  have hks : slots = R.slots := hks
  subst hkc; subst hks
  exact hE _ _ _ _ d_FW_putHeader_68 hP hD hS hK
end
set_option maxHeartbeats 400000 in
set_option maxRecDepth 100000 in
theorem c_FW_putHeader (l : Launch) (dC : Nat → ClassId) (dI : Nat → Nat → Nat) (into : Nat) (zz : Nat) (inR : Nat) (zTi : Nat) (zTt : Nat) (zOf : Nat) (zDs : Nat) (zIx : Nat) (zSd : Nat) (zUt : Nat) (zCh : Nat) (zLt : Nat) (zLo : Nat) (zRu : Nat) (chR : Nat) (cAinR : ClassId) (sz : Nat) (nf : Nat) (p1 : Int32) (inS : Int32) (inN : Nat) (inA : Nat → Int32) (zVer : Int32) (zTic : Int32) (zTyc : Int32) (zLec : Int32) (zStc : Int32) (zUtc : Int32) (chS : Int32) {v0_1 : Int32} {v1_n : Nat} {v1_a : Nat → Int32} {kc ks : Nat} (hf : f_FW_putHeader nf p1 inS inN inA zTic zTyc zLec zStc zUtc chS = some ((v0_1, v1_n, v1_a), kc, ks)) : Met l y_FW_putHeader (wd y_FW_putHeader b_FW_putHeader 3 none) ({ frames := 5, cells := kc, slots := ks, locals := 106 }) (MU dC dI [(into, .inr (0, [.ref inR, .int inS])), (inR, .inl (cAinR, inN, .inl inA)), (zz, .inr (8, [.int zVer, .int zTic, .int zTyc, .int zLec, .int zStc, .int zUtc, .ref zTi, .ref zTt, .ref zOf, .ref zDs, .ref zIx, .ref zSd, .ref zUt, .ref zCh, .ref zLt, .ref zLo, .ref zRu])), (zCh, .inr (0, [.ref chR, .int chS]))] [(cAinR, .byte)] sz [.ref into, .ref zz, .int p1]) (MV none (fun t => ∃ (q1 : Nat) (nA1 : ClassId), va_P (dC, dI) classes [(into, .inr (0, [.ref q1, .int v0_1])), (q1, .inl (nA1, v1_n, .inl v1_a)), (zz, .inr (8, [.int zVer, .int zTic, .int zTyc, .int zLec, .int zStc, .int zUtc, .ref zTi, .ref zTt, .ref zOf, .ref zDs, .ref zIx, .ref zSd, .ref zUt, .ref zCh, .ref zLt, .ref zLo, .ref zRu])), (zCh, .inr (0, [.ref chR, .int chS]))] t.heap ∧ va_K (dC, dI) classes [(nA1, .byte)] t ∧ va_D (va_A [(into, .inr (0, [.ref inR, .int inS])), (inR, .inl (cAinR, inN, .inl inA)), (zz, .inr (8, [.int zVer, .int zTic, .int zTyc, .int zLec, .int zStc, .int zUtc, .ref zTi, .ref zTt, .ref zOf, .ref zDs, .ref zIx, .ref zSd, .ref zUt, .ref zCh, .ref zLt, .ref zLo, .ref zRu])), (zCh, .inr (0, [.ref chR, .int chS]))] sz) [(into, .inr (0, [.ref q1, .int v0_1])), (q1, .inl (nA1, v1_n, .inl v1_a)), (zz, .inr (8, [.int zVer, .int zTic, .int zTyc, .int zLec, .int zStc, .int zUtc, .ref zTi, .ref zTt, .ref zOf, .ref zDs, .ref zIx, .ref zSd, .ref zUt, .ref zCh, .ref zLt, .ref zLo, .ref zRu])), (zCh, .inr (0, [.ref chR, .int chS]))]) (va_A [(into, .inr (0, [.ref inR, .int inS])), (inR, .inl (cAinR, inN, .inl inA)), (zz, .inr (8, [.int zVer, .int zTic, .int zTyc, .int zLec, .int zStc, .int zUtc, .ref zTi, .ref zTt, .ref zOf, .ref zDs, .ref zIx, .ref zSd, .ref zUt, .ref zCh, .ref zLt, .ref zLo, .ref zRu])), (zCh, .inr (0, [.ref chR, .int chS]))] sz)) kc ks (va_A [(into, .inr (0, [.ref inR, .int inS])), (inR, .inl (cAinR, inN, .inl inA)), (zz, .inr (8, [.int zVer, .int zTic, .int zTyc, .int zLec, .int zStc, .int zUtc, .ref zTi, .ref zTt, .ref zOf, .ref zDs, .ref zIx, .ref zSd, .ref zUt, .ref zCh, .ref zLt, .ref zLo, .ref zRu])), (zCh, .inr (0, [.ref chR, .int chS]))] sz) :=
  met_M (plainFor_of_name (by decide)) (Nat.le_of_ble_eq_true rfl) (fun p e R s m args below meth c ls hRc hRs hsz hin C0 hST hK hP hD hl => by
    obtain ⟨hx, hb, hr, hml, hown, hts, hlocks, hRf, hRl⟩ := id C0
    subst hRc; subst hRs
    subst hsz
    have hA : ∀ q : Nat, s.heap.size ≤ q → va_A [(into, .inr (0, [.ref inR, .int inS])), (inR, .inl (cAinR, inN, .inl inA)), (zz, .inr (8, [.int zVer, .int zTic, .int zTyc, .int zLec, .int zStc, .int zUtc, .ref zTi, .ref zTt, .ref zOf, .ref zDs, .ref zIx, .ref zSd, .ref zUt, .ref zCh, .ref zLt, .ref zLo, .ref zRu])), (zCh, .inr (0, [.ref chR, .int chS]))] s.heap.size q := fun q h => Or.inr h
    have hS : va_S (va_A [(into, .inr (0, [.ref inR, .int inS])), (inR, .inl (cAinR, inN, .inl inA)), (zz, .inr (8, [.int zVer, .int zTic, .int zTyc, .int zLec, .int zStc, .int zUtc, .ref zTi, .ref zTt, .ref zOf, .ref zDs, .ref zIx, .ref zSd, .ref zUt, .ref zCh, .ref zLt, .ref zLo, .ref zRu])), (zCh, .inr (0, [.ref chR, .int chS]))] s.heap.size) s.heap s.heap [] := va_S.rf
    have hkc := Nat.zero_add R.cells
    have hks := Nat.zero_add R.slots
    unfold f_FW_putHeader at hf
    exact k_FW_putHeader_0 C0 hST hA (fun pc ls {q1} {nA1} H locs hd hP hD hS hK => W.vret hx hb hr (fun t ht hW => ⟨⟨rfl, ⟨q1, nA1, by rw [ht]; exact hP, va_K.moved hW.alike hK, hD⟩⟩, hS.F ht⟩) hS.2.2 hd) hf hK hP hD hS hkc hks (lv_sub hl [0, 1, 2] rfl))
-- ZoneFiles$FileWriting.putBlock(LZoneFiles$Bytes;LZoneFiles$Zone;I)V
def f_FW_putBlock_184 (nf : Nat) (zUtc : Int32) (zUtA : Nat → Int32) : Nat → Int32 → Int32 → Nat → (Nat → Int32) → Option ((Int32 × Nat × (Nat → Int32)) × Nat × Nat)
  | 0, _, _, _, _ => none
  | n + 1, x3, w0_1, w1_n, w1_a =>
    if zUtc ≤ x3 then
    some ((w0_1, w1_n, w1_a), 0, 0)
    else
    if x3 < 0 ∨ 40 ≤ x3.toNatClampNeg then none else
      (f_By_put nf (zUtA x3.toNatClampNeg) w0_1 w1_n w1_a).bind fun ((z_17, z_18, z_19), kc_22, ks_23) =>
      ad kc_22 ks_23 (f_FW_putBlock_184 nf zUtc zUtA n (x3 + 1) z_17 z_18 z_19)
def f_FW_putBlock_158 (nf : Nat) (zStc : Int32) (zUtc : Int32) (zSdA : Nat → Int32) (zUtA : Nat → Int32) : Nat → Int32 → Int32 → Nat → (Nat → Int32) → Option ((Int32 × Nat × (Nat → Int32)) × Nat × Nat)
  | 0, _, _, _, _ => none
  | n + 1, x3, w0_1, w1_n, w1_a =>
    if zStc ≤ x3 then
    f_FW_putBlock_184 nf zUtc zUtA nf 0 w0_1 w1_n w1_a
    else
    if x3 < 0 ∨ 40 ≤ x3.toNatClampNeg then none else
      (f_By_put nf (zSdA x3.toNatClampNeg) w0_1 w1_n w1_a).bind fun ((z_25, z_26, z_27), kc_30, ks_31) =>
      ad kc_30 ks_31 (f_FW_putBlock_158 nf zStc zUtc zSdA zUtA n (x3 + 1) z_25 z_26 z_27)
def f_FW_putBlock_119 (nf : Nat) (zLec : Int32) (zStc : Int32) (zUtc : Int32) (zSdA : Nat → Int32) (zUtA : Nat → Int32) (zLtA : Nat → Int64) (zLoA : Nat → Int32) : Nat → Int32 → Int32 → Int32 → Nat → (Nat → Int32) → Option ((Int32 × Nat × (Nat → Int32)) × Nat × Nat)
  | 0, _, _, _, _, _ => none
  | n + 1, x3, x2, w0_1, w1_n, w1_a =>
    if zLec ≤ x3 then
    f_FW_putBlock_158 nf zStc zUtc zSdA zUtA nf 0 w0_1 w1_n w1_a
    else
    if x3 < 0 ∨ 40 ≤ x3.toNatClampNeg then none else
      (f_By_putNumber nf (zLtA x3.toNatClampNeg) x2 w0_1 w1_n w1_a).bind fun ((z_33, z_34, z_35), kc_38, ks_39) =>
      ad kc_38 ks_39 (if x3 < 0 ∨ 40 ≤ x3.toNatClampNeg then none else
      (f_By_putNumber nf ((zLoA x3.toNatClampNeg).toInt64) 4 z_33 z_34 z_35).bind fun ((z_41, z_42, z_43), kc_46, ks_47) =>
      ad kc_46 ks_47 (f_FW_putBlock_119 nf zLec zStc zUtc zSdA zUtA zLtA zLoA n (x3 + 1) x2 z_41 z_42 z_43))
def f_FW_putBlock_55 (nf : Nat) (zTyc : Int32) (zLec : Int32) (zStc : Int32) (zUtc : Int32) (zOfA : Nat → Int32) (zDsA : Nat → Int32) (zIxA : Nat → Int32) (zSdA : Nat → Int32) (zUtA : Nat → Int32) (chS : Int32) (chN : Nat) (chA : Nat → Int32) (zLtA : Nat → Int64) (zLoA : Nat → Int32) : Nat → Int32 → Int32 → Int32 → Nat → (Nat → Int32) → Option ((Int32 × Nat × (Nat → Int32)) × Nat × Nat)
  | 0, _, _, _, _, _ => none
  | n + 1, x3, x2, w0_1, w1_n, w1_a =>
    if zTyc ≤ x3 then
    (f_By_putAll nf 0 chS w0_1 w1_n w1_a chS chN chA).bind fun ((z_4, z_5, z_6), kc_11, ks_12) =>
      ad kc_11 ks_12 (f_FW_putBlock_119 nf zLec zStc zUtc zSdA zUtA zLtA zLoA nf 0 x2 z_4 z_5 z_6)
    else
    if x3 < 0 ∨ 40 ≤ x3.toNatClampNeg then none else
      (f_By_putNumber nf ((zOfA x3.toNatClampNeg).toInt64) 4 w0_1 w1_n w1_a).bind fun ((z_49, z_50, z_51), kc_54, ks_55) =>
      ad kc_54 ks_55 (if x3 < 0 ∨ 40 ≤ x3.toNatClampNeg then none else
      (f_By_put nf (zDsA x3.toNatClampNeg) z_49 z_50 z_51).bind fun ((z_57, z_58, z_59), kc_62, ks_63) =>
      ad kc_62 ks_63 (if x3 < 0 ∨ 40 ≤ x3.toNatClampNeg then none else
      (f_By_put nf (zIxA x3.toNatClampNeg) z_57 z_58 z_59).bind fun ((z_65, z_66, z_67), kc_70, ks_71) =>
      ad kc_70 ks_71 (f_FW_putBlock_55 nf zTyc zLec zStc zUtc zOfA zDsA zIxA zSdA zUtA chS chN chA zLtA zLoA n (x3 + 1) x2 z_65 z_66 z_67)))
def f_FW_putBlock_29 (nf : Nat) (zTic : Int32) (zTyc : Int32) (zLec : Int32) (zStc : Int32) (zUtc : Int32) (zTtA : Nat → Int32) (zOfA : Nat → Int32) (zDsA : Nat → Int32) (zIxA : Nat → Int32) (zSdA : Nat → Int32) (zUtA : Nat → Int32) (chS : Int32) (chN : Nat) (chA : Nat → Int32) (zLtA : Nat → Int64) (zLoA : Nat → Int32) : Nat → Int32 → Int32 → Int32 → Nat → (Nat → Int32) → Option ((Int32 × Nat × (Nat → Int32)) × Nat × Nat)
  | 0, _, _, _, _, _ => none
  | n + 1, x3, x2, w0_1, w1_n, w1_a =>
    if zTic ≤ x3 then
    f_FW_putBlock_55 nf zTyc zLec zStc zUtc zOfA zDsA zIxA zSdA zUtA chS chN chA zLtA zLoA nf 0 x2 w0_1 w1_n w1_a
    else
    if x3 < 0 ∨ 200 ≤ x3.toNatClampNeg then none else
      (f_By_put nf (zTtA x3.toNatClampNeg) w0_1 w1_n w1_a).bind fun ((z_73, z_74, z_75), kc_78, ks_79) =>
      ad kc_78 ks_79 (f_FW_putBlock_29 nf zTic zTyc zLec zStc zUtc zTtA zOfA zDsA zIxA zSdA zUtA chS chN chA zLtA zLoA n (x3 + 1) x2 z_73 z_74 z_75)
def f_FW_putBlock_2 (nf : Nat) (zTic : Int32) (zTyc : Int32) (zLec : Int32) (zStc : Int32) (zUtc : Int32) (zTiA : Nat → Int64) (zTtA : Nat → Int32) (zOfA : Nat → Int32) (zDsA : Nat → Int32) (zIxA : Nat → Int32) (zSdA : Nat → Int32) (zUtA : Nat → Int32) (chS : Int32) (chN : Nat) (chA : Nat → Int32) (zLtA : Nat → Int64) (zLoA : Nat → Int32) : Nat → Int32 → Int32 → Int32 → Nat → (Nat → Int32) → Option ((Int32 × Nat × (Nat → Int32)) × Nat × Nat)
  | 0, _, _, _, _, _ => none
  | n + 1, x3, x2, w0_1, w1_n, w1_a =>
    if zTic ≤ x3 then
    f_FW_putBlock_29 nf zTic zTyc zLec zStc zUtc zTtA zOfA zDsA zIxA zSdA zUtA chS chN chA zLtA zLoA nf 0 x2 w0_1 w1_n w1_a
    else
    if x3 < 0 ∨ 200 ≤ x3.toNatClampNeg then none else
      (f_By_putNumber nf (zTiA x3.toNatClampNeg) x2 w0_1 w1_n w1_a).bind fun ((z_81, z_82, z_83), kc_86, ks_87) =>
      ad kc_86 ks_87 (f_FW_putBlock_2 nf zTic zTyc zLec zStc zUtc zTiA zTtA zOfA zDsA zIxA zSdA zUtA chS chN chA zLtA zLoA n (x3 + 1) x2 z_81 z_82 z_83)
def f_FW_putBlock_0 (nf : Nat) (zTic : Int32) (zTyc : Int32) (zLec : Int32) (zStc : Int32) (zUtc : Int32) (zTiA : Nat → Int64) (zTtA : Nat → Int32) (zOfA : Nat → Int32) (zDsA : Nat → Int32) (zIxA : Nat → Int32) (zSdA : Nat → Int32) (zUtA : Nat → Int32) (chS : Int32) (chN : Nat) (chA : Nat → Int32) (zLtA : Nat → Int64) (zLoA : Nat → Int32) (x2 : Int32) (w0_1 : Int32) (w1_n : Nat) (w1_a : Nat → Int32) : Option ((Int32 × Nat × (Nat → Int32)) × Nat × Nat) :=
  f_FW_putBlock_2 nf zTic zTyc zLec zStc zUtc zTiA zTtA zOfA zDsA zIxA zSdA zUtA chS chN chA zLtA zLoA nf 0 x2 w0_1 w1_n w1_a
def f_FW_putBlock (nf : Nat) (p1 : Int32) (inS : Int32) (inN : Nat) (inA : Nat → Int32) (zTic : Int32) (zTyc : Int32) (zLec : Int32) (zStc : Int32) (zUtc : Int32) (zTiA : Nat → Int64) (zTtA : Nat → Int32) (zOfA : Nat → Int32) (zDsA : Nat → Int32) (zIxA : Nat → Int32) (zSdA : Nat → Int32) (zUtA : Nat → Int32) (chS : Int32) (chN : Nat) (chA : Nat → Int32) (zLtA : Nat → Int64) (zLoA : Nat → Int32) : Option ((Int32 × Nat × (Nat → Int32)) × Nat × Nat) :=
  f_FW_putBlock_0 nf zTic zTyc zLec zStc zUtc zTiA zTtA zOfA zDsA zIxA zSdA zUtA chS chN chA zLtA zLoA p1 inS inN inA
section
variable {p : Program} {l : Launch} {e : Env} {R : Room} {s : State} {m : MethodId} {args : Array Value} {below : List Frame} {meth : Method} {c : Code} {Q : State → Prop} {dC : Nat → ClassId} {dI : Nat → Nat → Nat} {nf : Nat} {A : Nat → Prop}
variable {into : Nat} {zz : Nat} {inR : Nat} {zTi : Nat} {zTt : Nat} {zOf : Nat} {zDs : Nat} {zIx : Nat} {zSd : Nat} {zUt : Nat} {zCh : Nat} {zLt : Nat} {zLo : Nat} {zRu : Nat} {chR : Nat} {cAinR : ClassId} {cAzTi : ClassId} {cAzTt : ClassId} {cAzOf : ClassId} {cAzDs : ClassId} {cAzIx : ClassId} {cAzSd : ClassId} {cAzUt : ClassId} {cAchR : ClassId} {cAzLt : ClassId} {cAzLo : ClassId} {inS : Int32} {inN : Nat} {inA : Nat → Int32} {zVer : Int32} {zTic : Int32} {zTyc : Int32} {zLec : Int32} {zStc : Int32} {zUtc : Int32} {zTiA : Nat → Int64} {zTtA : Nat → Int32} {zOfA : Nat → Int32} {zDsA : Nat → Int32} {zIxA : Nat → Int32} {zSdA : Nat → Int32} {zUtA : Nat → Int32} {chS : Int32} {chN : Nat} {chA : Nat → Int32} {zLtA : Nat → Int64} {zLoA : Nat → Int32} {v0_1 : Int32} {v1_n : Nat} {v1_a : Nat → Int32}
set_option maxHeartbeats 400000 in
set_option maxRecDepth 100000 in
theorem k_FW_putBlock_184 (C0 : Cx p s m meth c args R b_FW_putBlock "ZoneFiles$FileWriting" 4 none 4 86) (hST : ST A s s.heap) (hA : ∀ q, s.heap.size ≤ q → A q) (hE : ∀ (pc : Nat) (ls : Array Slot) {q1 : Nat} {q11 : Nat} {nA1 : ClassId} {nA11 : ClassId} (H : Heap) (locs : List Loc), decode b_FW_putBlock pc = .ok (.return_, 1) → va_P (dC, dI) classes [(into, .inr (0, [.ref q1, .int v0_1])), (q1, .inl (nA1, v1_n, .inl v1_a)), (zz, .inr (8, [.int zVer, .int zTic, .int zTyc, .int zLec, .int zStc, .int zUtc, .ref zTi, .ref zTt, .ref zOf, .ref zDs, .ref zIx, .ref zSd, .ref zUt, .ref zCh, .ref zLt, .ref zLo, .ref zRu])), (zTi, .inl (cAzTi, 200, .inr (.inl zTiA))), (zTt, .inl (cAzTt, 200, .inl zTtA)), (zOf, .inl (cAzOf, 40, .inl zOfA)), (zDs, .inl (cAzDs, 40, .inl zDsA)), (zIx, .inl (cAzIx, 40, .inl zIxA)), (zSd, .inl (cAzSd, 40, .inl zSdA)), (zUt, .inl (cAzUt, 40, .inl zUtA)), (zCh, .inr (0, [.ref q11, .int chS])), (q11, .inl (nA11, chN, .inl chA)), (zLt, .inl (cAzLt, 40, .inr (.inl zLtA))), (zLo, .inl (cAzLo, 40, .inl zLoA))] H → va_D A [(into, .inr (0, [.ref q1, .int v0_1])), (q1, .inl (nA1, v1_n, .inl v1_a)), (zz, .inr (8, [.int zVer, .int zTic, .int zTyc, .int zLec, .int zStc, .int zUtc, .ref zTi, .ref zTt, .ref zOf, .ref zDs, .ref zIx, .ref zSd, .ref zUt, .ref zCh, .ref zLt, .ref zLo, .ref zRu])), (zTi, .inl (cAzTi, 200, .inr (.inl zTiA))), (zTt, .inl (cAzTt, 200, .inl zTtA)), (zOf, .inl (cAzOf, 40, .inl zOfA)), (zDs, .inl (cAzDs, 40, .inl zDsA)), (zIx, .inl (cAzIx, 40, .inl zIxA)), (zSd, .inl (cAzSd, 40, .inl zSdA)), (zUt, .inl (cAzUt, 40, .inl zUtA)), (zCh, .inr (0, [.ref q11, .int chS])), (q11, .inl (nA11, chN, .inl chA)), (zLt, .inl (cAzLt, 40, .inr (.inl zLtA))), (zLo, .inl (cAzLo, 40, .inl zLoA))] → va_S A s.heap H locs → va_K (dC, dI) classes [(nA1, .byte), (cAzTi, .long), (cAzTt, .int), (cAzOf, .int), (cAzDs, .int), (cAzIx, .int), (cAzSd, .int), (cAzUt, .int), (nA11, .byte), (cAzLt, .long), (cAzLo, .int)] s → W p l e R s m args below meth c H locs R.cells R.slots Q (F0 m pc ls [])) : ∀ (n : Nat) {x3 : Int32} {w0_1 : Int32} {w1_n : Nat} {w1_a : Nat → Int32} {kc ks : Nat}, f_FW_putBlock_184 nf zUtc zUtA n x3 w0_1 w1_n w1_a = some ((v0_1, v1_n, v1_a), kc, ks) → ∀ {q1 : Nat} {nA1 : ClassId} {q11 : Nat} {nA11 : ClassId} {cells slots : Nat} {H : Heap} {locs : List Loc} {ls : Array Slot}, va_K (dC, dI) classes [(nA1, .byte), (cAzTi, .long), (cAzTt, .int), (cAzOf, .int), (cAzDs, .int), (cAzIx, .int), (cAzSd, .int), (cAzUt, .int), (nA11, .byte), (cAzLt, .long), (cAzLo, .int)] s → va_P (dC, dI) classes [(into, .inr (0, [.ref q1, .int w0_1])), (q1, .inl (nA1, w1_n, .inl w1_a)), (zz, .inr (8, [.int zVer, .int zTic, .int zTyc, .int zLec, .int zStc, .int zUtc, .ref zTi, .ref zTt, .ref zOf, .ref zDs, .ref zIx, .ref zSd, .ref zUt, .ref zCh, .ref zLt, .ref zLo, .ref zRu])), (zTi, .inl (cAzTi, 200, .inr (.inl zTiA))), (zTt, .inl (cAzTt, 200, .inl zTtA)), (zOf, .inl (cAzOf, 40, .inl zOfA)), (zDs, .inl (cAzDs, 40, .inl zDsA)), (zIx, .inl (cAzIx, 40, .inl zIxA)), (zSd, .inl (cAzSd, 40, .inl zSdA)), (zUt, .inl (cAzUt, 40, .inl zUtA)), (zCh, .inr (0, [.ref q11, .int chS])), (q11, .inl (nA11, chN, .inl chA)), (zLt, .inl (cAzLt, 40, .inr (.inl zLtA))), (zLo, .inl (cAzLo, 40, .inl zLoA))] H → va_D A [(into, .inr (0, [.ref q1, .int w0_1])), (q1, .inl (nA1, w1_n, .inl w1_a)), (zz, .inr (8, [.int zVer, .int zTic, .int zTyc, .int zLec, .int zStc, .int zUtc, .ref zTi, .ref zTt, .ref zOf, .ref zDs, .ref zIx, .ref zSd, .ref zUt, .ref zCh, .ref zLt, .ref zLo, .ref zRu])), (zTi, .inl (cAzTi, 200, .inr (.inl zTiA))), (zTt, .inl (cAzTt, 200, .inl zTtA)), (zOf, .inl (cAzOf, 40, .inl zOfA)), (zDs, .inl (cAzDs, 40, .inl zDsA)), (zIx, .inl (cAzIx, 40, .inl zIxA)), (zSd, .inl (cAzSd, 40, .inl zSdA)), (zUt, .inl (cAzUt, 40, .inl zUtA)), (zCh, .inr (0, [.ref q11, .int chS])), (q11, .inl (nA11, chN, .inl chA)), (zLt, .inl (cAzLt, 40, .inr (.inl zLtA))), (zLo, .inl (cAzLo, 40, .inl zLoA))] → va_S A s.heap H locs → cells + kc = R.cells → slots + ks = R.slots → lv_has ls 4 [(3, .int x3), (0, .ref into), (1, .ref zz)] → W p l e R s m args below meth c H locs cells slots Q (F0 m 184 ls []) := by
  obtain ⟨hx, hb, hr, hml, hown, hts, hlocks, hRf, hRl⟩ := id C0
  obtain ⟨tms, hZms, hTms, tmg, hZmg, hTmg, hNW⟩ := id hST
  intro n
  induction n with
  | zero =>
    intro x3 w0_1 w1_n w1_a kc ks hf
    exact absurd hf (by simp [f_FW_putBlock_184])
  | succ n ih =>
    intro x3 w0_1 w1_n w1_a kc ks hf q1 nA1 q11 nA11 cells slots H locs ls hK hP hD hS hkc hks hl
    unfold f_FW_putBlock_184 at hf
    refine lv_iload_n hx hb d_FW_putBlock_184 rfl (lv_at hl 0 rfl) ?_
    refine lv_aload_n hx hb d_FW_putBlock_185 rfl (lv_at hl 2 rfl) ?_
    refine va_get (D := (dC, dI)) (ci := 8) (v := .int zUtc) (C := RZone) (T := TZone) (N := 17) hx hb hts in_Zone hown hK hP 2 rfl rfl 5 (by decide) (hts (.fieldLink "ZoneFiles$FileWriting" 65 "ZoneFiles$Zone" "utCount" "I") m_1_183) (fun _ h9 => h9) rfl d_FW_putBlock_186 ?_
    refine lv_icmp_ge (tgt := 208) hx hb d_FW_putBlock_189 (by decide) (fun c_15 => ?_) (fun c_15 => ?_)
    · have hf := it_t c_15 hf
      cases rs hf
      have hkc : cells = R.cells := hkc
      have hks : slots = R.slots := hks
      subst hkc; subst hks
      exact hE _ _ _ _ d_FW_putBlock_208 hP hD hS hK
    · have hf := it_f c_15 hf
      refine lv_aload_n hx hb d_FW_putBlock_192 rfl (lv_at hl 1 rfl) ?_
      refine lv_aload_n hx hb d_FW_putBlock_193 rfl (lv_at hl 2 rfl) ?_
      refine va_get (D := (dC, dI)) (ci := 8) (v := .ref zUt) (C := RZone) (T := TZone) (N := 17) hx hb hts in_Zone hown hK hP 2 rfl rfl 12 (by decide) (hts (.fieldLink "ZoneFiles$FileWriting" 108 "ZoneFiles$Zone" "uts" "[I") m_1_211) (fun _ h9 => h9) rfl d_FW_putBlock_194 ?_
      refine lv_iload_n hx hb d_FW_putBlock_197 rfl (lv_at hl 0 rfl) ?_
      obtain ⟨c_16, hf⟩ := it_n hf
      refine va_iald hx hb hK hP 9 7 rfl rfl c_16 d_FW_putBlock_198 ?_
      obtain ⟨⟨⟨z_17, z_18, z_19⟩, kc_22, ks_23⟩, hc, hf⟩ := ob hf
      obtain ⟨kc, ks, hf, ekc, eks⟩ := oa hf
      have hPc := hP.sub (ws' := [(into, .inr (0, [.ref q1, .int w0_1])), (q1, .inl (nA1, w1_n, .inl w1_a))]) [0, 1] rfl
      have hDc := hD.sub (ws' := [(into, .inr (0, [.ref q1, .int w0_1])), (q1, .inl (nA1, w1_n, .inl w1_a))]) [0, 1] (by decide) rfl
      have hKc := hK.sub (tys' := [(nA1, .byte)]) [0] rfl
      have hFc := va_free (wc := [(into, .inr (0, [.ref q1, .int w0_1])), (q1, .inl (nA1, w1_n, .inl w1_a))]) hD hS hA [0, 1] rfl
      refine cl_M (v := none) (st1 := []) (va_runV (As := [.int (zUtA x3.toNatClampNeg)]) (rest := []) ⟨hx, hb, hml, hown, hts⟩ (c_By_put l dC dI into q1 nA1 H.size nf (zUtA x3.toNatClampNeg) w0_1 w1_n w1_a hc) (cwV 1 hts (gdV m_6_31 m_2_38 m_2_39 m_1_2 m_2_40) rfl rfl rfl (by decide +kernel) ⟨Nat.le_trans (Nat.le_of_ble_eq_true rfl) hRf, Nat.le_trans (Nat.le_of_ble_eq_true rfl) hRl⟩) ((MU.pre hPc hKc hDc (hST.mu hS hFc)).vir (va_recv hKc hPc (ci := 0) (q0 := 0) rfl rfl)) rfl rfl hl.1 rfl (lv_room (Nat.le_of_ble_eq_true rfl)) d_FW_putBlock_199 ⟨cb hkc ekc, cb hks eks⟩) rfl hS (fun q _ h => hFc q h) hFc (fun t H1 locs ht hvm hB hz1 hk1 hS => ?_)
      obtain ⟨q_20, cq_21, hP1, hK1, hD1⟩ := hB
      rw [ht] at hP1
      have hK1 := va_K.moved hvm.symm hK1
      obtain ⟨hP, hD⟩ := va_join (wr := [(zz, .inr (8, [.int zVer, .int zTic, .int zTyc, .int zLec, .int zStc, .int zUtc, .ref zTi, .ref zTt, .ref zOf, .ref zDs, .ref zIx, .ref zSd, .ref zUt, .ref zCh, .ref zLt, .ref zLo, .ref zRu])), (zTi, .inl (cAzTi, 200, .inr (.inl zTiA))), (zTt, .inl (cAzTt, 200, .inl zTtA)), (zOf, .inl (cAzOf, 40, .inl zOfA)), (zDs, .inl (cAzDs, 40, .inl zDsA)), (zIx, .inl (cAzIx, 40, .inl zIxA)), (zSd, .inl (cAzSd, 40, .inl zSdA)), (zUt, .inl (cAzUt, 40, .inl zUtA)), (zCh, .inr (0, [.ref q11, .int chS])), (q11, .inl (nA11, chN, .inl chA)), (zLt, .inl (cAzLt, 40, .inr (.inl zLtA))), (zLo, .inl (cAzLo, 40, .inl zLoA))]) (w1 := [(into, .inr (0, [.ref q_20, .int z_17])), (q_20, .inl (cq_21, z_18, .inl z_19))]) hP hD [0, 1] [2, 3, 4, 5, 6, 7, 8, 9, 10, 11, 12, 13] rfl rfl (by decide) (by decide) hk1 hFc hP1 hD1
      have hK := (hK.sub (tys' := [(cAzTi, .long), (cAzTt, .int), (cAzOf, .int), (cAzDs, .int), (cAzIx, .int), (cAzSd, .int), (cAzUt, .int), (nA11, .byte), (cAzLt, .long), (cAzLo, .int)]) [1, 2, 3, 4, 5, 6, 7, 8, 9, 10] rfl).app hK1
      generalize H1 = H at hP hS ⊢
      have hP := hP.sub (ws' := [(into, .inr (0, [.ref q_20, .int z_17])), (q_20, .inl (cq_21, z_18, .inl z_19)), (zz, .inr (8, [.int zVer, .int zTic, .int zTyc, .int zLec, .int zStc, .int zUtc, .ref zTi, .ref zTt, .ref zOf, .ref zDs, .ref zIx, .ref zSd, .ref zUt, .ref zCh, .ref zLt, .ref zLo, .ref zRu])), (zTi, .inl (cAzTi, 200, .inr (.inl zTiA))), (zTt, .inl (cAzTt, 200, .inl zTtA)), (zOf, .inl (cAzOf, 40, .inl zOfA)), (zDs, .inl (cAzDs, 40, .inl zDsA)), (zIx, .inl (cAzIx, 40, .inl zIxA)), (zSd, .inl (cAzSd, 40, .inl zSdA)), (zUt, .inl (cAzUt, 40, .inl zUtA)), (zCh, .inr (0, [.ref q11, .int chS])), (q11, .inl (nA11, chN, .inl chA)), (zLt, .inl (cAzLt, 40, .inr (.inl zLtA))), (zLo, .inl (cAzLo, 40, .inl zLoA))]) [12, 13, 0, 1, 2, 3, 4, 5, 6, 7, 8, 9, 10, 11] rfl
      have hD := hD.sub (ws' := [(into, .inr (0, [.ref q_20, .int z_17])), (q_20, .inl (cq_21, z_18, .inl z_19)), (zz, .inr (8, [.int zVer, .int zTic, .int zTyc, .int zLec, .int zStc, .int zUtc, .ref zTi, .ref zTt, .ref zOf, .ref zDs, .ref zIx, .ref zSd, .ref zUt, .ref zCh, .ref zLt, .ref zLo, .ref zRu])), (zTi, .inl (cAzTi, 200, .inr (.inl zTiA))), (zTt, .inl (cAzTt, 200, .inl zTtA)), (zOf, .inl (cAzOf, 40, .inl zOfA)), (zDs, .inl (cAzDs, 40, .inl zDsA)), (zIx, .inl (cAzIx, 40, .inl zIxA)), (zSd, .inl (cAzSd, 40, .inl zSdA)), (zUt, .inl (cAzUt, 40, .inl zUtA)), (zCh, .inr (0, [.ref q11, .int chS])), (q11, .inl (nA11, chN, .inl chA)), (zLt, .inl (cAzLt, 40, .inr (.inl zLtA))), (zLo, .inl (cAzLo, 40, .inl zLoA))]) [12, 13, 0, 1, 2, 3, 4, 5, 6, 7, 8, 9, 10, 11] (by decide) rfl
      have hK := hK.sub (tys' := [(cq_21, .byte), (cAzTi, .long), (cAzTt, .int), (cAzOf, .int), (cAzDs, .int), (cAzIx, .int), (cAzSd, .int), (cAzUt, .int), (nA11, .byte), (cAzLt, .long), (cAzLo, .int)]) [10, 0, 1, 2, 3, 4, 5, 6, 7, 8, 9] rfl
      have hkc := ck hkc ekc
      have hks := ck hks eks
      generalize cells + kc_22 = cells at hkc ⊢
      generalize slots + ks_23 = slots at hks ⊢
      refine lv_iinc (v := x3 + 1) (lv' := [(3, .int (x3 + 1)), (0, .ref into), (1, .ref zz)]) hx hb d_FW_putBlock_202 hl (k := 0) rfl rfl (by decide) rfl (fun ls hl => ?_)
      refine lv_goto (tgt := 184) hx hb d_FW_putBlock_205 (by decide) ?_
      exact ih hf hK hP hD hS hkc hks (lv_sub hl [0, 1, 2] rfl)
set_option maxHeartbeats 400000 in
set_option maxRecDepth 100000 in
theorem k_FW_putBlock_158 (C0 : Cx p s m meth c args R b_FW_putBlock "ZoneFiles$FileWriting" 4 none 4 86) (hST : ST A s s.heap) (hA : ∀ q, s.heap.size ≤ q → A q) (hE : ∀ (pc : Nat) (ls : Array Slot) {q1 : Nat} {q11 : Nat} {nA1 : ClassId} {nA11 : ClassId} (H : Heap) (locs : List Loc), decode b_FW_putBlock pc = .ok (.return_, 1) → va_P (dC, dI) classes [(into, .inr (0, [.ref q1, .int v0_1])), (q1, .inl (nA1, v1_n, .inl v1_a)), (zz, .inr (8, [.int zVer, .int zTic, .int zTyc, .int zLec, .int zStc, .int zUtc, .ref zTi, .ref zTt, .ref zOf, .ref zDs, .ref zIx, .ref zSd, .ref zUt, .ref zCh, .ref zLt, .ref zLo, .ref zRu])), (zTi, .inl (cAzTi, 200, .inr (.inl zTiA))), (zTt, .inl (cAzTt, 200, .inl zTtA)), (zOf, .inl (cAzOf, 40, .inl zOfA)), (zDs, .inl (cAzDs, 40, .inl zDsA)), (zIx, .inl (cAzIx, 40, .inl zIxA)), (zSd, .inl (cAzSd, 40, .inl zSdA)), (zUt, .inl (cAzUt, 40, .inl zUtA)), (zCh, .inr (0, [.ref q11, .int chS])), (q11, .inl (nA11, chN, .inl chA)), (zLt, .inl (cAzLt, 40, .inr (.inl zLtA))), (zLo, .inl (cAzLo, 40, .inl zLoA))] H → va_D A [(into, .inr (0, [.ref q1, .int v0_1])), (q1, .inl (nA1, v1_n, .inl v1_a)), (zz, .inr (8, [.int zVer, .int zTic, .int zTyc, .int zLec, .int zStc, .int zUtc, .ref zTi, .ref zTt, .ref zOf, .ref zDs, .ref zIx, .ref zSd, .ref zUt, .ref zCh, .ref zLt, .ref zLo, .ref zRu])), (zTi, .inl (cAzTi, 200, .inr (.inl zTiA))), (zTt, .inl (cAzTt, 200, .inl zTtA)), (zOf, .inl (cAzOf, 40, .inl zOfA)), (zDs, .inl (cAzDs, 40, .inl zDsA)), (zIx, .inl (cAzIx, 40, .inl zIxA)), (zSd, .inl (cAzSd, 40, .inl zSdA)), (zUt, .inl (cAzUt, 40, .inl zUtA)), (zCh, .inr (0, [.ref q11, .int chS])), (q11, .inl (nA11, chN, .inl chA)), (zLt, .inl (cAzLt, 40, .inr (.inl zLtA))), (zLo, .inl (cAzLo, 40, .inl zLoA))] → va_S A s.heap H locs → va_K (dC, dI) classes [(nA1, .byte), (cAzTi, .long), (cAzTt, .int), (cAzOf, .int), (cAzDs, .int), (cAzIx, .int), (cAzSd, .int), (cAzUt, .int), (nA11, .byte), (cAzLt, .long), (cAzLo, .int)] s → W p l e R s m args below meth c H locs R.cells R.slots Q (F0 m pc ls [])) : ∀ (n : Nat) {x3 : Int32} {w0_1 : Int32} {w1_n : Nat} {w1_a : Nat → Int32} {kc ks : Nat}, f_FW_putBlock_158 nf zStc zUtc zSdA zUtA n x3 w0_1 w1_n w1_a = some ((v0_1, v1_n, v1_a), kc, ks) → ∀ {q1 : Nat} {nA1 : ClassId} {q11 : Nat} {nA11 : ClassId} {cells slots : Nat} {H : Heap} {locs : List Loc} {ls : Array Slot}, va_K (dC, dI) classes [(nA1, .byte), (cAzTi, .long), (cAzTt, .int), (cAzOf, .int), (cAzDs, .int), (cAzIx, .int), (cAzSd, .int), (cAzUt, .int), (nA11, .byte), (cAzLt, .long), (cAzLo, .int)] s → va_P (dC, dI) classes [(into, .inr (0, [.ref q1, .int w0_1])), (q1, .inl (nA1, w1_n, .inl w1_a)), (zz, .inr (8, [.int zVer, .int zTic, .int zTyc, .int zLec, .int zStc, .int zUtc, .ref zTi, .ref zTt, .ref zOf, .ref zDs, .ref zIx, .ref zSd, .ref zUt, .ref zCh, .ref zLt, .ref zLo, .ref zRu])), (zTi, .inl (cAzTi, 200, .inr (.inl zTiA))), (zTt, .inl (cAzTt, 200, .inl zTtA)), (zOf, .inl (cAzOf, 40, .inl zOfA)), (zDs, .inl (cAzDs, 40, .inl zDsA)), (zIx, .inl (cAzIx, 40, .inl zIxA)), (zSd, .inl (cAzSd, 40, .inl zSdA)), (zUt, .inl (cAzUt, 40, .inl zUtA)), (zCh, .inr (0, [.ref q11, .int chS])), (q11, .inl (nA11, chN, .inl chA)), (zLt, .inl (cAzLt, 40, .inr (.inl zLtA))), (zLo, .inl (cAzLo, 40, .inl zLoA))] H → va_D A [(into, .inr (0, [.ref q1, .int w0_1])), (q1, .inl (nA1, w1_n, .inl w1_a)), (zz, .inr (8, [.int zVer, .int zTic, .int zTyc, .int zLec, .int zStc, .int zUtc, .ref zTi, .ref zTt, .ref zOf, .ref zDs, .ref zIx, .ref zSd, .ref zUt, .ref zCh, .ref zLt, .ref zLo, .ref zRu])), (zTi, .inl (cAzTi, 200, .inr (.inl zTiA))), (zTt, .inl (cAzTt, 200, .inl zTtA)), (zOf, .inl (cAzOf, 40, .inl zOfA)), (zDs, .inl (cAzDs, 40, .inl zDsA)), (zIx, .inl (cAzIx, 40, .inl zIxA)), (zSd, .inl (cAzSd, 40, .inl zSdA)), (zUt, .inl (cAzUt, 40, .inl zUtA)), (zCh, .inr (0, [.ref q11, .int chS])), (q11, .inl (nA11, chN, .inl chA)), (zLt, .inl (cAzLt, 40, .inr (.inl zLtA))), (zLo, .inl (cAzLo, 40, .inl zLoA))] → va_S A s.heap H locs → cells + kc = R.cells → slots + ks = R.slots → lv_has ls 4 [(3, .int x3), (0, .ref into), (1, .ref zz)] → W p l e R s m args below meth c H locs cells slots Q (F0 m 158 ls []) := by
  obtain ⟨hx, hb, hr, hml, hown, hts, hlocks, hRf, hRl⟩ := id C0
  obtain ⟨tms, hZms, hTms, tmg, hZmg, hTmg, hNW⟩ := id hST
  intro n
  induction n with
  | zero =>
    intro x3 w0_1 w1_n w1_a kc ks hf
    exact absurd hf (by simp [f_FW_putBlock_158])
  | succ n ih =>
    intro x3 w0_1 w1_n w1_a kc ks hf q1 nA1 q11 nA11 cells slots H locs ls hK hP hD hS hkc hks hl
    unfold f_FW_putBlock_158 at hf
    refine lv_iload_n hx hb d_FW_putBlock_158 rfl (lv_at hl 0 rfl) ?_
    refine lv_aload_n hx hb d_FW_putBlock_159 rfl (lv_at hl 2 rfl) ?_
    refine va_get (D := (dC, dI)) (ci := 8) (v := .int zStc) (C := RZone) (T := TZone) (N := 17) hx hb hts in_Zone hown hK hP 2 rfl rfl 4 (by decide) (hts (.fieldLink "ZoneFiles$FileWriting" 68 "ZoneFiles$Zone" "stdCount" "I") m_1_179) (fun _ h9 => h9) rfl d_FW_putBlock_160 ?_
    refine lv_icmp_ge (tgt := 182) hx hb d_FW_putBlock_163 (by decide) (fun c_14 => ?_) (fun c_14 => ?_)
    · have hf := it_t c_14 hf
      refine lv_iconst (v := 0) hx hb d_FW_putBlock_182 (by decide) ?_
      refine lv_istore_n (lv' := [(3, .int 0), (0, .ref into), (1, .ref zz)]) hx hb d_FW_putBlock_183 rfl hl (by decide) rfl (fun ls hl => ?_)
      exact k_FW_putBlock_184 C0 hST hA hE nf hf hK hP hD hS hkc hks (lv_sub hl [0, 1, 2] rfl)
    · have hf := it_f c_14 hf
      refine lv_aload_n hx hb d_FW_putBlock_166 rfl (lv_at hl 1 rfl) ?_
      refine lv_aload_n hx hb d_FW_putBlock_167 rfl (lv_at hl 2 rfl) ?_
      refine va_get (D := (dC, dI)) (ci := 8) (v := .ref zSd) (C := RZone) (T := TZone) (N := 17) hx hb hts in_Zone hown hK hP 2 rfl rfl 11 (by decide) (hts (.fieldLink "ZoneFiles$FileWriting" 105 "ZoneFiles$Zone" "stds" "[I") m_1_207) (fun _ h9 => h9) rfl d_FW_putBlock_168 ?_
      refine lv_iload_n hx hb d_FW_putBlock_171 rfl (lv_at hl 0 rfl) ?_
      obtain ⟨c_24, hf⟩ := it_n hf
      refine va_iald hx hb hK hP 8 6 rfl rfl c_24 d_FW_putBlock_172 ?_
      obtain ⟨⟨⟨z_25, z_26, z_27⟩, kc_30, ks_31⟩, hc, hf⟩ := ob hf
      obtain ⟨kc, ks, hf, ekc, eks⟩ := oa hf
      have hPc := hP.sub (ws' := [(into, .inr (0, [.ref q1, .int w0_1])), (q1, .inl (nA1, w1_n, .inl w1_a))]) [0, 1] rfl
      have hDc := hD.sub (ws' := [(into, .inr (0, [.ref q1, .int w0_1])), (q1, .inl (nA1, w1_n, .inl w1_a))]) [0, 1] (by decide) rfl
      have hKc := hK.sub (tys' := [(nA1, .byte)]) [0] rfl
      have hFc := va_free (wc := [(into, .inr (0, [.ref q1, .int w0_1])), (q1, .inl (nA1, w1_n, .inl w1_a))]) hD hS hA [0, 1] rfl
      refine cl_M (v := none) (st1 := []) (va_runV (As := [.int (zSdA x3.toNatClampNeg)]) (rest := []) ⟨hx, hb, hml, hown, hts⟩ (c_By_put l dC dI into q1 nA1 H.size nf (zSdA x3.toNatClampNeg) w0_1 w1_n w1_a hc) (cwV 1 hts (gdV m_6_31 m_2_38 m_2_39 m_1_2 m_2_40) rfl rfl rfl (by decide +kernel) ⟨Nat.le_trans (Nat.le_of_ble_eq_true rfl) hRf, Nat.le_trans (Nat.le_of_ble_eq_true rfl) hRl⟩) ((MU.pre hPc hKc hDc (hST.mu hS hFc)).vir (va_recv hKc hPc (ci := 0) (q0 := 0) rfl rfl)) rfl rfl hl.1 rfl (lv_room (Nat.le_of_ble_eq_true rfl)) d_FW_putBlock_173 ⟨cb hkc ekc, cb hks eks⟩) rfl hS (fun q _ h => hFc q h) hFc (fun t H1 locs ht hvm hB hz1 hk1 hS => ?_)
      obtain ⟨q_28, cq_29, hP1, hK1, hD1⟩ := hB
      rw [ht] at hP1
      have hK1 := va_K.moved hvm.symm hK1
      obtain ⟨hP, hD⟩ := va_join (wr := [(zz, .inr (8, [.int zVer, .int zTic, .int zTyc, .int zLec, .int zStc, .int zUtc, .ref zTi, .ref zTt, .ref zOf, .ref zDs, .ref zIx, .ref zSd, .ref zUt, .ref zCh, .ref zLt, .ref zLo, .ref zRu])), (zTi, .inl (cAzTi, 200, .inr (.inl zTiA))), (zTt, .inl (cAzTt, 200, .inl zTtA)), (zOf, .inl (cAzOf, 40, .inl zOfA)), (zDs, .inl (cAzDs, 40, .inl zDsA)), (zIx, .inl (cAzIx, 40, .inl zIxA)), (zSd, .inl (cAzSd, 40, .inl zSdA)), (zUt, .inl (cAzUt, 40, .inl zUtA)), (zCh, .inr (0, [.ref q11, .int chS])), (q11, .inl (nA11, chN, .inl chA)), (zLt, .inl (cAzLt, 40, .inr (.inl zLtA))), (zLo, .inl (cAzLo, 40, .inl zLoA))]) (w1 := [(into, .inr (0, [.ref q_28, .int z_25])), (q_28, .inl (cq_29, z_26, .inl z_27))]) hP hD [0, 1] [2, 3, 4, 5, 6, 7, 8, 9, 10, 11, 12, 13] rfl rfl (by decide) (by decide) hk1 hFc hP1 hD1
      have hK := (hK.sub (tys' := [(cAzTi, .long), (cAzTt, .int), (cAzOf, .int), (cAzDs, .int), (cAzIx, .int), (cAzSd, .int), (cAzUt, .int), (nA11, .byte), (cAzLt, .long), (cAzLo, .int)]) [1, 2, 3, 4, 5, 6, 7, 8, 9, 10] rfl).app hK1
      generalize H1 = H at hP hS ⊢
      have hP := hP.sub (ws' := [(into, .inr (0, [.ref q_28, .int z_25])), (q_28, .inl (cq_29, z_26, .inl z_27)), (zz, .inr (8, [.int zVer, .int zTic, .int zTyc, .int zLec, .int zStc, .int zUtc, .ref zTi, .ref zTt, .ref zOf, .ref zDs, .ref zIx, .ref zSd, .ref zUt, .ref zCh, .ref zLt, .ref zLo, .ref zRu])), (zTi, .inl (cAzTi, 200, .inr (.inl zTiA))), (zTt, .inl (cAzTt, 200, .inl zTtA)), (zOf, .inl (cAzOf, 40, .inl zOfA)), (zDs, .inl (cAzDs, 40, .inl zDsA)), (zIx, .inl (cAzIx, 40, .inl zIxA)), (zSd, .inl (cAzSd, 40, .inl zSdA)), (zUt, .inl (cAzUt, 40, .inl zUtA)), (zCh, .inr (0, [.ref q11, .int chS])), (q11, .inl (nA11, chN, .inl chA)), (zLt, .inl (cAzLt, 40, .inr (.inl zLtA))), (zLo, .inl (cAzLo, 40, .inl zLoA))]) [12, 13, 0, 1, 2, 3, 4, 5, 6, 7, 8, 9, 10, 11] rfl
      have hD := hD.sub (ws' := [(into, .inr (0, [.ref q_28, .int z_25])), (q_28, .inl (cq_29, z_26, .inl z_27)), (zz, .inr (8, [.int zVer, .int zTic, .int zTyc, .int zLec, .int zStc, .int zUtc, .ref zTi, .ref zTt, .ref zOf, .ref zDs, .ref zIx, .ref zSd, .ref zUt, .ref zCh, .ref zLt, .ref zLo, .ref zRu])), (zTi, .inl (cAzTi, 200, .inr (.inl zTiA))), (zTt, .inl (cAzTt, 200, .inl zTtA)), (zOf, .inl (cAzOf, 40, .inl zOfA)), (zDs, .inl (cAzDs, 40, .inl zDsA)), (zIx, .inl (cAzIx, 40, .inl zIxA)), (zSd, .inl (cAzSd, 40, .inl zSdA)), (zUt, .inl (cAzUt, 40, .inl zUtA)), (zCh, .inr (0, [.ref q11, .int chS])), (q11, .inl (nA11, chN, .inl chA)), (zLt, .inl (cAzLt, 40, .inr (.inl zLtA))), (zLo, .inl (cAzLo, 40, .inl zLoA))]) [12, 13, 0, 1, 2, 3, 4, 5, 6, 7, 8, 9, 10, 11] (by decide) rfl
      have hK := hK.sub (tys' := [(cq_29, .byte), (cAzTi, .long), (cAzTt, .int), (cAzOf, .int), (cAzDs, .int), (cAzIx, .int), (cAzSd, .int), (cAzUt, .int), (nA11, .byte), (cAzLt, .long), (cAzLo, .int)]) [10, 0, 1, 2, 3, 4, 5, 6, 7, 8, 9] rfl
      have hkc := ck hkc ekc
      have hks := ck hks eks
      generalize cells + kc_30 = cells at hkc ⊢
      generalize slots + ks_31 = slots at hks ⊢
      refine lv_iinc (v := x3 + 1) (lv' := [(3, .int (x3 + 1)), (0, .ref into), (1, .ref zz)]) hx hb d_FW_putBlock_176 hl (k := 0) rfl rfl (by decide) rfl (fun ls hl => ?_)
      refine lv_goto (tgt := 158) hx hb d_FW_putBlock_179 (by decide) ?_
      exact ih hf hK hP hD hS hkc hks (lv_sub hl [0, 1, 2] rfl)
set_option maxHeartbeats 400000 in
set_option maxRecDepth 100000 in
theorem k_FW_putBlock_119 (C0 : Cx p s m meth c args R b_FW_putBlock "ZoneFiles$FileWriting" 4 none 4 86) (hST : ST A s s.heap) (hA : ∀ q, s.heap.size ≤ q → A q) (hE : ∀ (pc : Nat) (ls : Array Slot) {q1 : Nat} {q11 : Nat} {nA1 : ClassId} {nA11 : ClassId} (H : Heap) (locs : List Loc), decode b_FW_putBlock pc = .ok (.return_, 1) → va_P (dC, dI) classes [(into, .inr (0, [.ref q1, .int v0_1])), (q1, .inl (nA1, v1_n, .inl v1_a)), (zz, .inr (8, [.int zVer, .int zTic, .int zTyc, .int zLec, .int zStc, .int zUtc, .ref zTi, .ref zTt, .ref zOf, .ref zDs, .ref zIx, .ref zSd, .ref zUt, .ref zCh, .ref zLt, .ref zLo, .ref zRu])), (zTi, .inl (cAzTi, 200, .inr (.inl zTiA))), (zTt, .inl (cAzTt, 200, .inl zTtA)), (zOf, .inl (cAzOf, 40, .inl zOfA)), (zDs, .inl (cAzDs, 40, .inl zDsA)), (zIx, .inl (cAzIx, 40, .inl zIxA)), (zSd, .inl (cAzSd, 40, .inl zSdA)), (zUt, .inl (cAzUt, 40, .inl zUtA)), (zCh, .inr (0, [.ref q11, .int chS])), (q11, .inl (nA11, chN, .inl chA)), (zLt, .inl (cAzLt, 40, .inr (.inl zLtA))), (zLo, .inl (cAzLo, 40, .inl zLoA))] H → va_D A [(into, .inr (0, [.ref q1, .int v0_1])), (q1, .inl (nA1, v1_n, .inl v1_a)), (zz, .inr (8, [.int zVer, .int zTic, .int zTyc, .int zLec, .int zStc, .int zUtc, .ref zTi, .ref zTt, .ref zOf, .ref zDs, .ref zIx, .ref zSd, .ref zUt, .ref zCh, .ref zLt, .ref zLo, .ref zRu])), (zTi, .inl (cAzTi, 200, .inr (.inl zTiA))), (zTt, .inl (cAzTt, 200, .inl zTtA)), (zOf, .inl (cAzOf, 40, .inl zOfA)), (zDs, .inl (cAzDs, 40, .inl zDsA)), (zIx, .inl (cAzIx, 40, .inl zIxA)), (zSd, .inl (cAzSd, 40, .inl zSdA)), (zUt, .inl (cAzUt, 40, .inl zUtA)), (zCh, .inr (0, [.ref q11, .int chS])), (q11, .inl (nA11, chN, .inl chA)), (zLt, .inl (cAzLt, 40, .inr (.inl zLtA))), (zLo, .inl (cAzLo, 40, .inl zLoA))] → va_S A s.heap H locs → va_K (dC, dI) classes [(nA1, .byte), (cAzTi, .long), (cAzTt, .int), (cAzOf, .int), (cAzDs, .int), (cAzIx, .int), (cAzSd, .int), (cAzUt, .int), (nA11, .byte), (cAzLt, .long), (cAzLo, .int)] s → W p l e R s m args below meth c H locs R.cells R.slots Q (F0 m pc ls [])) : ∀ (n : Nat) {x3 : Int32} {x2 : Int32} {w0_1 : Int32} {w1_n : Nat} {w1_a : Nat → Int32} {kc ks : Nat}, f_FW_putBlock_119 nf zLec zStc zUtc zSdA zUtA zLtA zLoA n x3 x2 w0_1 w1_n w1_a = some ((v0_1, v1_n, v1_a), kc, ks) → ∀ {q1 : Nat} {nA1 : ClassId} {q11 : Nat} {nA11 : ClassId} {cells slots : Nat} {H : Heap} {locs : List Loc} {ls : Array Slot}, va_K (dC, dI) classes [(nA1, .byte), (cAzTi, .long), (cAzTt, .int), (cAzOf, .int), (cAzDs, .int), (cAzIx, .int), (cAzSd, .int), (cAzUt, .int), (nA11, .byte), (cAzLt, .long), (cAzLo, .int)] s → va_P (dC, dI) classes [(into, .inr (0, [.ref q1, .int w0_1])), (q1, .inl (nA1, w1_n, .inl w1_a)), (zz, .inr (8, [.int zVer, .int zTic, .int zTyc, .int zLec, .int zStc, .int zUtc, .ref zTi, .ref zTt, .ref zOf, .ref zDs, .ref zIx, .ref zSd, .ref zUt, .ref zCh, .ref zLt, .ref zLo, .ref zRu])), (zTi, .inl (cAzTi, 200, .inr (.inl zTiA))), (zTt, .inl (cAzTt, 200, .inl zTtA)), (zOf, .inl (cAzOf, 40, .inl zOfA)), (zDs, .inl (cAzDs, 40, .inl zDsA)), (zIx, .inl (cAzIx, 40, .inl zIxA)), (zSd, .inl (cAzSd, 40, .inl zSdA)), (zUt, .inl (cAzUt, 40, .inl zUtA)), (zCh, .inr (0, [.ref q11, .int chS])), (q11, .inl (nA11, chN, .inl chA)), (zLt, .inl (cAzLt, 40, .inr (.inl zLtA))), (zLo, .inl (cAzLo, 40, .inl zLoA))] H → va_D A [(into, .inr (0, [.ref q1, .int w0_1])), (q1, .inl (nA1, w1_n, .inl w1_a)), (zz, .inr (8, [.int zVer, .int zTic, .int zTyc, .int zLec, .int zStc, .int zUtc, .ref zTi, .ref zTt, .ref zOf, .ref zDs, .ref zIx, .ref zSd, .ref zUt, .ref zCh, .ref zLt, .ref zLo, .ref zRu])), (zTi, .inl (cAzTi, 200, .inr (.inl zTiA))), (zTt, .inl (cAzTt, 200, .inl zTtA)), (zOf, .inl (cAzOf, 40, .inl zOfA)), (zDs, .inl (cAzDs, 40, .inl zDsA)), (zIx, .inl (cAzIx, 40, .inl zIxA)), (zSd, .inl (cAzSd, 40, .inl zSdA)), (zUt, .inl (cAzUt, 40, .inl zUtA)), (zCh, .inr (0, [.ref q11, .int chS])), (q11, .inl (nA11, chN, .inl chA)), (zLt, .inl (cAzLt, 40, .inr (.inl zLtA))), (zLo, .inl (cAzLo, 40, .inl zLoA))] → va_S A s.heap H locs → cells + kc = R.cells → slots + ks = R.slots → lv_has ls 4 [(3, .int x3), (0, .ref into), (1, .ref zz), (2, .int x2)] → W p l e R s m args below meth c H locs cells slots Q (F0 m 119 ls []) := by
  obtain ⟨hx, hb, hr, hml, hown, hts, hlocks, hRf, hRl⟩ := id C0
  obtain ⟨tms, hZms, hTms, tmg, hZmg, hTmg, hNW⟩ := id hST
  intro n
  induction n with
  | zero =>
    intro x3 x2 w0_1 w1_n w1_a kc ks hf
    exact absurd hf (by simp [f_FW_putBlock_119])
  | succ n ih =>
    intro x3 x2 w0_1 w1_n w1_a kc ks hf q1 nA1 q11 nA11 cells slots H locs ls hK hP hD hS hkc hks hl
    unfold f_FW_putBlock_119 at hf
    refine lv_iload_n hx hb d_FW_putBlock_119 rfl (lv_at hl 0 rfl) ?_
    refine lv_aload_n hx hb d_FW_putBlock_120 rfl (lv_at hl 2 rfl) ?_
    refine va_get (D := (dC, dI)) (ci := 8) (v := .int zLec) (C := RZone) (T := TZone) (N := 17) hx hb hts in_Zone hown hK hP 2 rfl rfl 3 (by decide) (hts (.fieldLink "ZoneFiles$FileWriting" 71 "ZoneFiles$Zone" "leapCount" "I") m_1_175) (fun _ h9 => h9) rfl d_FW_putBlock_121 ?_
    refine lv_icmp_ge (tgt := 156) hx hb d_FW_putBlock_124 (by decide) (fun c_13 => ?_) (fun c_13 => ?_)
    · have hf := it_t c_13 hf
      refine lv_iconst (v := 0) hx hb d_FW_putBlock_156 (by decide) ?_
      refine lv_istore_n (lv' := [(3, .int 0), (0, .ref into), (1, .ref zz), (2, .int x2)]) hx hb d_FW_putBlock_157 rfl hl (by decide) rfl (fun ls hl => ?_)
      exact k_FW_putBlock_158 C0 hST hA hE nf hf hK hP hD hS hkc hks (lv_sub hl [0, 1, 2] rfl)
    · have hf := it_f c_13 hf
      refine lv_aload_n hx hb d_FW_putBlock_127 rfl (lv_at hl 1 rfl) ?_
      refine lv_aload_n hx hb d_FW_putBlock_128 rfl (lv_at hl 2 rfl) ?_
      refine va_get (D := (dC, dI)) (ci := 8) (v := .ref zLt) (C := RZone) (T := TZone) (N := 17) hx hb hts in_Zone hown hK hP 2 rfl rfl 14 (by decide) (hts (.fieldLink "ZoneFiles$FileWriting" 99 "ZoneFiles$Zone" "leapTimes" "[J") m_1_219) (fun _ h9 => h9) rfl d_FW_putBlock_129 ?_
      refine lv_iload_n hx hb d_FW_putBlock_132 rfl (lv_at hl 0 rfl) ?_
      obtain ⟨c_32, hf⟩ := it_n hf
      refine va_lald hx hb hK hP 12 9 rfl rfl c_32 d_FW_putBlock_133 ?_
      refine lv_iload_n hx hb d_FW_putBlock_134 rfl (lv_at hl 3 rfl) ?_
      obtain ⟨⟨⟨z_33, z_34, z_35⟩, kc_38, ks_39⟩, hc, hf⟩ := ob hf
      obtain ⟨kc, ks, hf, ekc, eks⟩ := oa hf
      have hPc := hP.sub (ws' := [(into, .inr (0, [.ref q1, .int w0_1])), (q1, .inl (nA1, w1_n, .inl w1_a))]) [0, 1] rfl
      have hDc := hD.sub (ws' := [(into, .inr (0, [.ref q1, .int w0_1])), (q1, .inl (nA1, w1_n, .inl w1_a))]) [0, 1] (by decide) rfl
      have hKc := hK.sub (tys' := [(nA1, .byte)]) [0] rfl
      have hFc := va_free (wc := [(into, .inr (0, [.ref q1, .int w0_1])), (q1, .inl (nA1, w1_n, .inl w1_a))]) hD hS hA [0, 1] rfl
      refine cl_M (v := none) (st1 := []) (va_runV (As := [.long (zLtA x3.toNatClampNeg), .int x2]) (rest := []) ⟨hx, hb, hml, hown, hts⟩ (c_By_putNumber l dC dI into q1 nA1 H.size nf (zLtA x3.toNatClampNeg) x2 w0_1 w1_n w1_a hc) (cwV 2 hts (gdV m_6_36 m_6_37 m_6_38 m_1_2 m_6_39) rfl rfl rfl (by decide +kernel) ⟨Nat.le_trans (Nat.le_of_ble_eq_true rfl) hRf, Nat.le_trans (Nat.le_of_ble_eq_true rfl) hRl⟩) ((MU.pre hPc hKc hDc (hST.mu hS hFc)).vir (va_recv hKc hPc (ci := 0) (q0 := 0) rfl rfl)) rfl rfl hl.1 rfl (lv_room (Nat.le_of_ble_eq_true rfl)) d_FW_putBlock_135 ⟨cb hkc ekc, cb hks eks⟩) rfl hS (fun q _ h => hFc q h) hFc (fun t H1 locs ht hvm hB hz1 hk1 hS => ?_)
      obtain ⟨q_36, cq_37, hP1, hK1, hD1⟩ := hB
      rw [ht] at hP1
      have hK1 := va_K.moved hvm.symm hK1
      obtain ⟨hP, hD⟩ := va_join (wr := [(zz, .inr (8, [.int zVer, .int zTic, .int zTyc, .int zLec, .int zStc, .int zUtc, .ref zTi, .ref zTt, .ref zOf, .ref zDs, .ref zIx, .ref zSd, .ref zUt, .ref zCh, .ref zLt, .ref zLo, .ref zRu])), (zTi, .inl (cAzTi, 200, .inr (.inl zTiA))), (zTt, .inl (cAzTt, 200, .inl zTtA)), (zOf, .inl (cAzOf, 40, .inl zOfA)), (zDs, .inl (cAzDs, 40, .inl zDsA)), (zIx, .inl (cAzIx, 40, .inl zIxA)), (zSd, .inl (cAzSd, 40, .inl zSdA)), (zUt, .inl (cAzUt, 40, .inl zUtA)), (zCh, .inr (0, [.ref q11, .int chS])), (q11, .inl (nA11, chN, .inl chA)), (zLt, .inl (cAzLt, 40, .inr (.inl zLtA))), (zLo, .inl (cAzLo, 40, .inl zLoA))]) (w1 := [(into, .inr (0, [.ref q_36, .int z_33])), (q_36, .inl (cq_37, z_34, .inl z_35))]) hP hD [0, 1] [2, 3, 4, 5, 6, 7, 8, 9, 10, 11, 12, 13] rfl rfl (by decide) (by decide) hk1 hFc hP1 hD1
      have hK := (hK.sub (tys' := [(cAzTi, .long), (cAzTt, .int), (cAzOf, .int), (cAzDs, .int), (cAzIx, .int), (cAzSd, .int), (cAzUt, .int), (nA11, .byte), (cAzLt, .long), (cAzLo, .int)]) [1, 2, 3, 4, 5, 6, 7, 8, 9, 10] rfl).app hK1
      generalize H1 = H at hP hS ⊢
      have hP := hP.sub (ws' := [(into, .inr (0, [.ref q_36, .int z_33])), (q_36, .inl (cq_37, z_34, .inl z_35)), (zz, .inr (8, [.int zVer, .int zTic, .int zTyc, .int zLec, .int zStc, .int zUtc, .ref zTi, .ref zTt, .ref zOf, .ref zDs, .ref zIx, .ref zSd, .ref zUt, .ref zCh, .ref zLt, .ref zLo, .ref zRu])), (zTi, .inl (cAzTi, 200, .inr (.inl zTiA))), (zTt, .inl (cAzTt, 200, .inl zTtA)), (zOf, .inl (cAzOf, 40, .inl zOfA)), (zDs, .inl (cAzDs, 40, .inl zDsA)), (zIx, .inl (cAzIx, 40, .inl zIxA)), (zSd, .inl (cAzSd, 40, .inl zSdA)), (zUt, .inl (cAzUt, 40, .inl zUtA)), (zCh, .inr (0, [.ref q11, .int chS])), (q11, .inl (nA11, chN, .inl chA)), (zLt, .inl (cAzLt, 40, .inr (.inl zLtA))), (zLo, .inl (cAzLo, 40, .inl zLoA))]) [12, 13, 0, 1, 2, 3, 4, 5, 6, 7, 8, 9, 10, 11] rfl
      have hD := hD.sub (ws' := [(into, .inr (0, [.ref q_36, .int z_33])), (q_36, .inl (cq_37, z_34, .inl z_35)), (zz, .inr (8, [.int zVer, .int zTic, .int zTyc, .int zLec, .int zStc, .int zUtc, .ref zTi, .ref zTt, .ref zOf, .ref zDs, .ref zIx, .ref zSd, .ref zUt, .ref zCh, .ref zLt, .ref zLo, .ref zRu])), (zTi, .inl (cAzTi, 200, .inr (.inl zTiA))), (zTt, .inl (cAzTt, 200, .inl zTtA)), (zOf, .inl (cAzOf, 40, .inl zOfA)), (zDs, .inl (cAzDs, 40, .inl zDsA)), (zIx, .inl (cAzIx, 40, .inl zIxA)), (zSd, .inl (cAzSd, 40, .inl zSdA)), (zUt, .inl (cAzUt, 40, .inl zUtA)), (zCh, .inr (0, [.ref q11, .int chS])), (q11, .inl (nA11, chN, .inl chA)), (zLt, .inl (cAzLt, 40, .inr (.inl zLtA))), (zLo, .inl (cAzLo, 40, .inl zLoA))]) [12, 13, 0, 1, 2, 3, 4, 5, 6, 7, 8, 9, 10, 11] (by decide) rfl
      have hK := hK.sub (tys' := [(cq_37, .byte), (cAzTi, .long), (cAzTt, .int), (cAzOf, .int), (cAzDs, .int), (cAzIx, .int), (cAzSd, .int), (cAzUt, .int), (nA11, .byte), (cAzLt, .long), (cAzLo, .int)]) [10, 0, 1, 2, 3, 4, 5, 6, 7, 8, 9] rfl
      have hkc := ck hkc ekc
      have hks := ck hks eks
      generalize cells + kc_38 = cells at hkc ⊢
      generalize slots + ks_39 = slots at hks ⊢
      refine lv_aload_n hx hb d_FW_putBlock_138 rfl (lv_at hl 1 rfl) ?_
      refine lv_aload_n hx hb d_FW_putBlock_139 rfl (lv_at hl 2 rfl) ?_
      refine va_get (D := (dC, dI)) (ci := 8) (v := .ref zLo) (C := RZone) (T := TZone) (N := 17) hx hb hts in_Zone hown hK hP 2 rfl rfl 15 (by decide) (hts (.fieldLink "ZoneFiles$FileWriting" 102 "ZoneFiles$Zone" "leapCorrections" "[I") m_1_223) (fun _ h9 => h9) rfl d_FW_putBlock_140 ?_
      refine lv_iload_n hx hb d_FW_putBlock_143 rfl (lv_at hl 0 rfl) ?_
      obtain ⟨c_40, hf⟩ := it_n hf
      refine va_iald hx hb hK hP 13 10 rfl rfl c_40 d_FW_putBlock_144 ?_
      refine lv_i2l hx hb d_FW_putBlock_145 rfl ?_
      refine lv_iconst (v := 4) hx hb d_FW_putBlock_146 (by decide) ?_
      obtain ⟨⟨⟨z_41, z_42, z_43⟩, kc_46, ks_47⟩, hc, hf⟩ := ob hf
      obtain ⟨kc, ks, hf, ekc, eks⟩ := oa hf
      have hPc := hP.sub (ws' := [(into, .inr (0, [.ref q_36, .int z_33])), (q_36, .inl (cq_37, z_34, .inl z_35))]) [0, 1] rfl
      have hDc := hD.sub (ws' := [(into, .inr (0, [.ref q_36, .int z_33])), (q_36, .inl (cq_37, z_34, .inl z_35))]) [0, 1] (by decide) rfl
      have hKc := hK.sub (tys' := [(cq_37, .byte)]) [0] rfl
      have hFc := va_free (wc := [(into, .inr (0, [.ref q_36, .int z_33])), (q_36, .inl (cq_37, z_34, .inl z_35))]) hD hS hA [0, 1] rfl
      refine cl_M (v := none) (st1 := []) (va_runV (As := [.long ((zLoA x3.toNatClampNeg).toInt64), .int 4]) (rest := []) ⟨hx, hb, hml, hown, hts⟩ (c_By_putNumber l dC dI into q_36 cq_37 H.size nf ((zLoA x3.toNatClampNeg).toInt64) 4 z_33 z_34 z_35 hc) (cwV 2 hts (gdV m_6_36 m_6_37 m_6_38 m_1_2 m_6_39) rfl rfl rfl (by decide +kernel) ⟨Nat.le_trans (Nat.le_of_ble_eq_true rfl) hRf, Nat.le_trans (Nat.le_of_ble_eq_true rfl) hRl⟩) ((MU.pre hPc hKc hDc (hST.mu hS hFc)).vir (va_recv hKc hPc (ci := 0) (q0 := 0) rfl rfl)) rfl rfl hl.1 rfl (lv_room (Nat.le_of_ble_eq_true rfl)) d_FW_putBlock_147 ⟨cb hkc ekc, cb hks eks⟩) rfl hS (fun q _ h => hFc q h) hFc (fun t H1 locs ht hvm hB hz1 hk1 hS => ?_)
      obtain ⟨q_44, cq_45, hP1, hK1, hD1⟩ := hB
      rw [ht] at hP1
      have hK1 := va_K.moved hvm.symm hK1
      obtain ⟨hP, hD⟩ := va_join (wr := [(zz, .inr (8, [.int zVer, .int zTic, .int zTyc, .int zLec, .int zStc, .int zUtc, .ref zTi, .ref zTt, .ref zOf, .ref zDs, .ref zIx, .ref zSd, .ref zUt, .ref zCh, .ref zLt, .ref zLo, .ref zRu])), (zTi, .inl (cAzTi, 200, .inr (.inl zTiA))), (zTt, .inl (cAzTt, 200, .inl zTtA)), (zOf, .inl (cAzOf, 40, .inl zOfA)), (zDs, .inl (cAzDs, 40, .inl zDsA)), (zIx, .inl (cAzIx, 40, .inl zIxA)), (zSd, .inl (cAzSd, 40, .inl zSdA)), (zUt, .inl (cAzUt, 40, .inl zUtA)), (zCh, .inr (0, [.ref q11, .int chS])), (q11, .inl (nA11, chN, .inl chA)), (zLt, .inl (cAzLt, 40, .inr (.inl zLtA))), (zLo, .inl (cAzLo, 40, .inl zLoA))]) (w1 := [(into, .inr (0, [.ref q_44, .int z_41])), (q_44, .inl (cq_45, z_42, .inl z_43))]) hP hD [0, 1] [2, 3, 4, 5, 6, 7, 8, 9, 10, 11, 12, 13] rfl rfl (by decide) (by decide) hk1 hFc hP1 hD1
      have hK := (hK.sub (tys' := [(cAzTi, .long), (cAzTt, .int), (cAzOf, .int), (cAzDs, .int), (cAzIx, .int), (cAzSd, .int), (cAzUt, .int), (nA11, .byte), (cAzLt, .long), (cAzLo, .int)]) [1, 2, 3, 4, 5, 6, 7, 8, 9, 10] rfl).app hK1
      generalize H1 = H at hP hS ⊢
      have hP := hP.sub (ws' := [(into, .inr (0, [.ref q_44, .int z_41])), (q_44, .inl (cq_45, z_42, .inl z_43)), (zz, .inr (8, [.int zVer, .int zTic, .int zTyc, .int zLec, .int zStc, .int zUtc, .ref zTi, .ref zTt, .ref zOf, .ref zDs, .ref zIx, .ref zSd, .ref zUt, .ref zCh, .ref zLt, .ref zLo, .ref zRu])), (zTi, .inl (cAzTi, 200, .inr (.inl zTiA))), (zTt, .inl (cAzTt, 200, .inl zTtA)), (zOf, .inl (cAzOf, 40, .inl zOfA)), (zDs, .inl (cAzDs, 40, .inl zDsA)), (zIx, .inl (cAzIx, 40, .inl zIxA)), (zSd, .inl (cAzSd, 40, .inl zSdA)), (zUt, .inl (cAzUt, 40, .inl zUtA)), (zCh, .inr (0, [.ref q11, .int chS])), (q11, .inl (nA11, chN, .inl chA)), (zLt, .inl (cAzLt, 40, .inr (.inl zLtA))), (zLo, .inl (cAzLo, 40, .inl zLoA))]) [12, 13, 0, 1, 2, 3, 4, 5, 6, 7, 8, 9, 10, 11] rfl
      have hD := hD.sub (ws' := [(into, .inr (0, [.ref q_44, .int z_41])), (q_44, .inl (cq_45, z_42, .inl z_43)), (zz, .inr (8, [.int zVer, .int zTic, .int zTyc, .int zLec, .int zStc, .int zUtc, .ref zTi, .ref zTt, .ref zOf, .ref zDs, .ref zIx, .ref zSd, .ref zUt, .ref zCh, .ref zLt, .ref zLo, .ref zRu])), (zTi, .inl (cAzTi, 200, .inr (.inl zTiA))), (zTt, .inl (cAzTt, 200, .inl zTtA)), (zOf, .inl (cAzOf, 40, .inl zOfA)), (zDs, .inl (cAzDs, 40, .inl zDsA)), (zIx, .inl (cAzIx, 40, .inl zIxA)), (zSd, .inl (cAzSd, 40, .inl zSdA)), (zUt, .inl (cAzUt, 40, .inl zUtA)), (zCh, .inr (0, [.ref q11, .int chS])), (q11, .inl (nA11, chN, .inl chA)), (zLt, .inl (cAzLt, 40, .inr (.inl zLtA))), (zLo, .inl (cAzLo, 40, .inl zLoA))]) [12, 13, 0, 1, 2, 3, 4, 5, 6, 7, 8, 9, 10, 11] (by decide) rfl
      have hK := hK.sub (tys' := [(cq_45, .byte), (cAzTi, .long), (cAzTt, .int), (cAzOf, .int), (cAzDs, .int), (cAzIx, .int), (cAzSd, .int), (cAzUt, .int), (nA11, .byte), (cAzLt, .long), (cAzLo, .int)]) [10, 0, 1, 2, 3, 4, 5, 6, 7, 8, 9] rfl
      have hkc := ck hkc ekc
      have hks := ck hks eks
      generalize cells + kc_46 = cells at hkc ⊢
      generalize slots + ks_47 = slots at hks ⊢
      refine lv_iinc (v := x3 + 1) (lv' := [(3, .int (x3 + 1)), (0, .ref into), (1, .ref zz), (2, .int x2)]) hx hb d_FW_putBlock_150 hl (k := 0) rfl rfl (by decide) rfl (fun ls hl => ?_)
      refine lv_goto (tgt := 119) hx hb d_FW_putBlock_153 (by decide) ?_
      exact ih hf hK hP hD hS hkc hks (lv_sub hl [0, 1, 2, 3] rfl)
set_option maxHeartbeats 400000 in
set_option maxRecDepth 100000 in
theorem k_FW_putBlock_55 (C0 : Cx p s m meth c args R b_FW_putBlock "ZoneFiles$FileWriting" 4 none 4 86) (hST : ST A s s.heap) (hA : ∀ q, s.heap.size ≤ q → A q) (hE : ∀ (pc : Nat) (ls : Array Slot) {q1 : Nat} {q11 : Nat} {nA1 : ClassId} {nA11 : ClassId} (H : Heap) (locs : List Loc), decode b_FW_putBlock pc = .ok (.return_, 1) → va_P (dC, dI) classes [(into, .inr (0, [.ref q1, .int v0_1])), (q1, .inl (nA1, v1_n, .inl v1_a)), (zz, .inr (8, [.int zVer, .int zTic, .int zTyc, .int zLec, .int zStc, .int zUtc, .ref zTi, .ref zTt, .ref zOf, .ref zDs, .ref zIx, .ref zSd, .ref zUt, .ref zCh, .ref zLt, .ref zLo, .ref zRu])), (zTi, .inl (cAzTi, 200, .inr (.inl zTiA))), (zTt, .inl (cAzTt, 200, .inl zTtA)), (zOf, .inl (cAzOf, 40, .inl zOfA)), (zDs, .inl (cAzDs, 40, .inl zDsA)), (zIx, .inl (cAzIx, 40, .inl zIxA)), (zSd, .inl (cAzSd, 40, .inl zSdA)), (zUt, .inl (cAzUt, 40, .inl zUtA)), (zCh, .inr (0, [.ref q11, .int chS])), (q11, .inl (nA11, chN, .inl chA)), (zLt, .inl (cAzLt, 40, .inr (.inl zLtA))), (zLo, .inl (cAzLo, 40, .inl zLoA))] H → va_D A [(into, .inr (0, [.ref q1, .int v0_1])), (q1, .inl (nA1, v1_n, .inl v1_a)), (zz, .inr (8, [.int zVer, .int zTic, .int zTyc, .int zLec, .int zStc, .int zUtc, .ref zTi, .ref zTt, .ref zOf, .ref zDs, .ref zIx, .ref zSd, .ref zUt, .ref zCh, .ref zLt, .ref zLo, .ref zRu])), (zTi, .inl (cAzTi, 200, .inr (.inl zTiA))), (zTt, .inl (cAzTt, 200, .inl zTtA)), (zOf, .inl (cAzOf, 40, .inl zOfA)), (zDs, .inl (cAzDs, 40, .inl zDsA)), (zIx, .inl (cAzIx, 40, .inl zIxA)), (zSd, .inl (cAzSd, 40, .inl zSdA)), (zUt, .inl (cAzUt, 40, .inl zUtA)), (zCh, .inr (0, [.ref q11, .int chS])), (q11, .inl (nA11, chN, .inl chA)), (zLt, .inl (cAzLt, 40, .inr (.inl zLtA))), (zLo, .inl (cAzLo, 40, .inl zLoA))] → va_S A s.heap H locs → va_K (dC, dI) classes [(nA1, .byte), (cAzTi, .long), (cAzTt, .int), (cAzOf, .int), (cAzDs, .int), (cAzIx, .int), (cAzSd, .int), (cAzUt, .int), (nA11, .byte), (cAzLt, .long), (cAzLo, .int)] s → W p l e R s m args below meth c H locs R.cells R.slots Q (F0 m pc ls [])) : ∀ (n : Nat) {x3 : Int32} {x2 : Int32} {w0_1 : Int32} {w1_n : Nat} {w1_a : Nat → Int32} {kc ks : Nat}, f_FW_putBlock_55 nf zTyc zLec zStc zUtc zOfA zDsA zIxA zSdA zUtA chS chN chA zLtA zLoA n x3 x2 w0_1 w1_n w1_a = some ((v0_1, v1_n, v1_a), kc, ks) → ∀ {q1 : Nat} {nA1 : ClassId} {q11 : Nat} {nA11 : ClassId} {cells slots : Nat} {H : Heap} {locs : List Loc} {ls : Array Slot}, va_K (dC, dI) classes [(nA1, .byte), (cAzTi, .long), (cAzTt, .int), (cAzOf, .int), (cAzDs, .int), (cAzIx, .int), (cAzSd, .int), (cAzUt, .int), (nA11, .byte), (cAzLt, .long), (cAzLo, .int)] s → va_P (dC, dI) classes [(into, .inr (0, [.ref q1, .int w0_1])), (q1, .inl (nA1, w1_n, .inl w1_a)), (zz, .inr (8, [.int zVer, .int zTic, .int zTyc, .int zLec, .int zStc, .int zUtc, .ref zTi, .ref zTt, .ref zOf, .ref zDs, .ref zIx, .ref zSd, .ref zUt, .ref zCh, .ref zLt, .ref zLo, .ref zRu])), (zTi, .inl (cAzTi, 200, .inr (.inl zTiA))), (zTt, .inl (cAzTt, 200, .inl zTtA)), (zOf, .inl (cAzOf, 40, .inl zOfA)), (zDs, .inl (cAzDs, 40, .inl zDsA)), (zIx, .inl (cAzIx, 40, .inl zIxA)), (zSd, .inl (cAzSd, 40, .inl zSdA)), (zUt, .inl (cAzUt, 40, .inl zUtA)), (zCh, .inr (0, [.ref q11, .int chS])), (q11, .inl (nA11, chN, .inl chA)), (zLt, .inl (cAzLt, 40, .inr (.inl zLtA))), (zLo, .inl (cAzLo, 40, .inl zLoA))] H → va_D A [(into, .inr (0, [.ref q1, .int w0_1])), (q1, .inl (nA1, w1_n, .inl w1_a)), (zz, .inr (8, [.int zVer, .int zTic, .int zTyc, .int zLec, .int zStc, .int zUtc, .ref zTi, .ref zTt, .ref zOf, .ref zDs, .ref zIx, .ref zSd, .ref zUt, .ref zCh, .ref zLt, .ref zLo, .ref zRu])), (zTi, .inl (cAzTi, 200, .inr (.inl zTiA))), (zTt, .inl (cAzTt, 200, .inl zTtA)), (zOf, .inl (cAzOf, 40, .inl zOfA)), (zDs, .inl (cAzDs, 40, .inl zDsA)), (zIx, .inl (cAzIx, 40, .inl zIxA)), (zSd, .inl (cAzSd, 40, .inl zSdA)), (zUt, .inl (cAzUt, 40, .inl zUtA)), (zCh, .inr (0, [.ref q11, .int chS])), (q11, .inl (nA11, chN, .inl chA)), (zLt, .inl (cAzLt, 40, .inr (.inl zLtA))), (zLo, .inl (cAzLo, 40, .inl zLoA))] → va_S A s.heap H locs → cells + kc = R.cells → slots + ks = R.slots → lv_has ls 4 [(3, .int x3), (0, .ref into), (1, .ref zz), (2, .int x2)] → W p l e R s m args below meth c H locs cells slots Q (F0 m 55 ls []) := by
  obtain ⟨hx, hb, hr, hml, hown, hts, hlocks, hRf, hRl⟩ := id C0
  obtain ⟨tms, hZms, hTms, tmg, hZmg, hTmg, hNW⟩ := id hST
  intro n
  induction n with
  | zero =>
    intro x3 x2 w0_1 w1_n w1_a kc ks hf
    exact absurd hf (by simp [f_FW_putBlock_55])
  | succ n ih =>
    intro x3 x2 w0_1 w1_n w1_a kc ks hf q1 nA1 q11 nA11 cells slots H locs ls hK hP hD hS hkc hks hl
    unfold f_FW_putBlock_55 at hf
    refine lv_iload_n hx hb d_FW_putBlock_55 rfl (lv_at hl 0 rfl) ?_
    refine lv_aload_n hx hb d_FW_putBlock_56 rfl (lv_at hl 2 rfl) ?_
    refine va_get (D := (dC, dI)) (ci := 8) (v := .int zTyc) (C := RZone) (T := TZone) (N := 17) hx hb hts in_Zone hown hK hP 2 rfl rfl 2 (by decide) (hts (.fieldLink "ZoneFiles$FileWriting" 77 "ZoneFiles$Zone" "typeCount" "I") m_1_171) (fun _ h9 => h9) rfl d_FW_putBlock_57 ?_
    refine lv_icmp_ge (tgt := 101) hx hb d_FW_putBlock_60 (by decide) (fun c_3 => ?_) (fun c_3 => ?_)
    · have hf := it_t c_3 hf
      refine lv_aload_n hx hb d_FW_putBlock_101 rfl (lv_at hl 1 rfl) ?_
      refine lv_aload_n hx hb d_FW_putBlock_102 rfl (lv_at hl 2 rfl) ?_
      refine va_get (D := (dC, dI)) (ci := 8) (v := .ref zCh) (C := RZone) (T := TZone) (N := 17) hx hb hts in_Zone hown hK hP 2 rfl rfl 13 (by decide) (hts (.fieldLink "ZoneFiles$FileWriting" 80 "ZoneFiles$Zone" "chars" "LZoneFiles$Bytes;") m_1_215) (fun _ h9 => h9) rfl d_FW_putBlock_103 ?_
      refine lv_iconst (v := 0) hx hb d_FW_putBlock_106 (by decide) ?_
      refine lv_aload_n hx hb d_FW_putBlock_107 rfl (lv_at hl 2 rfl) ?_
      refine va_get (D := (dC, dI)) (ci := 8) (v := .ref zCh) (C := RZone) (T := TZone) (N := 17) hx hb hts in_Zone hown hK hP 2 rfl rfl 13 (by decide) (hts (.fieldLink "ZoneFiles$FileWriting" 80 "ZoneFiles$Zone" "chars" "LZoneFiles$Bytes;") m_1_215) (fun _ h9 => h9) rfl d_FW_putBlock_108 ?_
      refine va_get (D := (dC, dI)) (ci := 0) (v := .int chS) (C := RBytes) (T := TBytes) (N := 2) hx hb hts in_Bytes hown hK hP 10 rfl rfl 1 (by decide) (hts (.fieldLink "ZoneFiles$FileWriting" 43 "ZoneFiles$Bytes" "size" "I") m_1_41) (fun _ h9 => h9) rfl d_FW_putBlock_111 ?_
      obtain ⟨⟨⟨z_4, z_5, z_6⟩, kc_11, ks_12⟩, hc, hf⟩ := ob hf
      obtain ⟨kc, ks, hf, ekc, eks⟩ := oa hf
      have hPc := hP.sub (ws' := [(into, .inr (0, [.ref q1, .int w0_1])), (q1, .inl (nA1, w1_n, .inl w1_a)), (zCh, .inr (0, [.ref q11, .int chS])), (q11, .inl (nA11, chN, .inl chA))]) [0, 1, 10, 11] rfl
      have hDc := hD.sub (ws' := [(into, .inr (0, [.ref q1, .int w0_1])), (q1, .inl (nA1, w1_n, .inl w1_a)), (zCh, .inr (0, [.ref q11, .int chS])), (q11, .inl (nA11, chN, .inl chA))]) [0, 1, 10, 11] (by decide) rfl
      have hKc := hK.sub (tys' := [(nA1, .byte), (nA11, .byte)]) [0, 8] rfl
      have hFc := va_free (wc := [(into, .inr (0, [.ref q1, .int w0_1])), (q1, .inl (nA1, w1_n, .inl w1_a)), (zCh, .inr (0, [.ref q11, .int chS])), (q11, .inl (nA11, chN, .inl chA))]) hD hS hA [0, 1, 10, 11] rfl
      refine cl_M (v := none) (st1 := []) (va_runV (As := [.ref zCh, .int 0, .int chS]) (rest := []) ⟨hx, hb, hml, hown, hts⟩ (c_By_putAll l dC dI into zCh q1 q11 nA1 nA11 H.size nf 0 chS w0_1 w1_n w1_a chS chN chA hc) (cwV 3 hts (gdV m_6_43 m_3_8 m_3_9 m_1_2 m_3_10) rfl rfl rfl (by decide +kernel) ⟨Nat.le_trans (Nat.le_of_ble_eq_true rfl) hRf, Nat.le_trans (Nat.le_of_ble_eq_true rfl) hRl⟩) ((MU.pre hPc hKc hDc (hST.mu hS hFc)).vir (va_recv hKc hPc (ci := 0) (q0 := 0) rfl rfl)) rfl rfl hl.1 rfl (lv_room (Nat.le_of_ble_eq_true rfl)) d_FW_putBlock_114 ⟨cb hkc ekc, cb hks eks⟩) rfl hS (fun q _ h => hFc q h) hFc (fun t H1 locs ht hvm hB hz1 hk1 hS => ?_)
      obtain ⟨q_7, q_8, cq_9, cq_10, hP1, hK1, hD1⟩ := hB
      rw [ht] at hP1
      have hK1 := va_K.moved hvm.symm hK1
      obtain ⟨hP, hD⟩ := va_join (wr := [(zz, .inr (8, [.int zVer, .int zTic, .int zTyc, .int zLec, .int zStc, .int zUtc, .ref zTi, .ref zTt, .ref zOf, .ref zDs, .ref zIx, .ref zSd, .ref zUt, .ref zCh, .ref zLt, .ref zLo, .ref zRu])), (zTi, .inl (cAzTi, 200, .inr (.inl zTiA))), (zTt, .inl (cAzTt, 200, .inl zTtA)), (zOf, .inl (cAzOf, 40, .inl zOfA)), (zDs, .inl (cAzDs, 40, .inl zDsA)), (zIx, .inl (cAzIx, 40, .inl zIxA)), (zSd, .inl (cAzSd, 40, .inl zSdA)), (zUt, .inl (cAzUt, 40, .inl zUtA)), (zLt, .inl (cAzLt, 40, .inr (.inl zLtA))), (zLo, .inl (cAzLo, 40, .inl zLoA))]) (w1 := [(into, .inr (0, [.ref q_7, .int z_4])), (q_7, .inl (cq_9, z_5, .inl z_6)), (zCh, .inr (0, [.ref q_8, .int chS])), (q_8, .inl (cq_10, chN, .inl chA))]) hP hD [0, 1, 10, 11] [2, 3, 4, 5, 6, 7, 8, 9, 12, 13] rfl rfl (by decide) (by decide) hk1 hFc hP1 hD1
      have hK := (hK.sub (tys' := [(cAzTi, .long), (cAzTt, .int), (cAzOf, .int), (cAzDs, .int), (cAzIx, .int), (cAzSd, .int), (cAzUt, .int), (cAzLt, .long), (cAzLo, .int)]) [1, 2, 3, 4, 5, 6, 7, 9, 10] rfl).app hK1
      generalize H1 = H at hP hS ⊢
      have hP := hP.sub (ws' := [(into, .inr (0, [.ref q_7, .int z_4])), (q_7, .inl (cq_9, z_5, .inl z_6)), (zz, .inr (8, [.int zVer, .int zTic, .int zTyc, .int zLec, .int zStc, .int zUtc, .ref zTi, .ref zTt, .ref zOf, .ref zDs, .ref zIx, .ref zSd, .ref zUt, .ref zCh, .ref zLt, .ref zLo, .ref zRu])), (zTi, .inl (cAzTi, 200, .inr (.inl zTiA))), (zTt, .inl (cAzTt, 200, .inl zTtA)), (zOf, .inl (cAzOf, 40, .inl zOfA)), (zDs, .inl (cAzDs, 40, .inl zDsA)), (zIx, .inl (cAzIx, 40, .inl zIxA)), (zSd, .inl (cAzSd, 40, .inl zSdA)), (zUt, .inl (cAzUt, 40, .inl zUtA)), (zCh, .inr (0, [.ref q_8, .int chS])), (q_8, .inl (cq_10, chN, .inl chA)), (zLt, .inl (cAzLt, 40, .inr (.inl zLtA))), (zLo, .inl (cAzLo, 40, .inl zLoA))]) [10, 11, 0, 1, 2, 3, 4, 5, 6, 7, 12, 13, 8, 9] rfl
      have hD := hD.sub (ws' := [(into, .inr (0, [.ref q_7, .int z_4])), (q_7, .inl (cq_9, z_5, .inl z_6)), (zz, .inr (8, [.int zVer, .int zTic, .int zTyc, .int zLec, .int zStc, .int zUtc, .ref zTi, .ref zTt, .ref zOf, .ref zDs, .ref zIx, .ref zSd, .ref zUt, .ref zCh, .ref zLt, .ref zLo, .ref zRu])), (zTi, .inl (cAzTi, 200, .inr (.inl zTiA))), (zTt, .inl (cAzTt, 200, .inl zTtA)), (zOf, .inl (cAzOf, 40, .inl zOfA)), (zDs, .inl (cAzDs, 40, .inl zDsA)), (zIx, .inl (cAzIx, 40, .inl zIxA)), (zSd, .inl (cAzSd, 40, .inl zSdA)), (zUt, .inl (cAzUt, 40, .inl zUtA)), (zCh, .inr (0, [.ref q_8, .int chS])), (q_8, .inl (cq_10, chN, .inl chA)), (zLt, .inl (cAzLt, 40, .inr (.inl zLtA))), (zLo, .inl (cAzLo, 40, .inl zLoA))]) [10, 11, 0, 1, 2, 3, 4, 5, 6, 7, 12, 13, 8, 9] (by decide) rfl
      have hK := hK.sub (tys' := [(cq_9, .byte), (cAzTi, .long), (cAzTt, .int), (cAzOf, .int), (cAzDs, .int), (cAzIx, .int), (cAzSd, .int), (cAzUt, .int), (cq_10, .byte), (cAzLt, .long), (cAzLo, .int)]) [9, 0, 1, 2, 3, 4, 5, 6, 10, 7, 8] rfl
      have hkc := ck hkc ekc
      have hks := ck hks eks
      generalize cells + kc_11 = cells at hkc ⊢
      generalize slots + ks_12 = slots at hks ⊢
      refine lv_iconst (v := 0) hx hb d_FW_putBlock_117 (by decide) ?_
      refine lv_istore_n (lv' := [(3, .int 0), (0, .ref into), (1, .ref zz), (2, .int x2)]) hx hb d_FW_putBlock_118 rfl hl (by decide) rfl (fun ls hl => ?_)
      exact k_FW_putBlock_119 C0 hST hA hE nf hf hK hP hD hS hkc hks (lv_sub hl [0, 1, 2, 3] rfl)
    · have hf := it_f c_3 hf
      refine lv_aload_n hx hb d_FW_putBlock_63 rfl (lv_at hl 1 rfl) ?_
      refine lv_aload_n hx hb d_FW_putBlock_64 rfl (lv_at hl 2 rfl) ?_
      refine va_get (D := (dC, dI)) (ci := 8) (v := .ref zOf) (C := RZone) (T := TZone) (N := 17) hx hb hts in_Zone hown hK hP 2 rfl rfl 8 (by decide) (hts (.fieldLink "ZoneFiles$FileWriting" 90 "ZoneFiles$Zone" "offsets" "[I") m_1_195) (fun _ h9 => h9) rfl d_FW_putBlock_65 ?_
      refine lv_iload_n hx hb d_FW_putBlock_68 rfl (lv_at hl 0 rfl) ?_
      obtain ⟨c_48, hf⟩ := it_n hf
      refine va_iald hx hb hK hP 5 3 rfl rfl c_48 d_FW_putBlock_69 ?_
      refine lv_i2l hx hb d_FW_putBlock_70 rfl ?_
      refine lv_iconst (v := 4) hx hb d_FW_putBlock_71 (by decide) ?_
      obtain ⟨⟨⟨z_49, z_50, z_51⟩, kc_54, ks_55⟩, hc, hf⟩ := ob hf
      obtain ⟨kc, ks, hf, ekc, eks⟩ := oa hf
      have hPc := hP.sub (ws' := [(into, .inr (0, [.ref q1, .int w0_1])), (q1, .inl (nA1, w1_n, .inl w1_a))]) [0, 1] rfl
      have hDc := hD.sub (ws' := [(into, .inr (0, [.ref q1, .int w0_1])), (q1, .inl (nA1, w1_n, .inl w1_a))]) [0, 1] (by decide) rfl
      have hKc := hK.sub (tys' := [(nA1, .byte)]) [0] rfl
      have hFc := va_free (wc := [(into, .inr (0, [.ref q1, .int w0_1])), (q1, .inl (nA1, w1_n, .inl w1_a))]) hD hS hA [0, 1] rfl
      refine cl_M (v := none) (st1 := []) (va_runV (As := [.long ((zOfA x3.toNatClampNeg).toInt64), .int 4]) (rest := []) ⟨hx, hb, hml, hown, hts⟩ (c_By_putNumber l dC dI into q1 nA1 H.size nf ((zOfA x3.toNatClampNeg).toInt64) 4 w0_1 w1_n w1_a hc) (cwV 2 hts (gdV m_6_36 m_6_37 m_6_38 m_1_2 m_6_39) rfl rfl rfl (by decide +kernel) ⟨Nat.le_trans (Nat.le_of_ble_eq_true rfl) hRf, Nat.le_trans (Nat.le_of_ble_eq_true rfl) hRl⟩) ((MU.pre hPc hKc hDc (hST.mu hS hFc)).vir (va_recv hKc hPc (ci := 0) (q0 := 0) rfl rfl)) rfl rfl hl.1 rfl (lv_room (Nat.le_of_ble_eq_true rfl)) d_FW_putBlock_72 ⟨cb hkc ekc, cb hks eks⟩) rfl hS (fun q _ h => hFc q h) hFc (fun t H1 locs ht hvm hB hz1 hk1 hS => ?_)
      obtain ⟨q_52, cq_53, hP1, hK1, hD1⟩ := hB
      rw [ht] at hP1
      have hK1 := va_K.moved hvm.symm hK1
      obtain ⟨hP, hD⟩ := va_join (wr := [(zz, .inr (8, [.int zVer, .int zTic, .int zTyc, .int zLec, .int zStc, .int zUtc, .ref zTi, .ref zTt, .ref zOf, .ref zDs, .ref zIx, .ref zSd, .ref zUt, .ref zCh, .ref zLt, .ref zLo, .ref zRu])), (zTi, .inl (cAzTi, 200, .inr (.inl zTiA))), (zTt, .inl (cAzTt, 200, .inl zTtA)), (zOf, .inl (cAzOf, 40, .inl zOfA)), (zDs, .inl (cAzDs, 40, .inl zDsA)), (zIx, .inl (cAzIx, 40, .inl zIxA)), (zSd, .inl (cAzSd, 40, .inl zSdA)), (zUt, .inl (cAzUt, 40, .inl zUtA)), (zCh, .inr (0, [.ref q11, .int chS])), (q11, .inl (nA11, chN, .inl chA)), (zLt, .inl (cAzLt, 40, .inr (.inl zLtA))), (zLo, .inl (cAzLo, 40, .inl zLoA))]) (w1 := [(into, .inr (0, [.ref q_52, .int z_49])), (q_52, .inl (cq_53, z_50, .inl z_51))]) hP hD [0, 1] [2, 3, 4, 5, 6, 7, 8, 9, 10, 11, 12, 13] rfl rfl (by decide) (by decide) hk1 hFc hP1 hD1
      have hK := (hK.sub (tys' := [(cAzTi, .long), (cAzTt, .int), (cAzOf, .int), (cAzDs, .int), (cAzIx, .int), (cAzSd, .int), (cAzUt, .int), (nA11, .byte), (cAzLt, .long), (cAzLo, .int)]) [1, 2, 3, 4, 5, 6, 7, 8, 9, 10] rfl).app hK1
      generalize H1 = H at hP hS ⊢
      have hP := hP.sub (ws' := [(into, .inr (0, [.ref q_52, .int z_49])), (q_52, .inl (cq_53, z_50, .inl z_51)), (zz, .inr (8, [.int zVer, .int zTic, .int zTyc, .int zLec, .int zStc, .int zUtc, .ref zTi, .ref zTt, .ref zOf, .ref zDs, .ref zIx, .ref zSd, .ref zUt, .ref zCh, .ref zLt, .ref zLo, .ref zRu])), (zTi, .inl (cAzTi, 200, .inr (.inl zTiA))), (zTt, .inl (cAzTt, 200, .inl zTtA)), (zOf, .inl (cAzOf, 40, .inl zOfA)), (zDs, .inl (cAzDs, 40, .inl zDsA)), (zIx, .inl (cAzIx, 40, .inl zIxA)), (zSd, .inl (cAzSd, 40, .inl zSdA)), (zUt, .inl (cAzUt, 40, .inl zUtA)), (zCh, .inr (0, [.ref q11, .int chS])), (q11, .inl (nA11, chN, .inl chA)), (zLt, .inl (cAzLt, 40, .inr (.inl zLtA))), (zLo, .inl (cAzLo, 40, .inl zLoA))]) [12, 13, 0, 1, 2, 3, 4, 5, 6, 7, 8, 9, 10, 11] rfl
      have hD := hD.sub (ws' := [(into, .inr (0, [.ref q_52, .int z_49])), (q_52, .inl (cq_53, z_50, .inl z_51)), (zz, .inr (8, [.int zVer, .int zTic, .int zTyc, .int zLec, .int zStc, .int zUtc, .ref zTi, .ref zTt, .ref zOf, .ref zDs, .ref zIx, .ref zSd, .ref zUt, .ref zCh, .ref zLt, .ref zLo, .ref zRu])), (zTi, .inl (cAzTi, 200, .inr (.inl zTiA))), (zTt, .inl (cAzTt, 200, .inl zTtA)), (zOf, .inl (cAzOf, 40, .inl zOfA)), (zDs, .inl (cAzDs, 40, .inl zDsA)), (zIx, .inl (cAzIx, 40, .inl zIxA)), (zSd, .inl (cAzSd, 40, .inl zSdA)), (zUt, .inl (cAzUt, 40, .inl zUtA)), (zCh, .inr (0, [.ref q11, .int chS])), (q11, .inl (nA11, chN, .inl chA)), (zLt, .inl (cAzLt, 40, .inr (.inl zLtA))), (zLo, .inl (cAzLo, 40, .inl zLoA))]) [12, 13, 0, 1, 2, 3, 4, 5, 6, 7, 8, 9, 10, 11] (by decide) rfl
      have hK := hK.sub (tys' := [(cq_53, .byte), (cAzTi, .long), (cAzTt, .int), (cAzOf, .int), (cAzDs, .int), (cAzIx, .int), (cAzSd, .int), (cAzUt, .int), (nA11, .byte), (cAzLt, .long), (cAzLo, .int)]) [10, 0, 1, 2, 3, 4, 5, 6, 7, 8, 9] rfl
      have hkc := ck hkc ekc
      have hks := ck hks eks
      generalize cells + kc_54 = cells at hkc ⊢
      generalize slots + ks_55 = slots at hks ⊢
      refine lv_aload_n hx hb d_FW_putBlock_75 rfl (lv_at hl 1 rfl) ?_
      refine lv_aload_n hx hb d_FW_putBlock_76 rfl (lv_at hl 2 rfl) ?_
      refine va_get (D := (dC, dI)) (ci := 8) (v := .ref zDs) (C := RZone) (T := TZone) (N := 17) hx hb hts in_Zone hown hK hP 2 rfl rfl 9 (by decide) (hts (.fieldLink "ZoneFiles$FileWriting" 93 "ZoneFiles$Zone" "dsts" "[I") m_1_199) (fun _ h9 => h9) rfl d_FW_putBlock_77 ?_
      refine lv_iload_n hx hb d_FW_putBlock_80 rfl (lv_at hl 0 rfl) ?_
      obtain ⟨c_56, hf⟩ := it_n hf
      refine va_iald hx hb hK hP 6 4 rfl rfl c_56 d_FW_putBlock_81 ?_
      obtain ⟨⟨⟨z_57, z_58, z_59⟩, kc_62, ks_63⟩, hc, hf⟩ := ob hf
      obtain ⟨kc, ks, hf, ekc, eks⟩ := oa hf
      have hPc := hP.sub (ws' := [(into, .inr (0, [.ref q_52, .int z_49])), (q_52, .inl (cq_53, z_50, .inl z_51))]) [0, 1] rfl
      have hDc := hD.sub (ws' := [(into, .inr (0, [.ref q_52, .int z_49])), (q_52, .inl (cq_53, z_50, .inl z_51))]) [0, 1] (by decide) rfl
      have hKc := hK.sub (tys' := [(cq_53, .byte)]) [0] rfl
      have hFc := va_free (wc := [(into, .inr (0, [.ref q_52, .int z_49])), (q_52, .inl (cq_53, z_50, .inl z_51))]) hD hS hA [0, 1] rfl
      refine cl_M (v := none) (st1 := []) (va_runV (As := [.int (zDsA x3.toNatClampNeg)]) (rest := []) ⟨hx, hb, hml, hown, hts⟩ (c_By_put l dC dI into q_52 cq_53 H.size nf (zDsA x3.toNatClampNeg) z_49 z_50 z_51 hc) (cwV 1 hts (gdV m_6_31 m_2_38 m_2_39 m_1_2 m_2_40) rfl rfl rfl (by decide +kernel) ⟨Nat.le_trans (Nat.le_of_ble_eq_true rfl) hRf, Nat.le_trans (Nat.le_of_ble_eq_true rfl) hRl⟩) ((MU.pre hPc hKc hDc (hST.mu hS hFc)).vir (va_recv hKc hPc (ci := 0) (q0 := 0) rfl rfl)) rfl rfl hl.1 rfl (lv_room (Nat.le_of_ble_eq_true rfl)) d_FW_putBlock_82 ⟨cb hkc ekc, cb hks eks⟩) rfl hS (fun q _ h => hFc q h) hFc (fun t H1 locs ht hvm hB hz1 hk1 hS => ?_)
      obtain ⟨q_60, cq_61, hP1, hK1, hD1⟩ := hB
      rw [ht] at hP1
      have hK1 := va_K.moved hvm.symm hK1
      obtain ⟨hP, hD⟩ := va_join (wr := [(zz, .inr (8, [.int zVer, .int zTic, .int zTyc, .int zLec, .int zStc, .int zUtc, .ref zTi, .ref zTt, .ref zOf, .ref zDs, .ref zIx, .ref zSd, .ref zUt, .ref zCh, .ref zLt, .ref zLo, .ref zRu])), (zTi, .inl (cAzTi, 200, .inr (.inl zTiA))), (zTt, .inl (cAzTt, 200, .inl zTtA)), (zOf, .inl (cAzOf, 40, .inl zOfA)), (zDs, .inl (cAzDs, 40, .inl zDsA)), (zIx, .inl (cAzIx, 40, .inl zIxA)), (zSd, .inl (cAzSd, 40, .inl zSdA)), (zUt, .inl (cAzUt, 40, .inl zUtA)), (zCh, .inr (0, [.ref q11, .int chS])), (q11, .inl (nA11, chN, .inl chA)), (zLt, .inl (cAzLt, 40, .inr (.inl zLtA))), (zLo, .inl (cAzLo, 40, .inl zLoA))]) (w1 := [(into, .inr (0, [.ref q_60, .int z_57])), (q_60, .inl (cq_61, z_58, .inl z_59))]) hP hD [0, 1] [2, 3, 4, 5, 6, 7, 8, 9, 10, 11, 12, 13] rfl rfl (by decide) (by decide) hk1 hFc hP1 hD1
      have hK := (hK.sub (tys' := [(cAzTi, .long), (cAzTt, .int), (cAzOf, .int), (cAzDs, .int), (cAzIx, .int), (cAzSd, .int), (cAzUt, .int), (nA11, .byte), (cAzLt, .long), (cAzLo, .int)]) [1, 2, 3, 4, 5, 6, 7, 8, 9, 10] rfl).app hK1
      generalize H1 = H at hP hS ⊢
      have hP := hP.sub (ws' := [(into, .inr (0, [.ref q_60, .int z_57])), (q_60, .inl (cq_61, z_58, .inl z_59)), (zz, .inr (8, [.int zVer, .int zTic, .int zTyc, .int zLec, .int zStc, .int zUtc, .ref zTi, .ref zTt, .ref zOf, .ref zDs, .ref zIx, .ref zSd, .ref zUt, .ref zCh, .ref zLt, .ref zLo, .ref zRu])), (zTi, .inl (cAzTi, 200, .inr (.inl zTiA))), (zTt, .inl (cAzTt, 200, .inl zTtA)), (zOf, .inl (cAzOf, 40, .inl zOfA)), (zDs, .inl (cAzDs, 40, .inl zDsA)), (zIx, .inl (cAzIx, 40, .inl zIxA)), (zSd, .inl (cAzSd, 40, .inl zSdA)), (zUt, .inl (cAzUt, 40, .inl zUtA)), (zCh, .inr (0, [.ref q11, .int chS])), (q11, .inl (nA11, chN, .inl chA)), (zLt, .inl (cAzLt, 40, .inr (.inl zLtA))), (zLo, .inl (cAzLo, 40, .inl zLoA))]) [12, 13, 0, 1, 2, 3, 4, 5, 6, 7, 8, 9, 10, 11] rfl
      have hD := hD.sub (ws' := [(into, .inr (0, [.ref q_60, .int z_57])), (q_60, .inl (cq_61, z_58, .inl z_59)), (zz, .inr (8, [.int zVer, .int zTic, .int zTyc, .int zLec, .int zStc, .int zUtc, .ref zTi, .ref zTt, .ref zOf, .ref zDs, .ref zIx, .ref zSd, .ref zUt, .ref zCh, .ref zLt, .ref zLo, .ref zRu])), (zTi, .inl (cAzTi, 200, .inr (.inl zTiA))), (zTt, .inl (cAzTt, 200, .inl zTtA)), (zOf, .inl (cAzOf, 40, .inl zOfA)), (zDs, .inl (cAzDs, 40, .inl zDsA)), (zIx, .inl (cAzIx, 40, .inl zIxA)), (zSd, .inl (cAzSd, 40, .inl zSdA)), (zUt, .inl (cAzUt, 40, .inl zUtA)), (zCh, .inr (0, [.ref q11, .int chS])), (q11, .inl (nA11, chN, .inl chA)), (zLt, .inl (cAzLt, 40, .inr (.inl zLtA))), (zLo, .inl (cAzLo, 40, .inl zLoA))]) [12, 13, 0, 1, 2, 3, 4, 5, 6, 7, 8, 9, 10, 11] (by decide) rfl
      have hK := hK.sub (tys' := [(cq_61, .byte), (cAzTi, .long), (cAzTt, .int), (cAzOf, .int), (cAzDs, .int), (cAzIx, .int), (cAzSd, .int), (cAzUt, .int), (nA11, .byte), (cAzLt, .long), (cAzLo, .int)]) [10, 0, 1, 2, 3, 4, 5, 6, 7, 8, 9] rfl
      have hkc := ck hkc ekc
      have hks := ck hks eks
      generalize cells + kc_62 = cells at hkc ⊢
      generalize slots + ks_63 = slots at hks ⊢
      refine lv_aload_n hx hb d_FW_putBlock_85 rfl (lv_at hl 1 rfl) ?_
      refine lv_aload_n hx hb d_FW_putBlock_86 rfl (lv_at hl 2 rfl) ?_
      refine va_get (D := (dC, dI)) (ci := 8) (v := .ref zIx) (C := RZone) (T := TZone) (N := 17) hx hb hts in_Zone hown hK hP 2 rfl rfl 10 (by decide) (hts (.fieldLink "ZoneFiles$FileWriting" 96 "ZoneFiles$Zone" "indexes" "[I") m_1_203) (fun _ h9 => h9) rfl d_FW_putBlock_87 ?_
      refine lv_iload_n hx hb d_FW_putBlock_90 rfl (lv_at hl 0 rfl) ?_
      obtain ⟨c_64, hf⟩ := it_n hf
      refine va_iald hx hb hK hP 7 5 rfl rfl c_64 d_FW_putBlock_91 ?_
      obtain ⟨⟨⟨z_65, z_66, z_67⟩, kc_70, ks_71⟩, hc, hf⟩ := ob hf
      obtain ⟨kc, ks, hf, ekc, eks⟩ := oa hf
      have hPc := hP.sub (ws' := [(into, .inr (0, [.ref q_60, .int z_57])), (q_60, .inl (cq_61, z_58, .inl z_59))]) [0, 1] rfl
      have hDc := hD.sub (ws' := [(into, .inr (0, [.ref q_60, .int z_57])), (q_60, .inl (cq_61, z_58, .inl z_59))]) [0, 1] (by decide) rfl
      have hKc := hK.sub (tys' := [(cq_61, .byte)]) [0] rfl
      have hFc := va_free (wc := [(into, .inr (0, [.ref q_60, .int z_57])), (q_60, .inl (cq_61, z_58, .inl z_59))]) hD hS hA [0, 1] rfl
      refine cl_M (v := none) (st1 := []) (va_runV (As := [.int (zIxA x3.toNatClampNeg)]) (rest := []) ⟨hx, hb, hml, hown, hts⟩ (c_By_put l dC dI into q_60 cq_61 H.size nf (zIxA x3.toNatClampNeg) z_57 z_58 z_59 hc) (cwV 1 hts (gdV m_6_31 m_2_38 m_2_39 m_1_2 m_2_40) rfl rfl rfl (by decide +kernel) ⟨Nat.le_trans (Nat.le_of_ble_eq_true rfl) hRf, Nat.le_trans (Nat.le_of_ble_eq_true rfl) hRl⟩) ((MU.pre hPc hKc hDc (hST.mu hS hFc)).vir (va_recv hKc hPc (ci := 0) (q0 := 0) rfl rfl)) rfl rfl hl.1 rfl (lv_room (Nat.le_of_ble_eq_true rfl)) d_FW_putBlock_92 ⟨cb hkc ekc, cb hks eks⟩) rfl hS (fun q _ h => hFc q h) hFc (fun t H1 locs ht hvm hB hz1 hk1 hS => ?_)
      obtain ⟨q_68, cq_69, hP1, hK1, hD1⟩ := hB
      rw [ht] at hP1
      have hK1 := va_K.moved hvm.symm hK1
      obtain ⟨hP, hD⟩ := va_join (wr := [(zz, .inr (8, [.int zVer, .int zTic, .int zTyc, .int zLec, .int zStc, .int zUtc, .ref zTi, .ref zTt, .ref zOf, .ref zDs, .ref zIx, .ref zSd, .ref zUt, .ref zCh, .ref zLt, .ref zLo, .ref zRu])), (zTi, .inl (cAzTi, 200, .inr (.inl zTiA))), (zTt, .inl (cAzTt, 200, .inl zTtA)), (zOf, .inl (cAzOf, 40, .inl zOfA)), (zDs, .inl (cAzDs, 40, .inl zDsA)), (zIx, .inl (cAzIx, 40, .inl zIxA)), (zSd, .inl (cAzSd, 40, .inl zSdA)), (zUt, .inl (cAzUt, 40, .inl zUtA)), (zCh, .inr (0, [.ref q11, .int chS])), (q11, .inl (nA11, chN, .inl chA)), (zLt, .inl (cAzLt, 40, .inr (.inl zLtA))), (zLo, .inl (cAzLo, 40, .inl zLoA))]) (w1 := [(into, .inr (0, [.ref q_68, .int z_65])), (q_68, .inl (cq_69, z_66, .inl z_67))]) hP hD [0, 1] [2, 3, 4, 5, 6, 7, 8, 9, 10, 11, 12, 13] rfl rfl (by decide) (by decide) hk1 hFc hP1 hD1
      have hK := (hK.sub (tys' := [(cAzTi, .long), (cAzTt, .int), (cAzOf, .int), (cAzDs, .int), (cAzIx, .int), (cAzSd, .int), (cAzUt, .int), (nA11, .byte), (cAzLt, .long), (cAzLo, .int)]) [1, 2, 3, 4, 5, 6, 7, 8, 9, 10] rfl).app hK1
      generalize H1 = H at hP hS ⊢
      have hP := hP.sub (ws' := [(into, .inr (0, [.ref q_68, .int z_65])), (q_68, .inl (cq_69, z_66, .inl z_67)), (zz, .inr (8, [.int zVer, .int zTic, .int zTyc, .int zLec, .int zStc, .int zUtc, .ref zTi, .ref zTt, .ref zOf, .ref zDs, .ref zIx, .ref zSd, .ref zUt, .ref zCh, .ref zLt, .ref zLo, .ref zRu])), (zTi, .inl (cAzTi, 200, .inr (.inl zTiA))), (zTt, .inl (cAzTt, 200, .inl zTtA)), (zOf, .inl (cAzOf, 40, .inl zOfA)), (zDs, .inl (cAzDs, 40, .inl zDsA)), (zIx, .inl (cAzIx, 40, .inl zIxA)), (zSd, .inl (cAzSd, 40, .inl zSdA)), (zUt, .inl (cAzUt, 40, .inl zUtA)), (zCh, .inr (0, [.ref q11, .int chS])), (q11, .inl (nA11, chN, .inl chA)), (zLt, .inl (cAzLt, 40, .inr (.inl zLtA))), (zLo, .inl (cAzLo, 40, .inl zLoA))]) [12, 13, 0, 1, 2, 3, 4, 5, 6, 7, 8, 9, 10, 11] rfl
      have hD := hD.sub (ws' := [(into, .inr (0, [.ref q_68, .int z_65])), (q_68, .inl (cq_69, z_66, .inl z_67)), (zz, .inr (8, [.int zVer, .int zTic, .int zTyc, .int zLec, .int zStc, .int zUtc, .ref zTi, .ref zTt, .ref zOf, .ref zDs, .ref zIx, .ref zSd, .ref zUt, .ref zCh, .ref zLt, .ref zLo, .ref zRu])), (zTi, .inl (cAzTi, 200, .inr (.inl zTiA))), (zTt, .inl (cAzTt, 200, .inl zTtA)), (zOf, .inl (cAzOf, 40, .inl zOfA)), (zDs, .inl (cAzDs, 40, .inl zDsA)), (zIx, .inl (cAzIx, 40, .inl zIxA)), (zSd, .inl (cAzSd, 40, .inl zSdA)), (zUt, .inl (cAzUt, 40, .inl zUtA)), (zCh, .inr (0, [.ref q11, .int chS])), (q11, .inl (nA11, chN, .inl chA)), (zLt, .inl (cAzLt, 40, .inr (.inl zLtA))), (zLo, .inl (cAzLo, 40, .inl zLoA))]) [12, 13, 0, 1, 2, 3, 4, 5, 6, 7, 8, 9, 10, 11] (by decide) rfl
      have hK := hK.sub (tys' := [(cq_69, .byte), (cAzTi, .long), (cAzTt, .int), (cAzOf, .int), (cAzDs, .int), (cAzIx, .int), (cAzSd, .int), (cAzUt, .int), (nA11, .byte), (cAzLt, .long), (cAzLo, .int)]) [10, 0, 1, 2, 3, 4, 5, 6, 7, 8, 9] rfl
      have hkc := ck hkc ekc
      have hks := ck hks eks
      generalize cells + kc_70 = cells at hkc ⊢
      generalize slots + ks_71 = slots at hks ⊢
      refine lv_iinc (v := x3 + 1) (lv' := [(3, .int (x3 + 1)), (0, .ref into), (1, .ref zz), (2, .int x2)]) hx hb d_FW_putBlock_95 hl (k := 0) rfl rfl (by decide) rfl (fun ls hl => ?_)
      refine lv_goto (tgt := 55) hx hb d_FW_putBlock_98 (by decide) ?_
      exact ih hf hK hP hD hS hkc hks (lv_sub hl [0, 1, 2, 3] rfl)
set_option maxHeartbeats 400000 in
set_option maxRecDepth 100000 in
theorem k_FW_putBlock_29 (C0 : Cx p s m meth c args R b_FW_putBlock "ZoneFiles$FileWriting" 4 none 4 86) (hST : ST A s s.heap) (hA : ∀ q, s.heap.size ≤ q → A q) (hE : ∀ (pc : Nat) (ls : Array Slot) {q1 : Nat} {q11 : Nat} {nA1 : ClassId} {nA11 : ClassId} (H : Heap) (locs : List Loc), decode b_FW_putBlock pc = .ok (.return_, 1) → va_P (dC, dI) classes [(into, .inr (0, [.ref q1, .int v0_1])), (q1, .inl (nA1, v1_n, .inl v1_a)), (zz, .inr (8, [.int zVer, .int zTic, .int zTyc, .int zLec, .int zStc, .int zUtc, .ref zTi, .ref zTt, .ref zOf, .ref zDs, .ref zIx, .ref zSd, .ref zUt, .ref zCh, .ref zLt, .ref zLo, .ref zRu])), (zTi, .inl (cAzTi, 200, .inr (.inl zTiA))), (zTt, .inl (cAzTt, 200, .inl zTtA)), (zOf, .inl (cAzOf, 40, .inl zOfA)), (zDs, .inl (cAzDs, 40, .inl zDsA)), (zIx, .inl (cAzIx, 40, .inl zIxA)), (zSd, .inl (cAzSd, 40, .inl zSdA)), (zUt, .inl (cAzUt, 40, .inl zUtA)), (zCh, .inr (0, [.ref q11, .int chS])), (q11, .inl (nA11, chN, .inl chA)), (zLt, .inl (cAzLt, 40, .inr (.inl zLtA))), (zLo, .inl (cAzLo, 40, .inl zLoA))] H → va_D A [(into, .inr (0, [.ref q1, .int v0_1])), (q1, .inl (nA1, v1_n, .inl v1_a)), (zz, .inr (8, [.int zVer, .int zTic, .int zTyc, .int zLec, .int zStc, .int zUtc, .ref zTi, .ref zTt, .ref zOf, .ref zDs, .ref zIx, .ref zSd, .ref zUt, .ref zCh, .ref zLt, .ref zLo, .ref zRu])), (zTi, .inl (cAzTi, 200, .inr (.inl zTiA))), (zTt, .inl (cAzTt, 200, .inl zTtA)), (zOf, .inl (cAzOf, 40, .inl zOfA)), (zDs, .inl (cAzDs, 40, .inl zDsA)), (zIx, .inl (cAzIx, 40, .inl zIxA)), (zSd, .inl (cAzSd, 40, .inl zSdA)), (zUt, .inl (cAzUt, 40, .inl zUtA)), (zCh, .inr (0, [.ref q11, .int chS])), (q11, .inl (nA11, chN, .inl chA)), (zLt, .inl (cAzLt, 40, .inr (.inl zLtA))), (zLo, .inl (cAzLo, 40, .inl zLoA))] → va_S A s.heap H locs → va_K (dC, dI) classes [(nA1, .byte), (cAzTi, .long), (cAzTt, .int), (cAzOf, .int), (cAzDs, .int), (cAzIx, .int), (cAzSd, .int), (cAzUt, .int), (nA11, .byte), (cAzLt, .long), (cAzLo, .int)] s → W p l e R s m args below meth c H locs R.cells R.slots Q (F0 m pc ls [])) : ∀ (n : Nat) {x3 : Int32} {x2 : Int32} {w0_1 : Int32} {w1_n : Nat} {w1_a : Nat → Int32} {kc ks : Nat}, f_FW_putBlock_29 nf zTic zTyc zLec zStc zUtc zTtA zOfA zDsA zIxA zSdA zUtA chS chN chA zLtA zLoA n x3 x2 w0_1 w1_n w1_a = some ((v0_1, v1_n, v1_a), kc, ks) → ∀ {q1 : Nat} {nA1 : ClassId} {q11 : Nat} {nA11 : ClassId} {cells slots : Nat} {H : Heap} {locs : List Loc} {ls : Array Slot}, va_K (dC, dI) classes [(nA1, .byte), (cAzTi, .long), (cAzTt, .int), (cAzOf, .int), (cAzDs, .int), (cAzIx, .int), (cAzSd, .int), (cAzUt, .int), (nA11, .byte), (cAzLt, .long), (cAzLo, .int)] s → va_P (dC, dI) classes [(into, .inr (0, [.ref q1, .int w0_1])), (q1, .inl (nA1, w1_n, .inl w1_a)), (zz, .inr (8, [.int zVer, .int zTic, .int zTyc, .int zLec, .int zStc, .int zUtc, .ref zTi, .ref zTt, .ref zOf, .ref zDs, .ref zIx, .ref zSd, .ref zUt, .ref zCh, .ref zLt, .ref zLo, .ref zRu])), (zTi, .inl (cAzTi, 200, .inr (.inl zTiA))), (zTt, .inl (cAzTt, 200, .inl zTtA)), (zOf, .inl (cAzOf, 40, .inl zOfA)), (zDs, .inl (cAzDs, 40, .inl zDsA)), (zIx, .inl (cAzIx, 40, .inl zIxA)), (zSd, .inl (cAzSd, 40, .inl zSdA)), (zUt, .inl (cAzUt, 40, .inl zUtA)), (zCh, .inr (0, [.ref q11, .int chS])), (q11, .inl (nA11, chN, .inl chA)), (zLt, .inl (cAzLt, 40, .inr (.inl zLtA))), (zLo, .inl (cAzLo, 40, .inl zLoA))] H → va_D A [(into, .inr (0, [.ref q1, .int w0_1])), (q1, .inl (nA1, w1_n, .inl w1_a)), (zz, .inr (8, [.int zVer, .int zTic, .int zTyc, .int zLec, .int zStc, .int zUtc, .ref zTi, .ref zTt, .ref zOf, .ref zDs, .ref zIx, .ref zSd, .ref zUt, .ref zCh, .ref zLt, .ref zLo, .ref zRu])), (zTi, .inl (cAzTi, 200, .inr (.inl zTiA))), (zTt, .inl (cAzTt, 200, .inl zTtA)), (zOf, .inl (cAzOf, 40, .inl zOfA)), (zDs, .inl (cAzDs, 40, .inl zDsA)), (zIx, .inl (cAzIx, 40, .inl zIxA)), (zSd, .inl (cAzSd, 40, .inl zSdA)), (zUt, .inl (cAzUt, 40, .inl zUtA)), (zCh, .inr (0, [.ref q11, .int chS])), (q11, .inl (nA11, chN, .inl chA)), (zLt, .inl (cAzLt, 40, .inr (.inl zLtA))), (zLo, .inl (cAzLo, 40, .inl zLoA))] → va_S A s.heap H locs → cells + kc = R.cells → slots + ks = R.slots → lv_has ls 4 [(3, .int x3), (0, .ref into), (1, .ref zz), (2, .int x2)] → W p l e R s m args below meth c H locs cells slots Q (F0 m 29 ls []) := by
  obtain ⟨hx, hb, hr, hml, hown, hts, hlocks, hRf, hRl⟩ := id C0
  obtain ⟨tms, hZms, hTms, tmg, hZmg, hTmg, hNW⟩ := id hST
  intro n
  induction n with
  | zero =>
    intro x3 x2 w0_1 w1_n w1_a kc ks hf
    exact absurd hf (by simp [f_FW_putBlock_29])
  | succ n ih =>
    intro x3 x2 w0_1 w1_n w1_a kc ks hf q1 nA1 q11 nA11 cells slots H locs ls hK hP hD hS hkc hks hl
    unfold f_FW_putBlock_29 at hf
    refine lv_iload_n hx hb d_FW_putBlock_29 rfl (lv_at hl 0 rfl) ?_
    refine lv_aload_n hx hb d_FW_putBlock_30 rfl (lv_at hl 2 rfl) ?_
    refine va_get (D := (dC, dI)) (ci := 8) (v := .int zTic) (C := RZone) (T := TZone) (N := 17) hx hb hts in_Zone hown hK hP 2 rfl rfl 1 (by decide) (hts (.fieldLink "ZoneFiles$FileWriting" 74 "ZoneFiles$Zone" "timeCount" "I") m_1_168) (fun _ h9 => h9) rfl d_FW_putBlock_31 ?_
    refine lv_icmp_ge (tgt := 53) hx hb d_FW_putBlock_34 (by decide) (fun c_2 => ?_) (fun c_2 => ?_)
    · have hf := it_t c_2 hf
      refine lv_iconst (v := 0) hx hb d_FW_putBlock_53 (by decide) ?_
      refine lv_istore_n (lv' := [(3, .int 0), (0, .ref into), (1, .ref zz), (2, .int x2)]) hx hb d_FW_putBlock_54 rfl hl (by decide) rfl (fun ls hl => ?_)
      exact k_FW_putBlock_55 C0 hST hA hE nf hf hK hP hD hS hkc hks (lv_sub hl [0, 1, 2, 3] rfl)
    · have hf := it_f c_2 hf
      refine lv_aload_n hx hb d_FW_putBlock_37 rfl (lv_at hl 1 rfl) ?_
      refine lv_aload_n hx hb d_FW_putBlock_38 rfl (lv_at hl 2 rfl) ?_
      refine va_get (D := (dC, dI)) (ci := 8) (v := .ref zTt) (C := RZone) (T := TZone) (N := 17) hx hb hts in_Zone hown hK hP 2 rfl rfl 7 (by decide) (hts (.fieldLink "ZoneFiles$FileWriting" 87 "ZoneFiles$Zone" "timeTypes" "[I") m_1_192) (fun _ h9 => h9) rfl d_FW_putBlock_39 ?_
      refine lv_iload_n hx hb d_FW_putBlock_42 rfl (lv_at hl 0 rfl) ?_
      obtain ⟨c_72, hf⟩ := it_n hf
      refine va_iald hx hb hK hP 4 2 rfl rfl c_72 d_FW_putBlock_43 ?_
      obtain ⟨⟨⟨z_73, z_74, z_75⟩, kc_78, ks_79⟩, hc, hf⟩ := ob hf
      obtain ⟨kc, ks, hf, ekc, eks⟩ := oa hf
      have hPc := hP.sub (ws' := [(into, .inr (0, [.ref q1, .int w0_1])), (q1, .inl (nA1, w1_n, .inl w1_a))]) [0, 1] rfl
      have hDc := hD.sub (ws' := [(into, .inr (0, [.ref q1, .int w0_1])), (q1, .inl (nA1, w1_n, .inl w1_a))]) [0, 1] (by decide) rfl
      have hKc := hK.sub (tys' := [(nA1, .byte)]) [0] rfl
      have hFc := va_free (wc := [(into, .inr (0, [.ref q1, .int w0_1])), (q1, .inl (nA1, w1_n, .inl w1_a))]) hD hS hA [0, 1] rfl
      refine cl_M (v := none) (st1 := []) (va_runV (As := [.int (zTtA x3.toNatClampNeg)]) (rest := []) ⟨hx, hb, hml, hown, hts⟩ (c_By_put l dC dI into q1 nA1 H.size nf (zTtA x3.toNatClampNeg) w0_1 w1_n w1_a hc) (cwV 1 hts (gdV m_6_31 m_2_38 m_2_39 m_1_2 m_2_40) rfl rfl rfl (by decide +kernel) ⟨Nat.le_trans (Nat.le_of_ble_eq_true rfl) hRf, Nat.le_trans (Nat.le_of_ble_eq_true rfl) hRl⟩) ((MU.pre hPc hKc hDc (hST.mu hS hFc)).vir (va_recv hKc hPc (ci := 0) (q0 := 0) rfl rfl)) rfl rfl hl.1 rfl (lv_room (Nat.le_of_ble_eq_true rfl)) d_FW_putBlock_44 ⟨cb hkc ekc, cb hks eks⟩) rfl hS (fun q _ h => hFc q h) hFc (fun t H1 locs ht hvm hB hz1 hk1 hS => ?_)
      obtain ⟨q_76, cq_77, hP1, hK1, hD1⟩ := hB
      rw [ht] at hP1
      have hK1 := va_K.moved hvm.symm hK1
      obtain ⟨hP, hD⟩ := va_join (wr := [(zz, .inr (8, [.int zVer, .int zTic, .int zTyc, .int zLec, .int zStc, .int zUtc, .ref zTi, .ref zTt, .ref zOf, .ref zDs, .ref zIx, .ref zSd, .ref zUt, .ref zCh, .ref zLt, .ref zLo, .ref zRu])), (zTi, .inl (cAzTi, 200, .inr (.inl zTiA))), (zTt, .inl (cAzTt, 200, .inl zTtA)), (zOf, .inl (cAzOf, 40, .inl zOfA)), (zDs, .inl (cAzDs, 40, .inl zDsA)), (zIx, .inl (cAzIx, 40, .inl zIxA)), (zSd, .inl (cAzSd, 40, .inl zSdA)), (zUt, .inl (cAzUt, 40, .inl zUtA)), (zCh, .inr (0, [.ref q11, .int chS])), (q11, .inl (nA11, chN, .inl chA)), (zLt, .inl (cAzLt, 40, .inr (.inl zLtA))), (zLo, .inl (cAzLo, 40, .inl zLoA))]) (w1 := [(into, .inr (0, [.ref q_76, .int z_73])), (q_76, .inl (cq_77, z_74, .inl z_75))]) hP hD [0, 1] [2, 3, 4, 5, 6, 7, 8, 9, 10, 11, 12, 13] rfl rfl (by decide) (by decide) hk1 hFc hP1 hD1
      have hK := (hK.sub (tys' := [(cAzTi, .long), (cAzTt, .int), (cAzOf, .int), (cAzDs, .int), (cAzIx, .int), (cAzSd, .int), (cAzUt, .int), (nA11, .byte), (cAzLt, .long), (cAzLo, .int)]) [1, 2, 3, 4, 5, 6, 7, 8, 9, 10] rfl).app hK1
      generalize H1 = H at hP hS ⊢
      have hP := hP.sub (ws' := [(into, .inr (0, [.ref q_76, .int z_73])), (q_76, .inl (cq_77, z_74, .inl z_75)), (zz, .inr (8, [.int zVer, .int zTic, .int zTyc, .int zLec, .int zStc, .int zUtc, .ref zTi, .ref zTt, .ref zOf, .ref zDs, .ref zIx, .ref zSd, .ref zUt, .ref zCh, .ref zLt, .ref zLo, .ref zRu])), (zTi, .inl (cAzTi, 200, .inr (.inl zTiA))), (zTt, .inl (cAzTt, 200, .inl zTtA)), (zOf, .inl (cAzOf, 40, .inl zOfA)), (zDs, .inl (cAzDs, 40, .inl zDsA)), (zIx, .inl (cAzIx, 40, .inl zIxA)), (zSd, .inl (cAzSd, 40, .inl zSdA)), (zUt, .inl (cAzUt, 40, .inl zUtA)), (zCh, .inr (0, [.ref q11, .int chS])), (q11, .inl (nA11, chN, .inl chA)), (zLt, .inl (cAzLt, 40, .inr (.inl zLtA))), (zLo, .inl (cAzLo, 40, .inl zLoA))]) [12, 13, 0, 1, 2, 3, 4, 5, 6, 7, 8, 9, 10, 11] rfl
      have hD := hD.sub (ws' := [(into, .inr (0, [.ref q_76, .int z_73])), (q_76, .inl (cq_77, z_74, .inl z_75)), (zz, .inr (8, [.int zVer, .int zTic, .int zTyc, .int zLec, .int zStc, .int zUtc, .ref zTi, .ref zTt, .ref zOf, .ref zDs, .ref zIx, .ref zSd, .ref zUt, .ref zCh, .ref zLt, .ref zLo, .ref zRu])), (zTi, .inl (cAzTi, 200, .inr (.inl zTiA))), (zTt, .inl (cAzTt, 200, .inl zTtA)), (zOf, .inl (cAzOf, 40, .inl zOfA)), (zDs, .inl (cAzDs, 40, .inl zDsA)), (zIx, .inl (cAzIx, 40, .inl zIxA)), (zSd, .inl (cAzSd, 40, .inl zSdA)), (zUt, .inl (cAzUt, 40, .inl zUtA)), (zCh, .inr (0, [.ref q11, .int chS])), (q11, .inl (nA11, chN, .inl chA)), (zLt, .inl (cAzLt, 40, .inr (.inl zLtA))), (zLo, .inl (cAzLo, 40, .inl zLoA))]) [12, 13, 0, 1, 2, 3, 4, 5, 6, 7, 8, 9, 10, 11] (by decide) rfl
      have hK := hK.sub (tys' := [(cq_77, .byte), (cAzTi, .long), (cAzTt, .int), (cAzOf, .int), (cAzDs, .int), (cAzIx, .int), (cAzSd, .int), (cAzUt, .int), (nA11, .byte), (cAzLt, .long), (cAzLo, .int)]) [10, 0, 1, 2, 3, 4, 5, 6, 7, 8, 9] rfl
      have hkc := ck hkc ekc
      have hks := ck hks eks
      generalize cells + kc_78 = cells at hkc ⊢
      generalize slots + ks_79 = slots at hks ⊢
      refine lv_iinc (v := x3 + 1) (lv' := [(3, .int (x3 + 1)), (0, .ref into), (1, .ref zz), (2, .int x2)]) hx hb d_FW_putBlock_47 hl (k := 0) rfl rfl (by decide) rfl (fun ls hl => ?_)
      refine lv_goto (tgt := 29) hx hb d_FW_putBlock_50 (by decide) ?_
      exact ih hf hK hP hD hS hkc hks (lv_sub hl [0, 1, 2, 3] rfl)
set_option maxHeartbeats 400000 in
set_option maxRecDepth 100000 in
theorem k_FW_putBlock_2 (C0 : Cx p s m meth c args R b_FW_putBlock "ZoneFiles$FileWriting" 4 none 4 86) (hST : ST A s s.heap) (hA : ∀ q, s.heap.size ≤ q → A q) (hE : ∀ (pc : Nat) (ls : Array Slot) {q1 : Nat} {q11 : Nat} {nA1 : ClassId} {nA11 : ClassId} (H : Heap) (locs : List Loc), decode b_FW_putBlock pc = .ok (.return_, 1) → va_P (dC, dI) classes [(into, .inr (0, [.ref q1, .int v0_1])), (q1, .inl (nA1, v1_n, .inl v1_a)), (zz, .inr (8, [.int zVer, .int zTic, .int zTyc, .int zLec, .int zStc, .int zUtc, .ref zTi, .ref zTt, .ref zOf, .ref zDs, .ref zIx, .ref zSd, .ref zUt, .ref zCh, .ref zLt, .ref zLo, .ref zRu])), (zTi, .inl (cAzTi, 200, .inr (.inl zTiA))), (zTt, .inl (cAzTt, 200, .inl zTtA)), (zOf, .inl (cAzOf, 40, .inl zOfA)), (zDs, .inl (cAzDs, 40, .inl zDsA)), (zIx, .inl (cAzIx, 40, .inl zIxA)), (zSd, .inl (cAzSd, 40, .inl zSdA)), (zUt, .inl (cAzUt, 40, .inl zUtA)), (zCh, .inr (0, [.ref q11, .int chS])), (q11, .inl (nA11, chN, .inl chA)), (zLt, .inl (cAzLt, 40, .inr (.inl zLtA))), (zLo, .inl (cAzLo, 40, .inl zLoA))] H → va_D A [(into, .inr (0, [.ref q1, .int v0_1])), (q1, .inl (nA1, v1_n, .inl v1_a)), (zz, .inr (8, [.int zVer, .int zTic, .int zTyc, .int zLec, .int zStc, .int zUtc, .ref zTi, .ref zTt, .ref zOf, .ref zDs, .ref zIx, .ref zSd, .ref zUt, .ref zCh, .ref zLt, .ref zLo, .ref zRu])), (zTi, .inl (cAzTi, 200, .inr (.inl zTiA))), (zTt, .inl (cAzTt, 200, .inl zTtA)), (zOf, .inl (cAzOf, 40, .inl zOfA)), (zDs, .inl (cAzDs, 40, .inl zDsA)), (zIx, .inl (cAzIx, 40, .inl zIxA)), (zSd, .inl (cAzSd, 40, .inl zSdA)), (zUt, .inl (cAzUt, 40, .inl zUtA)), (zCh, .inr (0, [.ref q11, .int chS])), (q11, .inl (nA11, chN, .inl chA)), (zLt, .inl (cAzLt, 40, .inr (.inl zLtA))), (zLo, .inl (cAzLo, 40, .inl zLoA))] → va_S A s.heap H locs → va_K (dC, dI) classes [(nA1, .byte), (cAzTi, .long), (cAzTt, .int), (cAzOf, .int), (cAzDs, .int), (cAzIx, .int), (cAzSd, .int), (cAzUt, .int), (nA11, .byte), (cAzLt, .long), (cAzLo, .int)] s → W p l e R s m args below meth c H locs R.cells R.slots Q (F0 m pc ls [])) : ∀ (n : Nat) {x3 : Int32} {x2 : Int32} {w0_1 : Int32} {w1_n : Nat} {w1_a : Nat → Int32} {kc ks : Nat}, f_FW_putBlock_2 nf zTic zTyc zLec zStc zUtc zTiA zTtA zOfA zDsA zIxA zSdA zUtA chS chN chA zLtA zLoA n x3 x2 w0_1 w1_n w1_a = some ((v0_1, v1_n, v1_a), kc, ks) → ∀ {q1 : Nat} {nA1 : ClassId} {q11 : Nat} {nA11 : ClassId} {cells slots : Nat} {H : Heap} {locs : List Loc} {ls : Array Slot}, va_K (dC, dI) classes [(nA1, .byte), (cAzTi, .long), (cAzTt, .int), (cAzOf, .int), (cAzDs, .int), (cAzIx, .int), (cAzSd, .int), (cAzUt, .int), (nA11, .byte), (cAzLt, .long), (cAzLo, .int)] s → va_P (dC, dI) classes [(into, .inr (0, [.ref q1, .int w0_1])), (q1, .inl (nA1, w1_n, .inl w1_a)), (zz, .inr (8, [.int zVer, .int zTic, .int zTyc, .int zLec, .int zStc, .int zUtc, .ref zTi, .ref zTt, .ref zOf, .ref zDs, .ref zIx, .ref zSd, .ref zUt, .ref zCh, .ref zLt, .ref zLo, .ref zRu])), (zTi, .inl (cAzTi, 200, .inr (.inl zTiA))), (zTt, .inl (cAzTt, 200, .inl zTtA)), (zOf, .inl (cAzOf, 40, .inl zOfA)), (zDs, .inl (cAzDs, 40, .inl zDsA)), (zIx, .inl (cAzIx, 40, .inl zIxA)), (zSd, .inl (cAzSd, 40, .inl zSdA)), (zUt, .inl (cAzUt, 40, .inl zUtA)), (zCh, .inr (0, [.ref q11, .int chS])), (q11, .inl (nA11, chN, .inl chA)), (zLt, .inl (cAzLt, 40, .inr (.inl zLtA))), (zLo, .inl (cAzLo, 40, .inl zLoA))] H → va_D A [(into, .inr (0, [.ref q1, .int w0_1])), (q1, .inl (nA1, w1_n, .inl w1_a)), (zz, .inr (8, [.int zVer, .int zTic, .int zTyc, .int zLec, .int zStc, .int zUtc, .ref zTi, .ref zTt, .ref zOf, .ref zDs, .ref zIx, .ref zSd, .ref zUt, .ref zCh, .ref zLt, .ref zLo, .ref zRu])), (zTi, .inl (cAzTi, 200, .inr (.inl zTiA))), (zTt, .inl (cAzTt, 200, .inl zTtA)), (zOf, .inl (cAzOf, 40, .inl zOfA)), (zDs, .inl (cAzDs, 40, .inl zDsA)), (zIx, .inl (cAzIx, 40, .inl zIxA)), (zSd, .inl (cAzSd, 40, .inl zSdA)), (zUt, .inl (cAzUt, 40, .inl zUtA)), (zCh, .inr (0, [.ref q11, .int chS])), (q11, .inl (nA11, chN, .inl chA)), (zLt, .inl (cAzLt, 40, .inr (.inl zLtA))), (zLo, .inl (cAzLo, 40, .inl zLoA))] → va_S A s.heap H locs → cells + kc = R.cells → slots + ks = R.slots → lv_has ls 4 [(3, .int x3), (0, .ref into), (1, .ref zz), (2, .int x2)] → W p l e R s m args below meth c H locs cells slots Q (F0 m 2 ls []) := by
  obtain ⟨hx, hb, hr, hml, hown, hts, hlocks, hRf, hRl⟩ := id C0
  obtain ⟨tms, hZms, hTms, tmg, hZmg, hTmg, hNW⟩ := id hST
  intro n
  induction n with
  | zero =>
    intro x3 x2 w0_1 w1_n w1_a kc ks hf
    exact absurd hf (by simp [f_FW_putBlock_2])
  | succ n ih =>
    intro x3 x2 w0_1 w1_n w1_a kc ks hf q1 nA1 q11 nA11 cells slots H locs ls hK hP hD hS hkc hks hl
    unfold f_FW_putBlock_2 at hf
    refine lv_iload_n hx hb d_FW_putBlock_2 rfl (lv_at hl 0 rfl) ?_
    refine lv_aload_n hx hb d_FW_putBlock_3 rfl (lv_at hl 2 rfl) ?_
    refine va_get (D := (dC, dI)) (ci := 8) (v := .int zTic) (C := RZone) (T := TZone) (N := 17) hx hb hts in_Zone hown hK hP 2 rfl rfl 1 (by decide) (hts (.fieldLink "ZoneFiles$FileWriting" 74 "ZoneFiles$Zone" "timeCount" "I") m_1_168) (fun _ h9 => h9) rfl d_FW_putBlock_4 ?_
    refine lv_icmp_ge (tgt := 27) hx hb d_FW_putBlock_7 (by decide) (fun c_1 => ?_) (fun c_1 => ?_)
    · have hf := it_t c_1 hf
      refine lv_iconst (v := 0) hx hb d_FW_putBlock_27 (by decide) ?_
      refine lv_istore_n (lv' := [(3, .int 0), (0, .ref into), (1, .ref zz), (2, .int x2)]) hx hb d_FW_putBlock_28 rfl hl (by decide) rfl (fun ls hl => ?_)
      exact k_FW_putBlock_29 C0 hST hA hE nf hf hK hP hD hS hkc hks (lv_sub hl [0, 1, 2, 3] rfl)
    · have hf := it_f c_1 hf
      refine lv_aload_n hx hb d_FW_putBlock_10 rfl (lv_at hl 1 rfl) ?_
      refine lv_aload_n hx hb d_FW_putBlock_11 rfl (lv_at hl 2 rfl) ?_
      refine va_get (D := (dC, dI)) (ci := 8) (v := .ref zTi) (C := RZone) (T := TZone) (N := 17) hx hb hts in_Zone hown hK hP 2 rfl rfl 6 (by decide) (hts (.fieldLink "ZoneFiles$FileWriting" 83 "ZoneFiles$Zone" "times" "[J") m_1_188) (fun _ h9 => h9) rfl d_FW_putBlock_12 ?_
      refine lv_iload_n hx hb d_FW_putBlock_15 rfl (lv_at hl 0 rfl) ?_
      obtain ⟨c_80, hf⟩ := it_n hf
      refine va_lald hx hb hK hP 3 1 rfl rfl c_80 d_FW_putBlock_16 ?_
      refine lv_iload_n hx hb d_FW_putBlock_17 rfl (lv_at hl 3 rfl) ?_
      obtain ⟨⟨⟨z_81, z_82, z_83⟩, kc_86, ks_87⟩, hc, hf⟩ := ob hf
      obtain ⟨kc, ks, hf, ekc, eks⟩ := oa hf
      have hPc := hP.sub (ws' := [(into, .inr (0, [.ref q1, .int w0_1])), (q1, .inl (nA1, w1_n, .inl w1_a))]) [0, 1] rfl
      have hDc := hD.sub (ws' := [(into, .inr (0, [.ref q1, .int w0_1])), (q1, .inl (nA1, w1_n, .inl w1_a))]) [0, 1] (by decide) rfl
      have hKc := hK.sub (tys' := [(nA1, .byte)]) [0] rfl
      have hFc := va_free (wc := [(into, .inr (0, [.ref q1, .int w0_1])), (q1, .inl (nA1, w1_n, .inl w1_a))]) hD hS hA [0, 1] rfl
      refine cl_M (v := none) (st1 := []) (va_runV (As := [.long (zTiA x3.toNatClampNeg), .int x2]) (rest := []) ⟨hx, hb, hml, hown, hts⟩ (c_By_putNumber l dC dI into q1 nA1 H.size nf (zTiA x3.toNatClampNeg) x2 w0_1 w1_n w1_a hc) (cwV 2 hts (gdV m_6_36 m_6_37 m_6_38 m_1_2 m_6_39) rfl rfl rfl (by decide +kernel) ⟨Nat.le_trans (Nat.le_of_ble_eq_true rfl) hRf, Nat.le_trans (Nat.le_of_ble_eq_true rfl) hRl⟩) ((MU.pre hPc hKc hDc (hST.mu hS hFc)).vir (va_recv hKc hPc (ci := 0) (q0 := 0) rfl rfl)) rfl rfl hl.1 rfl (lv_room (Nat.le_of_ble_eq_true rfl)) d_FW_putBlock_18 ⟨cb hkc ekc, cb hks eks⟩) rfl hS (fun q _ h => hFc q h) hFc (fun t H1 locs ht hvm hB hz1 hk1 hS => ?_)
      obtain ⟨q_84, cq_85, hP1, hK1, hD1⟩ := hB
      rw [ht] at hP1
      have hK1 := va_K.moved hvm.symm hK1
      obtain ⟨hP, hD⟩ := va_join (wr := [(zz, .inr (8, [.int zVer, .int zTic, .int zTyc, .int zLec, .int zStc, .int zUtc, .ref zTi, .ref zTt, .ref zOf, .ref zDs, .ref zIx, .ref zSd, .ref zUt, .ref zCh, .ref zLt, .ref zLo, .ref zRu])), (zTi, .inl (cAzTi, 200, .inr (.inl zTiA))), (zTt, .inl (cAzTt, 200, .inl zTtA)), (zOf, .inl (cAzOf, 40, .inl zOfA)), (zDs, .inl (cAzDs, 40, .inl zDsA)), (zIx, .inl (cAzIx, 40, .inl zIxA)), (zSd, .inl (cAzSd, 40, .inl zSdA)), (zUt, .inl (cAzUt, 40, .inl zUtA)), (zCh, .inr (0, [.ref q11, .int chS])), (q11, .inl (nA11, chN, .inl chA)), (zLt, .inl (cAzLt, 40, .inr (.inl zLtA))), (zLo, .inl (cAzLo, 40, .inl zLoA))]) (w1 := [(into, .inr (0, [.ref q_84, .int z_81])), (q_84, .inl (cq_85, z_82, .inl z_83))]) hP hD [0, 1] [2, 3, 4, 5, 6, 7, 8, 9, 10, 11, 12, 13] rfl rfl (by decide) (by decide) hk1 hFc hP1 hD1
      have hK := (hK.sub (tys' := [(cAzTi, .long), (cAzTt, .int), (cAzOf, .int), (cAzDs, .int), (cAzIx, .int), (cAzSd, .int), (cAzUt, .int), (nA11, .byte), (cAzLt, .long), (cAzLo, .int)]) [1, 2, 3, 4, 5, 6, 7, 8, 9, 10] rfl).app hK1
      generalize H1 = H at hP hS ⊢
      have hP := hP.sub (ws' := [(into, .inr (0, [.ref q_84, .int z_81])), (q_84, .inl (cq_85, z_82, .inl z_83)), (zz, .inr (8, [.int zVer, .int zTic, .int zTyc, .int zLec, .int zStc, .int zUtc, .ref zTi, .ref zTt, .ref zOf, .ref zDs, .ref zIx, .ref zSd, .ref zUt, .ref zCh, .ref zLt, .ref zLo, .ref zRu])), (zTi, .inl (cAzTi, 200, .inr (.inl zTiA))), (zTt, .inl (cAzTt, 200, .inl zTtA)), (zOf, .inl (cAzOf, 40, .inl zOfA)), (zDs, .inl (cAzDs, 40, .inl zDsA)), (zIx, .inl (cAzIx, 40, .inl zIxA)), (zSd, .inl (cAzSd, 40, .inl zSdA)), (zUt, .inl (cAzUt, 40, .inl zUtA)), (zCh, .inr (0, [.ref q11, .int chS])), (q11, .inl (nA11, chN, .inl chA)), (zLt, .inl (cAzLt, 40, .inr (.inl zLtA))), (zLo, .inl (cAzLo, 40, .inl zLoA))]) [12, 13, 0, 1, 2, 3, 4, 5, 6, 7, 8, 9, 10, 11] rfl
      have hD := hD.sub (ws' := [(into, .inr (0, [.ref q_84, .int z_81])), (q_84, .inl (cq_85, z_82, .inl z_83)), (zz, .inr (8, [.int zVer, .int zTic, .int zTyc, .int zLec, .int zStc, .int zUtc, .ref zTi, .ref zTt, .ref zOf, .ref zDs, .ref zIx, .ref zSd, .ref zUt, .ref zCh, .ref zLt, .ref zLo, .ref zRu])), (zTi, .inl (cAzTi, 200, .inr (.inl zTiA))), (zTt, .inl (cAzTt, 200, .inl zTtA)), (zOf, .inl (cAzOf, 40, .inl zOfA)), (zDs, .inl (cAzDs, 40, .inl zDsA)), (zIx, .inl (cAzIx, 40, .inl zIxA)), (zSd, .inl (cAzSd, 40, .inl zSdA)), (zUt, .inl (cAzUt, 40, .inl zUtA)), (zCh, .inr (0, [.ref q11, .int chS])), (q11, .inl (nA11, chN, .inl chA)), (zLt, .inl (cAzLt, 40, .inr (.inl zLtA))), (zLo, .inl (cAzLo, 40, .inl zLoA))]) [12, 13, 0, 1, 2, 3, 4, 5, 6, 7, 8, 9, 10, 11] (by decide) rfl
      have hK := hK.sub (tys' := [(cq_85, .byte), (cAzTi, .long), (cAzTt, .int), (cAzOf, .int), (cAzDs, .int), (cAzIx, .int), (cAzSd, .int), (cAzUt, .int), (nA11, .byte), (cAzLt, .long), (cAzLo, .int)]) [10, 0, 1, 2, 3, 4, 5, 6, 7, 8, 9] rfl
      have hkc := ck hkc ekc
      have hks := ck hks eks
      generalize cells + kc_86 = cells at hkc ⊢
      generalize slots + ks_87 = slots at hks ⊢
      refine lv_iinc (v := x3 + 1) (lv' := [(3, .int (x3 + 1)), (0, .ref into), (1, .ref zz), (2, .int x2)]) hx hb d_FW_putBlock_21 hl (k := 0) rfl rfl (by decide) rfl (fun ls hl => ?_)
      refine lv_goto (tgt := 2) hx hb d_FW_putBlock_24 (by decide) ?_
      exact ih hf hK hP hD hS hkc hks (lv_sub hl [0, 1, 2, 3] rfl)
set_option maxHeartbeats 400000 in
set_option maxRecDepth 100000 in
theorem k_FW_putBlock_0 (C0 : Cx p s m meth c args R b_FW_putBlock "ZoneFiles$FileWriting" 4 none 4 86) (hST : ST A s s.heap) (hA : ∀ q, s.heap.size ≤ q → A q) (hE : ∀ (pc : Nat) (ls : Array Slot) {q1 : Nat} {q11 : Nat} {nA1 : ClassId} {nA11 : ClassId} (H : Heap) (locs : List Loc), decode b_FW_putBlock pc = .ok (.return_, 1) → va_P (dC, dI) classes [(into, .inr (0, [.ref q1, .int v0_1])), (q1, .inl (nA1, v1_n, .inl v1_a)), (zz, .inr (8, [.int zVer, .int zTic, .int zTyc, .int zLec, .int zStc, .int zUtc, .ref zTi, .ref zTt, .ref zOf, .ref zDs, .ref zIx, .ref zSd, .ref zUt, .ref zCh, .ref zLt, .ref zLo, .ref zRu])), (zTi, .inl (cAzTi, 200, .inr (.inl zTiA))), (zTt, .inl (cAzTt, 200, .inl zTtA)), (zOf, .inl (cAzOf, 40, .inl zOfA)), (zDs, .inl (cAzDs, 40, .inl zDsA)), (zIx, .inl (cAzIx, 40, .inl zIxA)), (zSd, .inl (cAzSd, 40, .inl zSdA)), (zUt, .inl (cAzUt, 40, .inl zUtA)), (zCh, .inr (0, [.ref q11, .int chS])), (q11, .inl (nA11, chN, .inl chA)), (zLt, .inl (cAzLt, 40, .inr (.inl zLtA))), (zLo, .inl (cAzLo, 40, .inl zLoA))] H → va_D A [(into, .inr (0, [.ref q1, .int v0_1])), (q1, .inl (nA1, v1_n, .inl v1_a)), (zz, .inr (8, [.int zVer, .int zTic, .int zTyc, .int zLec, .int zStc, .int zUtc, .ref zTi, .ref zTt, .ref zOf, .ref zDs, .ref zIx, .ref zSd, .ref zUt, .ref zCh, .ref zLt, .ref zLo, .ref zRu])), (zTi, .inl (cAzTi, 200, .inr (.inl zTiA))), (zTt, .inl (cAzTt, 200, .inl zTtA)), (zOf, .inl (cAzOf, 40, .inl zOfA)), (zDs, .inl (cAzDs, 40, .inl zDsA)), (zIx, .inl (cAzIx, 40, .inl zIxA)), (zSd, .inl (cAzSd, 40, .inl zSdA)), (zUt, .inl (cAzUt, 40, .inl zUtA)), (zCh, .inr (0, [.ref q11, .int chS])), (q11, .inl (nA11, chN, .inl chA)), (zLt, .inl (cAzLt, 40, .inr (.inl zLtA))), (zLo, .inl (cAzLo, 40, .inl zLoA))] → va_S A s.heap H locs → va_K (dC, dI) classes [(nA1, .byte), (cAzTi, .long), (cAzTt, .int), (cAzOf, .int), (cAzDs, .int), (cAzIx, .int), (cAzSd, .int), (cAzUt, .int), (nA11, .byte), (cAzLt, .long), (cAzLo, .int)] s → W p l e R s m args below meth c H locs R.cells R.slots Q (F0 m pc ls [])) {x2 : Int32} {w0_1 : Int32} {w1_n : Nat} {w1_a : Nat → Int32} {kc ks : Nat} (hf : f_FW_putBlock_0 nf zTic zTyc zLec zStc zUtc zTiA zTtA zOfA zDsA zIxA zSdA zUtA chS chN chA zLtA zLoA x2 w0_1 w1_n w1_a = some ((v0_1, v1_n, v1_a), kc, ks)) {q1 : Nat} {nA1 : ClassId} {q11 : Nat} {nA11 : ClassId} {cells slots : Nat} {H : Heap} {locs : List Loc} {ls : Array Slot} (hK : va_K (dC, dI) classes [(nA1, .byte), (cAzTi, .long), (cAzTt, .int), (cAzOf, .int), (cAzDs, .int), (cAzIx, .int), (cAzSd, .int), (cAzUt, .int), (nA11, .byte), (cAzLt, .long), (cAzLo, .int)] s) (hP : va_P (dC, dI) classes [(into, .inr (0, [.ref q1, .int w0_1])), (q1, .inl (nA1, w1_n, .inl w1_a)), (zz, .inr (8, [.int zVer, .int zTic, .int zTyc, .int zLec, .int zStc, .int zUtc, .ref zTi, .ref zTt, .ref zOf, .ref zDs, .ref zIx, .ref zSd, .ref zUt, .ref zCh, .ref zLt, .ref zLo, .ref zRu])), (zTi, .inl (cAzTi, 200, .inr (.inl zTiA))), (zTt, .inl (cAzTt, 200, .inl zTtA)), (zOf, .inl (cAzOf, 40, .inl zOfA)), (zDs, .inl (cAzDs, 40, .inl zDsA)), (zIx, .inl (cAzIx, 40, .inl zIxA)), (zSd, .inl (cAzSd, 40, .inl zSdA)), (zUt, .inl (cAzUt, 40, .inl zUtA)), (zCh, .inr (0, [.ref q11, .int chS])), (q11, .inl (nA11, chN, .inl chA)), (zLt, .inl (cAzLt, 40, .inr (.inl zLtA))), (zLo, .inl (cAzLo, 40, .inl zLoA))] H) (hD : va_D A [(into, .inr (0, [.ref q1, .int w0_1])), (q1, .inl (nA1, w1_n, .inl w1_a)), (zz, .inr (8, [.int zVer, .int zTic, .int zTyc, .int zLec, .int zStc, .int zUtc, .ref zTi, .ref zTt, .ref zOf, .ref zDs, .ref zIx, .ref zSd, .ref zUt, .ref zCh, .ref zLt, .ref zLo, .ref zRu])), (zTi, .inl (cAzTi, 200, .inr (.inl zTiA))), (zTt, .inl (cAzTt, 200, .inl zTtA)), (zOf, .inl (cAzOf, 40, .inl zOfA)), (zDs, .inl (cAzDs, 40, .inl zDsA)), (zIx, .inl (cAzIx, 40, .inl zIxA)), (zSd, .inl (cAzSd, 40, .inl zSdA)), (zUt, .inl (cAzUt, 40, .inl zUtA)), (zCh, .inr (0, [.ref q11, .int chS])), (q11, .inl (nA11, chN, .inl chA)), (zLt, .inl (cAzLt, 40, .inr (.inl zLtA))), (zLo, .inl (cAzLo, 40, .inl zLoA))]) (hS : va_S A s.heap H locs) (hkc : cells + kc = R.cells) (hks : slots + ks = R.slots) (hl : lv_has ls 4 [(0, .ref into), (1, .ref zz), (2, .int x2)]) : W p l e R s m args below meth c H locs cells slots Q (F0 m 0 ls []) := by
  obtain ⟨hx, hb, hr, hml, hown, hts, hlocks, hRf, hRl⟩ := id C0
  obtain ⟨tms, hZms, hTms, tmg, hZmg, hTmg, hNW⟩ := id hST
  unfold f_FW_putBlock_0 at hf
  refine lv_iconst (v := 0) hx hb d_FW_putBlock_0 (by decide) ?_
  refine lv_istore_n (lv' := [(3, .int 0), (0, .ref into), (1, .ref zz), (2, .int x2)]) hx hb d_FW_putBlock_1 rfl hl (by decide) rfl (fun ls hl => ?_)
  exact k_FW_putBlock_2 C0 hST hA hE nf hf hK hP hD hS hkc hks (lv_sub hl [0, 1, 2, 3] rfl)
end
set_option maxHeartbeats 400000 in
set_option maxRecDepth 100000 in
theorem c_FW_putBlock (l : Launch) (dC : Nat → ClassId) (dI : Nat → Nat → Nat) (into : Nat) (zz : Nat) (inR : Nat) (zTi : Nat) (zTt : Nat) (zOf : Nat) (zDs : Nat) (zIx : Nat) (zSd : Nat) (zUt : Nat) (zCh : Nat) (zLt : Nat) (zLo : Nat) (zRu : Nat) (chR : Nat) (cAinR : ClassId) (cAzTi : ClassId) (cAzTt : ClassId) (cAzOf : ClassId) (cAzDs : ClassId) (cAzIx : ClassId) (cAzSd : ClassId) (cAzUt : ClassId) (cAchR : ClassId) (cAzLt : ClassId) (cAzLo : ClassId) (sz : Nat) (nf : Nat) (p1 : Int32) (inS : Int32) (inN : Nat) (inA : Nat → Int32) (zVer : Int32) (zTic : Int32) (zTyc : Int32) (zLec : Int32) (zStc : Int32) (zUtc : Int32) (zTiA : Nat → Int64) (zTtA : Nat → Int32) (zOfA : Nat → Int32) (zDsA : Nat → Int32) (zIxA : Nat → Int32) (zSdA : Nat → Int32) (zUtA : Nat → Int32) (chS : Int32) (chN : Nat) (chA : Nat → Int32) (zLtA : Nat → Int64) (zLoA : Nat → Int32) {v0_1 : Int32} {v1_n : Nat} {v1_a : Nat → Int32} {kc ks : Nat} (hf : f_FW_putBlock nf p1 inS inN inA zTic zTyc zLec zStc zUtc zTiA zTtA zOfA zDsA zIxA zSdA zUtA chS chN chA zLtA zLoA = some ((v0_1, v1_n, v1_a), kc, ks)) : Met l y_FW_putBlock (wd y_FW_putBlock b_FW_putBlock 4 none) ({ frames := 4, cells := kc, slots := ks, locals := 86 }) (MU dC dI [(into, .inr (0, [.ref inR, .int inS])), (inR, .inl (cAinR, inN, .inl inA)), (zz, .inr (8, [.int zVer, .int zTic, .int zTyc, .int zLec, .int zStc, .int zUtc, .ref zTi, .ref zTt, .ref zOf, .ref zDs, .ref zIx, .ref zSd, .ref zUt, .ref zCh, .ref zLt, .ref zLo, .ref zRu])), (zTi, .inl (cAzTi, 200, .inr (.inl zTiA))), (zTt, .inl (cAzTt, 200, .inl zTtA)), (zOf, .inl (cAzOf, 40, .inl zOfA)), (zDs, .inl (cAzDs, 40, .inl zDsA)), (zIx, .inl (cAzIx, 40, .inl zIxA)), (zSd, .inl (cAzSd, 40, .inl zSdA)), (zUt, .inl (cAzUt, 40, .inl zUtA)), (zCh, .inr (0, [.ref chR, .int chS])), (chR, .inl (cAchR, chN, .inl chA)), (zLt, .inl (cAzLt, 40, .inr (.inl zLtA))), (zLo, .inl (cAzLo, 40, .inl zLoA))] [(cAinR, .byte), (cAzTi, .long), (cAzTt, .int), (cAzOf, .int), (cAzDs, .int), (cAzIx, .int), (cAzSd, .int), (cAzUt, .int), (cAchR, .byte), (cAzLt, .long), (cAzLo, .int)] sz [.ref into, .ref zz, .int p1]) (MV none (fun t => ∃ (q1 : Nat) (q11 : Nat) (nA1 : ClassId) (nA11 : ClassId), va_P (dC, dI) classes [(into, .inr (0, [.ref q1, .int v0_1])), (q1, .inl (nA1, v1_n, .inl v1_a)), (zz, .inr (8, [.int zVer, .int zTic, .int zTyc, .int zLec, .int zStc, .int zUtc, .ref zTi, .ref zTt, .ref zOf, .ref zDs, .ref zIx, .ref zSd, .ref zUt, .ref zCh, .ref zLt, .ref zLo, .ref zRu])), (zTi, .inl (cAzTi, 200, .inr (.inl zTiA))), (zTt, .inl (cAzTt, 200, .inl zTtA)), (zOf, .inl (cAzOf, 40, .inl zOfA)), (zDs, .inl (cAzDs, 40, .inl zDsA)), (zIx, .inl (cAzIx, 40, .inl zIxA)), (zSd, .inl (cAzSd, 40, .inl zSdA)), (zUt, .inl (cAzUt, 40, .inl zUtA)), (zCh, .inr (0, [.ref q11, .int chS])), (q11, .inl (nA11, chN, .inl chA)), (zLt, .inl (cAzLt, 40, .inr (.inl zLtA))), (zLo, .inl (cAzLo, 40, .inl zLoA))] t.heap ∧ va_K (dC, dI) classes [(nA1, .byte), (cAzTi, .long), (cAzTt, .int), (cAzOf, .int), (cAzDs, .int), (cAzIx, .int), (cAzSd, .int), (cAzUt, .int), (nA11, .byte), (cAzLt, .long), (cAzLo, .int)] t ∧ va_D (va_A [(into, .inr (0, [.ref inR, .int inS])), (inR, .inl (cAinR, inN, .inl inA)), (zz, .inr (8, [.int zVer, .int zTic, .int zTyc, .int zLec, .int zStc, .int zUtc, .ref zTi, .ref zTt, .ref zOf, .ref zDs, .ref zIx, .ref zSd, .ref zUt, .ref zCh, .ref zLt, .ref zLo, .ref zRu])), (zTi, .inl (cAzTi, 200, .inr (.inl zTiA))), (zTt, .inl (cAzTt, 200, .inl zTtA)), (zOf, .inl (cAzOf, 40, .inl zOfA)), (zDs, .inl (cAzDs, 40, .inl zDsA)), (zIx, .inl (cAzIx, 40, .inl zIxA)), (zSd, .inl (cAzSd, 40, .inl zSdA)), (zUt, .inl (cAzUt, 40, .inl zUtA)), (zCh, .inr (0, [.ref chR, .int chS])), (chR, .inl (cAchR, chN, .inl chA)), (zLt, .inl (cAzLt, 40, .inr (.inl zLtA))), (zLo, .inl (cAzLo, 40, .inl zLoA))] sz) [(into, .inr (0, [.ref q1, .int v0_1])), (q1, .inl (nA1, v1_n, .inl v1_a)), (zz, .inr (8, [.int zVer, .int zTic, .int zTyc, .int zLec, .int zStc, .int zUtc, .ref zTi, .ref zTt, .ref zOf, .ref zDs, .ref zIx, .ref zSd, .ref zUt, .ref zCh, .ref zLt, .ref zLo, .ref zRu])), (zTi, .inl (cAzTi, 200, .inr (.inl zTiA))), (zTt, .inl (cAzTt, 200, .inl zTtA)), (zOf, .inl (cAzOf, 40, .inl zOfA)), (zDs, .inl (cAzDs, 40, .inl zDsA)), (zIx, .inl (cAzIx, 40, .inl zIxA)), (zSd, .inl (cAzSd, 40, .inl zSdA)), (zUt, .inl (cAzUt, 40, .inl zUtA)), (zCh, .inr (0, [.ref q11, .int chS])), (q11, .inl (nA11, chN, .inl chA)), (zLt, .inl (cAzLt, 40, .inr (.inl zLtA))), (zLo, .inl (cAzLo, 40, .inl zLoA))]) (va_A [(into, .inr (0, [.ref inR, .int inS])), (inR, .inl (cAinR, inN, .inl inA)), (zz, .inr (8, [.int zVer, .int zTic, .int zTyc, .int zLec, .int zStc, .int zUtc, .ref zTi, .ref zTt, .ref zOf, .ref zDs, .ref zIx, .ref zSd, .ref zUt, .ref zCh, .ref zLt, .ref zLo, .ref zRu])), (zTi, .inl (cAzTi, 200, .inr (.inl zTiA))), (zTt, .inl (cAzTt, 200, .inl zTtA)), (zOf, .inl (cAzOf, 40, .inl zOfA)), (zDs, .inl (cAzDs, 40, .inl zDsA)), (zIx, .inl (cAzIx, 40, .inl zIxA)), (zSd, .inl (cAzSd, 40, .inl zSdA)), (zUt, .inl (cAzUt, 40, .inl zUtA)), (zCh, .inr (0, [.ref chR, .int chS])), (chR, .inl (cAchR, chN, .inl chA)), (zLt, .inl (cAzLt, 40, .inr (.inl zLtA))), (zLo, .inl (cAzLo, 40, .inl zLoA))] sz)) kc ks (va_A [(into, .inr (0, [.ref inR, .int inS])), (inR, .inl (cAinR, inN, .inl inA)), (zz, .inr (8, [.int zVer, .int zTic, .int zTyc, .int zLec, .int zStc, .int zUtc, .ref zTi, .ref zTt, .ref zOf, .ref zDs, .ref zIx, .ref zSd, .ref zUt, .ref zCh, .ref zLt, .ref zLo, .ref zRu])), (zTi, .inl (cAzTi, 200, .inr (.inl zTiA))), (zTt, .inl (cAzTt, 200, .inl zTtA)), (zOf, .inl (cAzOf, 40, .inl zOfA)), (zDs, .inl (cAzDs, 40, .inl zDsA)), (zIx, .inl (cAzIx, 40, .inl zIxA)), (zSd, .inl (cAzSd, 40, .inl zSdA)), (zUt, .inl (cAzUt, 40, .inl zUtA)), (zCh, .inr (0, [.ref chR, .int chS])), (chR, .inl (cAchR, chN, .inl chA)), (zLt, .inl (cAzLt, 40, .inr (.inl zLtA))), (zLo, .inl (cAzLo, 40, .inl zLoA))] sz) :=
  met_M (plainFor_of_name (by decide)) (Nat.le_of_ble_eq_true rfl) (fun p e R s m args below meth c ls hRc hRs hsz hin C0 hST hK hP hD hl => by
    obtain ⟨hx, hb, hr, hml, hown, hts, hlocks, hRf, hRl⟩ := id C0
    subst hRc; subst hRs
    subst hsz
    have hA : ∀ q : Nat, s.heap.size ≤ q → va_A [(into, .inr (0, [.ref inR, .int inS])), (inR, .inl (cAinR, inN, .inl inA)), (zz, .inr (8, [.int zVer, .int zTic, .int zTyc, .int zLec, .int zStc, .int zUtc, .ref zTi, .ref zTt, .ref zOf, .ref zDs, .ref zIx, .ref zSd, .ref zUt, .ref zCh, .ref zLt, .ref zLo, .ref zRu])), (zTi, .inl (cAzTi, 200, .inr (.inl zTiA))), (zTt, .inl (cAzTt, 200, .inl zTtA)), (zOf, .inl (cAzOf, 40, .inl zOfA)), (zDs, .inl (cAzDs, 40, .inl zDsA)), (zIx, .inl (cAzIx, 40, .inl zIxA)), (zSd, .inl (cAzSd, 40, .inl zSdA)), (zUt, .inl (cAzUt, 40, .inl zUtA)), (zCh, .inr (0, [.ref chR, .int chS])), (chR, .inl (cAchR, chN, .inl chA)), (zLt, .inl (cAzLt, 40, .inr (.inl zLtA))), (zLo, .inl (cAzLo, 40, .inl zLoA))] s.heap.size q := fun q h => Or.inr h
    have hS : va_S (va_A [(into, .inr (0, [.ref inR, .int inS])), (inR, .inl (cAinR, inN, .inl inA)), (zz, .inr (8, [.int zVer, .int zTic, .int zTyc, .int zLec, .int zStc, .int zUtc, .ref zTi, .ref zTt, .ref zOf, .ref zDs, .ref zIx, .ref zSd, .ref zUt, .ref zCh, .ref zLt, .ref zLo, .ref zRu])), (zTi, .inl (cAzTi, 200, .inr (.inl zTiA))), (zTt, .inl (cAzTt, 200, .inl zTtA)), (zOf, .inl (cAzOf, 40, .inl zOfA)), (zDs, .inl (cAzDs, 40, .inl zDsA)), (zIx, .inl (cAzIx, 40, .inl zIxA)), (zSd, .inl (cAzSd, 40, .inl zSdA)), (zUt, .inl (cAzUt, 40, .inl zUtA)), (zCh, .inr (0, [.ref chR, .int chS])), (chR, .inl (cAchR, chN, .inl chA)), (zLt, .inl (cAzLt, 40, .inr (.inl zLtA))), (zLo, .inl (cAzLo, 40, .inl zLoA))] s.heap.size) s.heap s.heap [] := va_S.rf
    have hkc := Nat.zero_add R.cells
    have hks := Nat.zero_add R.slots
    unfold f_FW_putBlock at hf
    exact k_FW_putBlock_0 C0 hST hA (fun pc ls {q1} {q11} {nA1} {nA11} H locs hd hP hD hS hK => W.vret hx hb hr (fun t ht hW => ⟨⟨rfl, ⟨q1, q11, nA1, nA11, by rw [ht]; exact hP, va_K.moved hW.alike hK, hD⟩⟩, hS.F ht⟩) hS.2.2 hd) hf hK hP hD hS hkc hks (lv_sub hl [0, 1, 2] rfl))
-- ZoneFiles$FileWriting.putFile(LZoneFiles$Bytes;LZoneFiles$Zone;I)V
def f_FW_putFile_0 (nf : Nat) (zTic : Int32) (zTyc : Int32) (zLec : Int32) (zStc : Int32) (zUtc : Int32) (zTiA : Nat → Int64) (zTtA : Nat → Int32) (zOfA : Nat → Int32) (zDsA : Nat → Int32) (zIxA : Nat → Int32) (zSdA : Nat → Int32) (zUtA : Nat → Int32) (chS : Int32) (chN : Nat) (chA : Nat → Int32) (zLtA : Nat → Int64) (zLoA : Nat → Int32) (txS : Int32) (txN : Nat) (txA : Nat → Int32) (x2 : Int32) (w0_1 : Int32) (w1_n : Nat) (w1_a : Nat → Int32) : Option ((Int32 × Nat × (Nat → Int32)) × Nat × Nat) :=
  (f_By_clear nf w0_1).bind fun z_1 =>
  if x2 = 0 then
  (f_FW_putHeader nf x2 z_1 w1_n w1_a zTic zTyc zLec zStc zUtc chS).bind fun ((z_49, z_50, z_51), kc_54, ks_55) =>
    ad kc_54 ks_55 ((f_FW_putBlock nf 4 z_49 z_50 z_51 zTic zTyc zLec zStc zUtc zTiA zTtA zOfA zDsA zIxA zSdA zUtA chS chN chA zLtA zLoA).bind fun ((z_56, z_57, z_58), kc_63, ks_64) =>
    ad kc_63 ks_64 (some ((z_56, z_57, z_58), 0, 0)))
  else
  (f_FW_putEmptyFile nf x2 z_1 w1_n w1_a).bind fun ((z_3, z_4, z_5), kc_8, ks_9) =>
    ad kc_8 ks_9 ((f_FW_putHeader nf x2 z_3 z_4 z_5 zTic zTyc zLec zStc zUtc chS).bind fun ((z_10, z_11, z_12), kc_15, ks_16) =>
    ad kc_15 ks_16 ((f_FW_putBlock nf 8 z_10 z_11 z_12 zTic zTyc zLec zStc zUtc zTiA zTtA zOfA zDsA zIxA zSdA zUtA chS chN chA zLtA zLoA).bind fun ((z_17, z_18, z_19), kc_24, ks_25) =>
    ad kc_24 ks_25 ((f_By_put nf 10 z_17 z_18 z_19).bind fun ((z_26, z_27, z_28), kc_31, ks_32) =>
    ad kc_31 ks_32 ((f_By_putAll nf 0 txS z_26 z_27 z_28 txS txN txA).bind fun ((z_33, z_34, z_35), kc_40, ks_41) =>
    ad kc_40 ks_41 ((f_By_put nf 10 z_33 z_34 z_35).bind fun ((z_42, z_43, z_44), kc_47, ks_48) =>
    ad kc_47 ks_48 (some ((z_42, z_43, z_44), 0, 0)))))))
def f_FW_putFile (nf : Nat) (p1 : Int32) (inS : Int32) (inN : Nat) (inA : Nat → Int32) (zTic : Int32) (zTyc : Int32) (zLec : Int32) (zStc : Int32) (zUtc : Int32) (zTiA : Nat → Int64) (zTtA : Nat → Int32) (zOfA : Nat → Int32) (zDsA : Nat → Int32) (zIxA : Nat → Int32) (zSdA : Nat → Int32) (zUtA : Nat → Int32) (chS : Int32) (chN : Nat) (chA : Nat → Int32) (zLtA : Nat → Int64) (zLoA : Nat → Int32) (txS : Int32) (txN : Nat) (txA : Nat → Int32) : Option ((Int32 × Nat × (Nat → Int32)) × Nat × Nat) :=
  f_FW_putFile_0 nf zTic zTyc zLec zStc zUtc zTiA zTtA zOfA zDsA zIxA zSdA zUtA chS chN chA zLtA zLoA txS txN txA p1 inS inN inA
section
variable {p : Program} {l : Launch} {e : Env} {R : Room} {s : State} {m : MethodId} {args : Array Value} {below : List Frame} {meth : Method} {c : Code} {Q : State → Prop} {dC : Nat → ClassId} {dI : Nat → Nat → Nat} {nf : Nat} {A : Nat → Prop}
variable {into : Nat} {zz : Nat} {inR : Nat} {zTi : Nat} {zTt : Nat} {zOf : Nat} {zDs : Nat} {zIx : Nat} {zSd : Nat} {zUt : Nat} {zCh : Nat} {zLt : Nat} {zLo : Nat} {zRu : Nat} {chR : Nat} {ruT : Nat} {ruB : Nat} {ruE : Nat} {txR : Nat} {cAinR : ClassId} {cAzTi : ClassId} {cAzTt : ClassId} {cAzOf : ClassId} {cAzDs : ClassId} {cAzIx : ClassId} {cAzSd : ClassId} {cAzUt : ClassId} {cAchR : ClassId} {cAzLt : ClassId} {cAzLo : ClassId} {cAtxR : ClassId} {inS : Int32} {inN : Nat} {inA : Nat → Int32} {zVer : Int32} {zTic : Int32} {zTyc : Int32} {zLec : Int32} {zStc : Int32} {zUtc : Int32} {zTiA : Nat → Int64} {zTtA : Nat → Int32} {zOfA : Nat → Int32} {zDsA : Nat → Int32} {zIxA : Nat → Int32} {zSdA : Nat → Int32} {zUtA : Nat → Int32} {chS : Int32} {chN : Nat} {chA : Nat → Int32} {zLtA : Nat → Int64} {zLoA : Nat → Int32} {ruHas : Int32} {ruWide : Int32} {ruSo : Int32} {ruUo : Int32} {ruSp : Int32} {ruSs : Int32} {ruUp : Int32} {ruUs : Int32} {ruNev : Int32} {txS : Int32} {txN : Nat} {txA : Nat → Int32} {v0_1 : Int32} {v1_n : Nat} {v1_a : Nat → Int32}
set_option maxHeartbeats 400000 in
set_option maxRecDepth 100000 in
theorem k_FW_putFile_0 (C0 : Cx p s m meth c args R b_FW_putFile "ZoneFiles$FileWriting" 3 none 6 128) (hST : ST A s s.heap) (hA : ∀ q, s.heap.size ≤ q → A q) (hE : ∀ (pc : Nat) (ls : Array Slot) {q1 : Nat} {q11 : Nat} {q16 : Nat} {nA1 : ClassId} {nA11 : ClassId} {nA16 : ClassId} (H : Heap) (locs : List Loc), decode b_FW_putFile pc = .ok (.return_, 1) → va_P (dC, dI) classes [(into, .inr (0, [.ref q1, .int v0_1])), (q1, .inl (nA1, v1_n, .inl v1_a)), (zz, .inr (8, [.int zVer, .int zTic, .int zTyc, .int zLec, .int zStc, .int zUtc, .ref zTi, .ref zTt, .ref zOf, .ref zDs, .ref zIx, .ref zSd, .ref zUt, .ref zCh, .ref zLt, .ref zLo, .ref zRu])), (zTi, .inl (cAzTi, 200, .inr (.inl zTiA))), (zTt, .inl (cAzTt, 200, .inl zTtA)), (zOf, .inl (cAzOf, 40, .inl zOfA)), (zDs, .inl (cAzDs, 40, .inl zDsA)), (zIx, .inl (cAzIx, 40, .inl zIxA)), (zSd, .inl (cAzSd, 40, .inl zSdA)), (zUt, .inl (cAzUt, 40, .inl zUtA)), (zCh, .inr (0, [.ref q11, .int chS])), (q11, .inl (nA11, chN, .inl chA)), (zLt, .inl (cAzLt, 40, .inr (.inl zLtA))), (zLo, .inl (cAzLo, 40, .inl zLoA)), (zRu, .inr (5, [.ref ruT, .ref ruB, .ref ruE, .int ruHas, .int ruWide, .int ruSo, .int ruUo, .int ruSp, .int ruSs, .int ruUp, .int ruUs, .int ruNev])), (ruT, .inr (0, [.ref q16, .int txS])), (q16, .inl (nA16, txN, .inl txA))] H → va_D A [(into, .inr (0, [.ref q1, .int v0_1])), (q1, .inl (nA1, v1_n, .inl v1_a)), (zz, .inr (8, [.int zVer, .int zTic, .int zTyc, .int zLec, .int zStc, .int zUtc, .ref zTi, .ref zTt, .ref zOf, .ref zDs, .ref zIx, .ref zSd, .ref zUt, .ref zCh, .ref zLt, .ref zLo, .ref zRu])), (zTi, .inl (cAzTi, 200, .inr (.inl zTiA))), (zTt, .inl (cAzTt, 200, .inl zTtA)), (zOf, .inl (cAzOf, 40, .inl zOfA)), (zDs, .inl (cAzDs, 40, .inl zDsA)), (zIx, .inl (cAzIx, 40, .inl zIxA)), (zSd, .inl (cAzSd, 40, .inl zSdA)), (zUt, .inl (cAzUt, 40, .inl zUtA)), (zCh, .inr (0, [.ref q11, .int chS])), (q11, .inl (nA11, chN, .inl chA)), (zLt, .inl (cAzLt, 40, .inr (.inl zLtA))), (zLo, .inl (cAzLo, 40, .inl zLoA)), (zRu, .inr (5, [.ref ruT, .ref ruB, .ref ruE, .int ruHas, .int ruWide, .int ruSo, .int ruUo, .int ruSp, .int ruSs, .int ruUp, .int ruUs, .int ruNev])), (ruT, .inr (0, [.ref q16, .int txS])), (q16, .inl (nA16, txN, .inl txA))] → va_S A s.heap H locs → va_K (dC, dI) classes [(nA1, .byte), (cAzTi, .long), (cAzTt, .int), (cAzOf, .int), (cAzDs, .int), (cAzIx, .int), (cAzSd, .int), (cAzUt, .int), (nA11, .byte), (cAzLt, .long), (cAzLo, .int), (nA16, .byte)] s → W p l e R s m args below meth c H locs R.cells R.slots Q (F0 m pc ls [])) {x2 : Int32} {w0_1 : Int32} {w1_n : Nat} {w1_a : Nat → Int32} {kc ks : Nat} (hf : f_FW_putFile_0 nf zTic zTyc zLec zStc zUtc zTiA zTtA zOfA zDsA zIxA zSdA zUtA chS chN chA zLtA zLoA txS txN txA x2 w0_1 w1_n w1_a = some ((v0_1, v1_n, v1_a), kc, ks)) {q1 : Nat} {nA1 : ClassId} {q11 : Nat} {nA11 : ClassId} {q16 : Nat} {nA16 : ClassId} {cells slots : Nat} {H : Heap} {locs : List Loc} {ls : Array Slot} (hK : va_K (dC, dI) classes [(nA1, .byte), (cAzTi, .long), (cAzTt, .int), (cAzOf, .int), (cAzDs, .int), (cAzIx, .int), (cAzSd, .int), (cAzUt, .int), (nA11, .byte), (cAzLt, .long), (cAzLo, .int), (nA16, .byte)] s) (hP : va_P (dC, dI) classes [(into, .inr (0, [.ref q1, .int w0_1])), (q1, .inl (nA1, w1_n, .inl w1_a)), (zz, .inr (8, [.int zVer, .int zTic, .int zTyc, .int zLec, .int zStc, .int zUtc, .ref zTi, .ref zTt, .ref zOf, .ref zDs, .ref zIx, .ref zSd, .ref zUt, .ref zCh, .ref zLt, .ref zLo, .ref zRu])), (zTi, .inl (cAzTi, 200, .inr (.inl zTiA))), (zTt, .inl (cAzTt, 200, .inl zTtA)), (zOf, .inl (cAzOf, 40, .inl zOfA)), (zDs, .inl (cAzDs, 40, .inl zDsA)), (zIx, .inl (cAzIx, 40, .inl zIxA)), (zSd, .inl (cAzSd, 40, .inl zSdA)), (zUt, .inl (cAzUt, 40, .inl zUtA)), (zCh, .inr (0, [.ref q11, .int chS])), (q11, .inl (nA11, chN, .inl chA)), (zLt, .inl (cAzLt, 40, .inr (.inl zLtA))), (zLo, .inl (cAzLo, 40, .inl zLoA)), (zRu, .inr (5, [.ref ruT, .ref ruB, .ref ruE, .int ruHas, .int ruWide, .int ruSo, .int ruUo, .int ruSp, .int ruSs, .int ruUp, .int ruUs, .int ruNev])), (ruT, .inr (0, [.ref q16, .int txS])), (q16, .inl (nA16, txN, .inl txA))] H) (hD : va_D A [(into, .inr (0, [.ref q1, .int w0_1])), (q1, .inl (nA1, w1_n, .inl w1_a)), (zz, .inr (8, [.int zVer, .int zTic, .int zTyc, .int zLec, .int zStc, .int zUtc, .ref zTi, .ref zTt, .ref zOf, .ref zDs, .ref zIx, .ref zSd, .ref zUt, .ref zCh, .ref zLt, .ref zLo, .ref zRu])), (zTi, .inl (cAzTi, 200, .inr (.inl zTiA))), (zTt, .inl (cAzTt, 200, .inl zTtA)), (zOf, .inl (cAzOf, 40, .inl zOfA)), (zDs, .inl (cAzDs, 40, .inl zDsA)), (zIx, .inl (cAzIx, 40, .inl zIxA)), (zSd, .inl (cAzSd, 40, .inl zSdA)), (zUt, .inl (cAzUt, 40, .inl zUtA)), (zCh, .inr (0, [.ref q11, .int chS])), (q11, .inl (nA11, chN, .inl chA)), (zLt, .inl (cAzLt, 40, .inr (.inl zLtA))), (zLo, .inl (cAzLo, 40, .inl zLoA)), (zRu, .inr (5, [.ref ruT, .ref ruB, .ref ruE, .int ruHas, .int ruWide, .int ruSo, .int ruUo, .int ruSp, .int ruSs, .int ruUp, .int ruUs, .int ruNev])), (ruT, .inr (0, [.ref q16, .int txS])), (q16, .inl (nA16, txN, .inl txA))]) (hS : va_S A s.heap H locs) (hkc : cells + kc = R.cells) (hks : slots + ks = R.slots) (hl : lv_has ls 3 [(0, .ref into), (1, .ref zz), (2, .int x2)]) : W p l e R s m args below meth c H locs cells slots Q (F0 m 0 ls []) := by
  obtain ⟨hx, hb, hr, hml, hown, hts, hlocks, hRf, hRl⟩ := id C0
  obtain ⟨tms, hZms, hTms, tmg, hZmg, hTmg, hNW⟩ := id hST
  unfold f_FW_putFile_0 at hf
  refine lv_aload_n hx hb d_FW_putFile_0 rfl (lv_at hl 0 rfl) ?_
  obtain ⟨z_1, hc, hf⟩ := ob hf
  have hPc := hP.sub (ws' := [(into, .inr (0, [.ref q1, .int w0_1]))]) [0] rfl
  have hDc := hD.sub (ws' := [(into, .inr (0, [.ref q1, .int w0_1]))]) [0] (by decide) rfl
  have hKc := hK.sub (tys' := []) [] rfl
  have hFc := va_free (wc := [(into, .inr (0, [.ref q1, .int w0_1]))]) hD hS hA [0] rfl
  refine cl_M (v := none) (st1 := []) (va_runV (As := []) (rest := []) ⟨hx, hb, hml, hown, hts⟩ (c_By_clear l dC dI into q1 H.size nf w0_1 hc) (cwV 0 hts (gdV m_6_23 m_2_34 m_2_35 m_1_2 m_2_36) rfl rfl rfl (by decide +kernel) ⟨Nat.le_trans (Nat.le_of_ble_eq_true rfl) hRf, Nat.le_trans (Nat.le_of_ble_eq_true rfl) hRl⟩) ((MU.pre hPc hKc hDc (hST.mu hS hFc)).vir (va_recv hKc hPc (ci := 0) (q0 := 0) rfl rfl)) rfl rfl hl.1 rfl (lv_room (Nat.le_of_ble_eq_true rfl)) d_FW_putFile_1 ⟨c0 hkc, c0 hks⟩) rfl hS (fun q _ h => hFc q h) hFc (fun t H1 locs ht hvm hB hz1 hk1 hS => ?_)
  obtain ⟨hP1, hK1, hD1⟩ := hB
  rw [ht] at hP1
  have hK1 := va_K.moved hvm.symm hK1
  obtain ⟨hP, hD⟩ := va_join (wr := [(q1, .inl (nA1, w1_n, .inl w1_a)), (zz, .inr (8, [.int zVer, .int zTic, .int zTyc, .int zLec, .int zStc, .int zUtc, .ref zTi, .ref zTt, .ref zOf, .ref zDs, .ref zIx, .ref zSd, .ref zUt, .ref zCh, .ref zLt, .ref zLo, .ref zRu])), (zTi, .inl (cAzTi, 200, .inr (.inl zTiA))), (zTt, .inl (cAzTt, 200, .inl zTtA)), (zOf, .inl (cAzOf, 40, .inl zOfA)), (zDs, .inl (cAzDs, 40, .inl zDsA)), (zIx, .inl (cAzIx, 40, .inl zIxA)), (zSd, .inl (cAzSd, 40, .inl zSdA)), (zUt, .inl (cAzUt, 40, .inl zUtA)), (zCh, .inr (0, [.ref q11, .int chS])), (q11, .inl (nA11, chN, .inl chA)), (zLt, .inl (cAzLt, 40, .inr (.inl zLtA))), (zLo, .inl (cAzLo, 40, .inl zLoA)), (zRu, .inr (5, [.ref ruT, .ref ruB, .ref ruE, .int ruHas, .int ruWide, .int ruSo, .int ruUo, .int ruSp, .int ruSs, .int ruUp, .int ruUs, .int ruNev])), (ruT, .inr (0, [.ref q16, .int txS])), (q16, .inl (nA16, txN, .inl txA))]) (w1 := [(into, .inr (0, [.ref q1, .int z_1]))]) hP hD [0] [1, 2, 3, 4, 5, 6, 7, 8, 9, 10, 11, 12, 13, 14, 15, 16] rfl rfl (by decide) (by decide) hk1 hFc hP1 hD1
  have hK := (hK.sub (tys' := [(nA1, .byte), (cAzTi, .long), (cAzTt, .int), (cAzOf, .int), (cAzDs, .int), (cAzIx, .int), (cAzSd, .int), (cAzUt, .int), (nA11, .byte), (cAzLt, .long), (cAzLo, .int), (nA16, .byte)]) [0, 1, 2, 3, 4, 5, 6, 7, 8, 9, 10, 11] rfl).app hK1
  generalize H1 = H at hP hS ⊢
  have hP := hP.sub (ws' := [(into, .inr (0, [.ref q1, .int z_1])), (q1, .inl (nA1, w1_n, .inl w1_a)), (zz, .inr (8, [.int zVer, .int zTic, .int zTyc, .int zLec, .int zStc, .int zUtc, .ref zTi, .ref zTt, .ref zOf, .ref zDs, .ref zIx, .ref zSd, .ref zUt, .ref zCh, .ref zLt, .ref zLo, .ref zRu])), (zTi, .inl (cAzTi, 200, .inr (.inl zTiA))), (zTt, .inl (cAzTt, 200, .inl zTtA)), (zOf, .inl (cAzOf, 40, .inl zOfA)), (zDs, .inl (cAzDs, 40, .inl zDsA)), (zIx, .inl (cAzIx, 40, .inl zIxA)), (zSd, .inl (cAzSd, 40, .inl zSdA)), (zUt, .inl (cAzUt, 40, .inl zUtA)), (zCh, .inr (0, [.ref q11, .int chS])), (q11, .inl (nA11, chN, .inl chA)), (zLt, .inl (cAzLt, 40, .inr (.inl zLtA))), (zLo, .inl (cAzLo, 40, .inl zLoA)), (zRu, .inr (5, [.ref ruT, .ref ruB, .ref ruE, .int ruHas, .int ruWide, .int ruSo, .int ruUo, .int ruSp, .int ruSs, .int ruUp, .int ruUs, .int ruNev])), (ruT, .inr (0, [.ref q16, .int txS])), (q16, .inl (nA16, txN, .inl txA))]) [16, 0, 1, 2, 3, 4, 5, 6, 7, 8, 9, 10, 11, 12, 13, 14, 15] rfl
  have hD := hD.sub (ws' := [(into, .inr (0, [.ref q1, .int z_1])), (q1, .inl (nA1, w1_n, .inl w1_a)), (zz, .inr (8, [.int zVer, .int zTic, .int zTyc, .int zLec, .int zStc, .int zUtc, .ref zTi, .ref zTt, .ref zOf, .ref zDs, .ref zIx, .ref zSd, .ref zUt, .ref zCh, .ref zLt, .ref zLo, .ref zRu])), (zTi, .inl (cAzTi, 200, .inr (.inl zTiA))), (zTt, .inl (cAzTt, 200, .inl zTtA)), (zOf, .inl (cAzOf, 40, .inl zOfA)), (zDs, .inl (cAzDs, 40, .inl zDsA)), (zIx, .inl (cAzIx, 40, .inl zIxA)), (zSd, .inl (cAzSd, 40, .inl zSdA)), (zUt, .inl (cAzUt, 40, .inl zUtA)), (zCh, .inr (0, [.ref q11, .int chS])), (q11, .inl (nA11, chN, .inl chA)), (zLt, .inl (cAzLt, 40, .inr (.inl zLtA))), (zLo, .inl (cAzLo, 40, .inl zLoA)), (zRu, .inr (5, [.ref ruT, .ref ruB, .ref ruE, .int ruHas, .int ruWide, .int ruSo, .int ruUo, .int ruSp, .int ruSs, .int ruUp, .int ruUs, .int ruNev])), (ruT, .inr (0, [.ref q16, .int txS])), (q16, .inl (nA16, txN, .inl txA))]) [16, 0, 1, 2, 3, 4, 5, 6, 7, 8, 9, 10, 11, 12, 13, 14, 15] (by decide) rfl
  have hK := hK.sub (tys' := [(nA1, .byte), (cAzTi, .long), (cAzTt, .int), (cAzOf, .int), (cAzDs, .int), (cAzIx, .int), (cAzSd, .int), (cAzUt, .int), (nA11, .byte), (cAzLt, .long), (cAzLo, .int), (nA16, .byte)]) [0, 1, 2, 3, 4, 5, 6, 7, 8, 9, 10, 11] rfl
  refine lv_iload_n hx hb d_FW_putFile_4 rfl (lv_at hl 2 rfl) ?_
  refine lv_if_ne (tgt := 21) hx hb d_FW_putFile_5 (by decide) (fun c_2 => ?_) (fun c_2 => ?_)
  · have hf := it_f c_2 hf
    refine lv_aload_n hx hb d_FW_putFile_21 rfl (lv_at hl 0 rfl) ?_
    refine lv_iload_n hx hb d_FW_putFile_22 rfl (lv_at hl 2 rfl) ?_
    obtain ⟨⟨⟨z_3, z_4, z_5⟩, kc_8, ks_9⟩, hc, hf⟩ := ob hf
    obtain ⟨kc, ks, hf, ekc, eks⟩ := oa hf
    have hPc := hP.sub (ws' := [(into, .inr (0, [.ref q1, .int z_1])), (q1, .inl (nA1, w1_n, .inl w1_a))]) [0, 1] rfl
    have hDc := hD.sub (ws' := [(into, .inr (0, [.ref q1, .int z_1])), (q1, .inl (nA1, w1_n, .inl w1_a))]) [0, 1] (by decide) rfl
    have hKc := hK.sub (tys' := [(nA1, .byte)]) [0] rfl
    have hFc := va_free (wc := [(into, .inr (0, [.ref q1, .int z_1])), (q1, .inl (nA1, w1_n, .inl w1_a))]) hD hS hA [0, 1] rfl
    refine cl_M (v := none) (st1 := []) (va_runS (As := [.ref into, .int x2]) (rest := []) ⟨hx, hb, hml, hown, hts⟩ (c_FW_putEmptyFile l dC dI into q1 nA1 H.size nf x2 z_1 w1_n w1_a hc) (va_cwS 2 hts (gdS m_6_44 m_6_45 m_1_22 m_6_46) rfl rfl rfl (by decide +kernel) ⟨Nat.le_trans (Nat.le_of_ble_eq_true rfl) hRf, Nat.le_trans (Nat.le_of_ble_eq_true rfl) hRl⟩) (MU.pre hPc hKc hDc (hST.mu hS hFc)).sta rfl rfl hl.1 rfl (lv_room (Nat.le_of_ble_eq_true rfl)) d_FW_putFile_23 ⟨cb hkc ekc, cb hks eks⟩) rfl hS (fun q _ h => hFc q h) hFc (fun t H1 locs ht hvm hB hz1 hk1 hS => ?_)
    obtain ⟨q_6, cq_7, hP1, hK1, hD1⟩ := hB
    rw [ht] at hP1
    have hK1 := va_K.moved hvm.symm hK1
    obtain ⟨hP, hD⟩ := va_join (wr := [(zz, .inr (8, [.int zVer, .int zTic, .int zTyc, .int zLec, .int zStc, .int zUtc, .ref zTi, .ref zTt, .ref zOf, .ref zDs, .ref zIx, .ref zSd, .ref zUt, .ref zCh, .ref zLt, .ref zLo, .ref zRu])), (zTi, .inl (cAzTi, 200, .inr (.inl zTiA))), (zTt, .inl (cAzTt, 200, .inl zTtA)), (zOf, .inl (cAzOf, 40, .inl zOfA)), (zDs, .inl (cAzDs, 40, .inl zDsA)), (zIx, .inl (cAzIx, 40, .inl zIxA)), (zSd, .inl (cAzSd, 40, .inl zSdA)), (zUt, .inl (cAzUt, 40, .inl zUtA)), (zCh, .inr (0, [.ref q11, .int chS])), (q11, .inl (nA11, chN, .inl chA)), (zLt, .inl (cAzLt, 40, .inr (.inl zLtA))), (zLo, .inl (cAzLo, 40, .inl zLoA)), (zRu, .inr (5, [.ref ruT, .ref ruB, .ref ruE, .int ruHas, .int ruWide, .int ruSo, .int ruUo, .int ruSp, .int ruSs, .int ruUp, .int ruUs, .int ruNev])), (ruT, .inr (0, [.ref q16, .int txS])), (q16, .inl (nA16, txN, .inl txA))]) (w1 := [(into, .inr (0, [.ref q_6, .int z_3])), (q_6, .inl (cq_7, z_4, .inl z_5))]) hP hD [0, 1] [2, 3, 4, 5, 6, 7, 8, 9, 10, 11, 12, 13, 14, 15, 16] rfl rfl (by decide) (by decide) hk1 hFc hP1 hD1
    have hK := (hK.sub (tys' := [(cAzTi, .long), (cAzTt, .int), (cAzOf, .int), (cAzDs, .int), (cAzIx, .int), (cAzSd, .int), (cAzUt, .int), (nA11, .byte), (cAzLt, .long), (cAzLo, .int), (nA16, .byte)]) [1, 2, 3, 4, 5, 6, 7, 8, 9, 10, 11] rfl).app hK1
    generalize H1 = H at hP hS ⊢
    have hP := hP.sub (ws' := [(into, .inr (0, [.ref q_6, .int z_3])), (q_6, .inl (cq_7, z_4, .inl z_5)), (zz, .inr (8, [.int zVer, .int zTic, .int zTyc, .int zLec, .int zStc, .int zUtc, .ref zTi, .ref zTt, .ref zOf, .ref zDs, .ref zIx, .ref zSd, .ref zUt, .ref zCh, .ref zLt, .ref zLo, .ref zRu])), (zTi, .inl (cAzTi, 200, .inr (.inl zTiA))), (zTt, .inl (cAzTt, 200, .inl zTtA)), (zOf, .inl (cAzOf, 40, .inl zOfA)), (zDs, .inl (cAzDs, 40, .inl zDsA)), (zIx, .inl (cAzIx, 40, .inl zIxA)), (zSd, .inl (cAzSd, 40, .inl zSdA)), (zUt, .inl (cAzUt, 40, .inl zUtA)), (zCh, .inr (0, [.ref q11, .int chS])), (q11, .inl (nA11, chN, .inl chA)), (zLt, .inl (cAzLt, 40, .inr (.inl zLtA))), (zLo, .inl (cAzLo, 40, .inl zLoA)), (zRu, .inr (5, [.ref ruT, .ref ruB, .ref ruE, .int ruHas, .int ruWide, .int ruSo, .int ruUo, .int ruSp, .int ruSs, .int ruUp, .int ruUs, .int ruNev])), (ruT, .inr (0, [.ref q16, .int txS])), (q16, .inl (nA16, txN, .inl txA))]) [15, 16, 0, 1, 2, 3, 4, 5, 6, 7, 8, 9, 10, 11, 12, 13, 14] rfl
    have hD := hD.sub (ws' := [(into, .inr (0, [.ref q_6, .int z_3])), (q_6, .inl (cq_7, z_4, .inl z_5)), (zz, .inr (8, [.int zVer, .int zTic, .int zTyc, .int zLec, .int zStc, .int zUtc, .ref zTi, .ref zTt, .ref zOf, .ref zDs, .ref zIx, .ref zSd, .ref zUt, .ref zCh, .ref zLt, .ref zLo, .ref zRu])), (zTi, .inl (cAzTi, 200, .inr (.inl zTiA))), (zTt, .inl (cAzTt, 200, .inl zTtA)), (zOf, .inl (cAzOf, 40, .inl zOfA)), (zDs, .inl (cAzDs, 40, .inl zDsA)), (zIx, .inl (cAzIx, 40, .inl zIxA)), (zSd, .inl (cAzSd, 40, .inl zSdA)), (zUt, .inl (cAzUt, 40, .inl zUtA)), (zCh, .inr (0, [.ref q11, .int chS])), (q11, .inl (nA11, chN, .inl chA)), (zLt, .inl (cAzLt, 40, .inr (.inl zLtA))), (zLo, .inl (cAzLo, 40, .inl zLoA)), (zRu, .inr (5, [.ref ruT, .ref ruB, .ref ruE, .int ruHas, .int ruWide, .int ruSo, .int ruUo, .int ruSp, .int ruSs, .int ruUp, .int ruUs, .int ruNev])), (ruT, .inr (0, [.ref q16, .int txS])), (q16, .inl (nA16, txN, .inl txA))]) [15, 16, 0, 1, 2, 3, 4, 5, 6, 7, 8, 9, 10, 11, 12, 13, 14] (by decide) rfl
    have hK := hK.sub (tys' := [(cq_7, .byte), (cAzTi, .long), (cAzTt, .int), (cAzOf, .int), (cAzDs, .int), (cAzIx, .int), (cAzSd, .int), (cAzUt, .int), (nA11, .byte), (cAzLt, .long), (cAzLo, .int), (nA16, .byte)]) [11, 0, 1, 2, 3, 4, 5, 6, 7, 8, 9, 10] rfl
    have hkc := ck hkc ekc
    have hks := ck hks eks
    generalize cells + kc_8 = cells at hkc ⊢
    generalize slots + ks_9 = slots at hks ⊢
    refine lv_aload_n hx hb d_FW_putFile_26 rfl (lv_at hl 0 rfl) ?_
    refine lv_aload_n hx hb d_FW_putFile_27 rfl (lv_at hl 1 rfl) ?_
    refine lv_iload_n hx hb d_FW_putFile_28 rfl (lv_at hl 2 rfl) ?_
    obtain ⟨⟨⟨z_10, z_11, z_12⟩, kc_15, ks_16⟩, hc, hf⟩ := ob hf
    obtain ⟨kc, ks, hf, ekc, eks⟩ := oa hf
    have hPc := hP.sub (ws' := [(into, .inr (0, [.ref q_6, .int z_3])), (q_6, .inl (cq_7, z_4, .inl z_5)), (zz, .inr (8, [.int zVer, .int zTic, .int zTyc, .int zLec, .int zStc, .int zUtc, .ref zTi, .ref zTt, .ref zOf, .ref zDs, .ref zIx, .ref zSd, .ref zUt, .ref zCh, .ref zLt, .ref zLo, .ref zRu])), (zCh, .inr (0, [.ref q11, .int chS]))]) [0, 1, 2, 10] rfl
    have hDc := hD.sub (ws' := [(into, .inr (0, [.ref q_6, .int z_3])), (q_6, .inl (cq_7, z_4, .inl z_5)), (zz, .inr (8, [.int zVer, .int zTic, .int zTyc, .int zLec, .int zStc, .int zUtc, .ref zTi, .ref zTt, .ref zOf, .ref zDs, .ref zIx, .ref zSd, .ref zUt, .ref zCh, .ref zLt, .ref zLo, .ref zRu])), (zCh, .inr (0, [.ref q11, .int chS]))]) [0, 1, 2, 10] (by decide) rfl
    have hKc := hK.sub (tys' := [(cq_7, .byte)]) [0] rfl
    have hFc := va_free (wc := [(into, .inr (0, [.ref q_6, .int z_3])), (q_6, .inl (cq_7, z_4, .inl z_5)), (zz, .inr (8, [.int zVer, .int zTic, .int zTyc, .int zLec, .int zStc, .int zUtc, .ref zTi, .ref zTt, .ref zOf, .ref zDs, .ref zIx, .ref zSd, .ref zUt, .ref zCh, .ref zLt, .ref zLo, .ref zRu])), (zCh, .inr (0, [.ref q11, .int chS]))]) hD hS hA [0, 1, 2, 10] rfl
    refine cl_M (v := none) (st1 := []) (va_runS (As := [.ref into, .ref zz, .int x2]) (rest := []) ⟨hx, hb, hml, hown, hts⟩ (c_FW_putHeader l dC dI into zz q_6 zTi zTt zOf zDs zIx zSd zUt zCh zLt zLo zRu q11 cq_7 H.size nf x2 z_3 z_4 z_5 zVer zTic zTyc zLec zStc zUtc chS hc) (va_cwS 3 hts (gdS m_6_24 m_6_25 m_1_22 m_6_26) rfl rfl rfl (by decide +kernel) ⟨Nat.le_trans (Nat.le_of_ble_eq_true rfl) hRf, Nat.le_trans (Nat.le_of_ble_eq_true rfl) hRl⟩) (MU.pre hPc hKc hDc (hST.mu hS hFc)).sta rfl rfl hl.1 rfl (lv_room (Nat.le_of_ble_eq_true rfl)) d_FW_putFile_29 ⟨cb hkc ekc, cb hks eks⟩) rfl hS (fun q _ h => hFc q h) hFc (fun t H1 locs ht hvm hB hz1 hk1 hS => ?_)
    obtain ⟨q_13, cq_14, hP1, hK1, hD1⟩ := hB
    rw [ht] at hP1
    have hK1 := va_K.moved hvm.symm hK1
    obtain ⟨hP, hD⟩ := va_join (wr := [(zTi, .inl (cAzTi, 200, .inr (.inl zTiA))), (zTt, .inl (cAzTt, 200, .inl zTtA)), (zOf, .inl (cAzOf, 40, .inl zOfA)), (zDs, .inl (cAzDs, 40, .inl zDsA)), (zIx, .inl (cAzIx, 40, .inl zIxA)), (zSd, .inl (cAzSd, 40, .inl zSdA)), (zUt, .inl (cAzUt, 40, .inl zUtA)), (q11, .inl (nA11, chN, .inl chA)), (zLt, .inl (cAzLt, 40, .inr (.inl zLtA))), (zLo, .inl (cAzLo, 40, .inl zLoA)), (zRu, .inr (5, [.ref ruT, .ref ruB, .ref ruE, .int ruHas, .int ruWide, .int ruSo, .int ruUo, .int ruSp, .int ruSs, .int ruUp, .int ruUs, .int ruNev])), (ruT, .inr (0, [.ref q16, .int txS])), (q16, .inl (nA16, txN, .inl txA))]) (w1 := [(into, .inr (0, [.ref q_13, .int z_10])), (q_13, .inl (cq_14, z_11, .inl z_12)), (zz, .inr (8, [.int zVer, .int zTic, .int zTyc, .int zLec, .int zStc, .int zUtc, .ref zTi, .ref zTt, .ref zOf, .ref zDs, .ref zIx, .ref zSd, .ref zUt, .ref zCh, .ref zLt, .ref zLo, .ref zRu])), (zCh, .inr (0, [.ref q11, .int chS]))]) hP hD [0, 1, 2, 10] [3, 4, 5, 6, 7, 8, 9, 11, 12, 13, 14, 15, 16] rfl rfl (by decide) (by decide) hk1 hFc hP1 hD1
    have hK := (hK.sub (tys' := [(cAzTi, .long), (cAzTt, .int), (cAzOf, .int), (cAzDs, .int), (cAzIx, .int), (cAzSd, .int), (cAzUt, .int), (nA11, .byte), (cAzLt, .long), (cAzLo, .int), (nA16, .byte)]) [1, 2, 3, 4, 5, 6, 7, 8, 9, 10, 11] rfl).app hK1
    generalize H1 = H at hP hS ⊢
    have hP := hP.sub (ws' := [(into, .inr (0, [.ref q_13, .int z_10])), (q_13, .inl (cq_14, z_11, .inl z_12)), (zz, .inr (8, [.int zVer, .int zTic, .int zTyc, .int zLec, .int zStc, .int zUtc, .ref zTi, .ref zTt, .ref zOf, .ref zDs, .ref zIx, .ref zSd, .ref zUt, .ref zCh, .ref zLt, .ref zLo, .ref zRu])), (zTi, .inl (cAzTi, 200, .inr (.inl zTiA))), (zTt, .inl (cAzTt, 200, .inl zTtA)), (zOf, .inl (cAzOf, 40, .inl zOfA)), (zDs, .inl (cAzDs, 40, .inl zDsA)), (zIx, .inl (cAzIx, 40, .inl zIxA)), (zSd, .inl (cAzSd, 40, .inl zSdA)), (zUt, .inl (cAzUt, 40, .inl zUtA)), (zCh, .inr (0, [.ref q11, .int chS])), (q11, .inl (nA11, chN, .inl chA)), (zLt, .inl (cAzLt, 40, .inr (.inl zLtA))), (zLo, .inl (cAzLo, 40, .inl zLoA)), (zRu, .inr (5, [.ref ruT, .ref ruB, .ref ruE, .int ruHas, .int ruWide, .int ruSo, .int ruUo, .int ruSp, .int ruSs, .int ruUp, .int ruUs, .int ruNev])), (ruT, .inr (0, [.ref q16, .int txS])), (q16, .inl (nA16, txN, .inl txA))]) [13, 14, 15, 0, 1, 2, 3, 4, 5, 6, 16, 7, 8, 9, 10, 11, 12] rfl
    have hD := hD.sub (ws' := [(into, .inr (0, [.ref q_13, .int z_10])), (q_13, .inl (cq_14, z_11, .inl z_12)), (zz, .inr (8, [.int zVer, .int zTic, .int zTyc, .int zLec, .int zStc, .int zUtc, .ref zTi, .ref zTt, .ref zOf, .ref zDs, .ref zIx, .ref zSd, .ref zUt, .ref zCh, .ref zLt, .ref zLo, .ref zRu])), (zTi, .inl (cAzTi, 200, .inr (.inl zTiA))), (zTt, .inl (cAzTt, 200, .inl zTtA)), (zOf, .inl (cAzOf, 40, .inl zOfA)), (zDs, .inl (cAzDs, 40, .inl zDsA)), (zIx, .inl (cAzIx, 40, .inl zIxA)), (zSd, .inl (cAzSd, 40, .inl zSdA)), (zUt, .inl (cAzUt, 40, .inl zUtA)), (zCh, .inr (0, [.ref q11, .int chS])), (q11, .inl (nA11, chN, .inl chA)), (zLt, .inl (cAzLt, 40, .inr (.inl zLtA))), (zLo, .inl (cAzLo, 40, .inl zLoA)), (zRu, .inr (5, [.ref ruT, .ref ruB, .ref ruE, .int ruHas, .int ruWide, .int ruSo, .int ruUo, .int ruSp, .int ruSs, .int ruUp, .int ruUs, .int ruNev])), (ruT, .inr (0, [.ref q16, .int txS])), (q16, .inl (nA16, txN, .inl txA))]) [13, 14, 15, 0, 1, 2, 3, 4, 5, 6, 16, 7, 8, 9, 10, 11, 12] (by decide) rfl
    have hK := hK.sub (tys' := [(cq_14, .byte), (cAzTi, .long), (cAzTt, .int), (cAzOf, .int), (cAzDs, .int), (cAzIx, .int), (cAzSd, .int), (cAzUt, .int), (nA11, .byte), (cAzLt, .long), (cAzLo, .int), (nA16, .byte)]) [11, 0, 1, 2, 3, 4, 5, 6, 7, 8, 9, 10] rfl
    have hkc := ck hkc ekc
    have hks := ck hks eks
    generalize cells + kc_15 = cells at hkc ⊢
    generalize slots + ks_16 = slots at hks ⊢
    refine lv_aload_n hx hb d_FW_putFile_32 rfl (lv_at hl 0 rfl) ?_
    refine lv_aload_n hx hb d_FW_putFile_33 rfl (lv_at hl 1 rfl) ?_
    refine lv_bipush (v := 8) hx hb d_FW_putFile_34 (by decide) ?_
    obtain ⟨⟨⟨z_17, z_18, z_19⟩, kc_24, ks_25⟩, hc, hf⟩ := ob hf
    obtain ⟨kc, ks, hf, ekc, eks⟩ := oa hf
    have hPc := hP.sub (ws' := [(into, .inr (0, [.ref q_13, .int z_10])), (q_13, .inl (cq_14, z_11, .inl z_12)), (zz, .inr (8, [.int zVer, .int zTic, .int zTyc, .int zLec, .int zStc, .int zUtc, .ref zTi, .ref zTt, .ref zOf, .ref zDs, .ref zIx, .ref zSd, .ref zUt, .ref zCh, .ref zLt, .ref zLo, .ref zRu])), (zTi, .inl (cAzTi, 200, .inr (.inl zTiA))), (zTt, .inl (cAzTt, 200, .inl zTtA)), (zOf, .inl (cAzOf, 40, .inl zOfA)), (zDs, .inl (cAzDs, 40, .inl zDsA)), (zIx, .inl (cAzIx, 40, .inl zIxA)), (zSd, .inl (cAzSd, 40, .inl zSdA)), (zUt, .inl (cAzUt, 40, .inl zUtA)), (zCh, .inr (0, [.ref q11, .int chS])), (q11, .inl (nA11, chN, .inl chA)), (zLt, .inl (cAzLt, 40, .inr (.inl zLtA))), (zLo, .inl (cAzLo, 40, .inl zLoA))]) [0, 1, 2, 3, 4, 5, 6, 7, 8, 9, 10, 11, 12, 13] rfl
    have hDc := hD.sub (ws' := [(into, .inr (0, [.ref q_13, .int z_10])), (q_13, .inl (cq_14, z_11, .inl z_12)), (zz, .inr (8, [.int zVer, .int zTic, .int zTyc, .int zLec, .int zStc, .int zUtc, .ref zTi, .ref zTt, .ref zOf, .ref zDs, .ref zIx, .ref zSd, .ref zUt, .ref zCh, .ref zLt, .ref zLo, .ref zRu])), (zTi, .inl (cAzTi, 200, .inr (.inl zTiA))), (zTt, .inl (cAzTt, 200, .inl zTtA)), (zOf, .inl (cAzOf, 40, .inl zOfA)), (zDs, .inl (cAzDs, 40, .inl zDsA)), (zIx, .inl (cAzIx, 40, .inl zIxA)), (zSd, .inl (cAzSd, 40, .inl zSdA)), (zUt, .inl (cAzUt, 40, .inl zUtA)), (zCh, .inr (0, [.ref q11, .int chS])), (q11, .inl (nA11, chN, .inl chA)), (zLt, .inl (cAzLt, 40, .inr (.inl zLtA))), (zLo, .inl (cAzLo, 40, .inl zLoA))]) [0, 1, 2, 3, 4, 5, 6, 7, 8, 9, 10, 11, 12, 13] (by decide) rfl
    have hKc := hK.sub (tys' := [(cq_14, .byte), (cAzTi, .long), (cAzTt, .int), (cAzOf, .int), (cAzDs, .int), (cAzIx, .int), (cAzSd, .int), (cAzUt, .int), (nA11, .byte), (cAzLt, .long), (cAzLo, .int)]) [0, 1, 2, 3, 4, 5, 6, 7, 8, 9, 10] rfl
    have hFc := va_free (wc := [(into, .inr (0, [.ref q_13, .int z_10])), (q_13, .inl (cq_14, z_11, .inl z_12)), (zz, .inr (8, [.int zVer, .int zTic, .int zTyc, .int zLec, .int zStc, .int zUtc, .ref zTi, .ref zTt, .ref zOf, .ref zDs, .ref zIx, .ref zSd, .ref zUt, .ref zCh, .ref zLt, .ref zLo, .ref zRu])), (zTi, .inl (cAzTi, 200, .inr (.inl zTiA))), (zTt, .inl (cAzTt, 200, .inl zTtA)), (zOf, .inl (cAzOf, 40, .inl zOfA)), (zDs, .inl (cAzDs, 40, .inl zDsA)), (zIx, .inl (cAzIx, 40, .inl zIxA)), (zSd, .inl (cAzSd, 40, .inl zSdA)), (zUt, .inl (cAzUt, 40, .inl zUtA)), (zCh, .inr (0, [.ref q11, .int chS])), (q11, .inl (nA11, chN, .inl chA)), (zLt, .inl (cAzLt, 40, .inr (.inl zLtA))), (zLo, .inl (cAzLo, 40, .inl zLoA))]) hD hS hA [0, 1, 2, 3, 4, 5, 6, 7, 8, 9, 10, 11, 12, 13] rfl
    refine cl_M (v := none) (st1 := []) (va_runS (As := [.ref into, .ref zz, .int 8]) (rest := []) ⟨hx, hb, hml, hown, hts⟩ (c_FW_putBlock l dC dI into zz q_13 zTi zTt zOf zDs zIx zSd zUt zCh zLt zLo zRu q11 cq_14 cAzTi cAzTt cAzOf cAzDs cAzIx cAzSd cAzUt nA11 cAzLt cAzLo H.size nf 8 z_10 z_11 z_12 zVer zTic zTyc zLec zStc zUtc zTiA zTtA zOfA zDsA zIxA zSdA zUtA chS chN chA zLtA zLoA hc) (va_cwS 3 hts (gdS m_6_40 m_6_41 m_1_22 m_6_42) rfl rfl rfl (by decide +kernel) ⟨Nat.le_trans (Nat.le_of_ble_eq_true rfl) hRf, Nat.le_trans (Nat.le_of_ble_eq_true rfl) hRl⟩) (MU.pre hPc hKc hDc (hST.mu hS hFc)).sta rfl rfl hl.1 rfl (lv_room (Nat.le_of_ble_eq_true rfl)) d_FW_putFile_36 ⟨cb hkc ekc, cb hks eks⟩) rfl hS (fun q _ h => hFc q h) hFc (fun t H1 locs ht hvm hB hz1 hk1 hS => ?_)
    obtain ⟨q_20, q_21, cq_22, cq_23, hP1, hK1, hD1⟩ := hB
    rw [ht] at hP1
    have hK1 := va_K.moved hvm.symm hK1
    obtain ⟨hP, hD⟩ := va_join (wr := [(zRu, .inr (5, [.ref ruT, .ref ruB, .ref ruE, .int ruHas, .int ruWide, .int ruSo, .int ruUo, .int ruSp, .int ruSs, .int ruUp, .int ruUs, .int ruNev])), (ruT, .inr (0, [.ref q16, .int txS])), (q16, .inl (nA16, txN, .inl txA))]) (w1 := [(into, .inr (0, [.ref q_20, .int z_17])), (q_20, .inl (cq_22, z_18, .inl z_19)), (zz, .inr (8, [.int zVer, .int zTic, .int zTyc, .int zLec, .int zStc, .int zUtc, .ref zTi, .ref zTt, .ref zOf, .ref zDs, .ref zIx, .ref zSd, .ref zUt, .ref zCh, .ref zLt, .ref zLo, .ref zRu])), (zTi, .inl (cAzTi, 200, .inr (.inl zTiA))), (zTt, .inl (cAzTt, 200, .inl zTtA)), (zOf, .inl (cAzOf, 40, .inl zOfA)), (zDs, .inl (cAzDs, 40, .inl zDsA)), (zIx, .inl (cAzIx, 40, .inl zIxA)), (zSd, .inl (cAzSd, 40, .inl zSdA)), (zUt, .inl (cAzUt, 40, .inl zUtA)), (zCh, .inr (0, [.ref q_21, .int chS])), (q_21, .inl (cq_23, chN, .inl chA)), (zLt, .inl (cAzLt, 40, .inr (.inl zLtA))), (zLo, .inl (cAzLo, 40, .inl zLoA))]) hP hD [0, 1, 2, 3, 4, 5, 6, 7, 8, 9, 10, 11, 12, 13] [14, 15, 16] rfl rfl (by decide) (by decide) hk1 hFc hP1 hD1
    have hK := (hK.sub (tys' := [(nA16, .byte)]) [11] rfl).app hK1
    generalize H1 = H at hP hS ⊢
    have hP := hP.sub (ws' := [(into, .inr (0, [.ref q_20, .int z_17])), (q_20, .inl (cq_22, z_18, .inl z_19)), (zz, .inr (8, [.int zVer, .int zTic, .int zTyc, .int zLec, .int zStc, .int zUtc, .ref zTi, .ref zTt, .ref zOf, .ref zDs, .ref zIx, .ref zSd, .ref zUt, .ref zCh, .ref zLt, .ref zLo, .ref zRu])), (zTi, .inl (cAzTi, 200, .inr (.inl zTiA))), (zTt, .inl (cAzTt, 200, .inl zTtA)), (zOf, .inl (cAzOf, 40, .inl zOfA)), (zDs, .inl (cAzDs, 40, .inl zDsA)), (zIx, .inl (cAzIx, 40, .inl zIxA)), (zSd, .inl (cAzSd, 40, .inl zSdA)), (zUt, .inl (cAzUt, 40, .inl zUtA)), (zCh, .inr (0, [.ref q_21, .int chS])), (q_21, .inl (cq_23, chN, .inl chA)), (zLt, .inl (cAzLt, 40, .inr (.inl zLtA))), (zLo, .inl (cAzLo, 40, .inl zLoA)), (zRu, .inr (5, [.ref ruT, .ref ruB, .ref ruE, .int ruHas, .int ruWide, .int ruSo, .int ruUo, .int ruSp, .int ruSs, .int ruUp, .int ruUs, .int ruNev])), (ruT, .inr (0, [.ref q16, .int txS])), (q16, .inl (nA16, txN, .inl txA))]) [3, 4, 5, 6, 7, 8, 9, 10, 11, 12, 13, 14, 15, 16, 0, 1, 2] rfl
    have hD := hD.sub (ws' := [(into, .inr (0, [.ref q_20, .int z_17])), (q_20, .inl (cq_22, z_18, .inl z_19)), (zz, .inr (8, [.int zVer, .int zTic, .int zTyc, .int zLec, .int zStc, .int zUtc, .ref zTi, .ref zTt, .ref zOf, .ref zDs, .ref zIx, .ref zSd, .ref zUt, .ref zCh, .ref zLt, .ref zLo, .ref zRu])), (zTi, .inl (cAzTi, 200, .inr (.inl zTiA))), (zTt, .inl (cAzTt, 200, .inl zTtA)), (zOf, .inl (cAzOf, 40, .inl zOfA)), (zDs, .inl (cAzDs, 40, .inl zDsA)), (zIx, .inl (cAzIx, 40, .inl zIxA)), (zSd, .inl (cAzSd, 40, .inl zSdA)), (zUt, .inl (cAzUt, 40, .inl zUtA)), (zCh, .inr (0, [.ref q_21, .int chS])), (q_21, .inl (cq_23, chN, .inl chA)), (zLt, .inl (cAzLt, 40, .inr (.inl zLtA))), (zLo, .inl (cAzLo, 40, .inl zLoA)), (zRu, .inr (5, [.ref ruT, .ref ruB, .ref ruE, .int ruHas, .int ruWide, .int ruSo, .int ruUo, .int ruSp, .int ruSs, .int ruUp, .int ruUs, .int ruNev])), (ruT, .inr (0, [.ref q16, .int txS])), (q16, .inl (nA16, txN, .inl txA))]) [3, 4, 5, 6, 7, 8, 9, 10, 11, 12, 13, 14, 15, 16, 0, 1, 2] (by decide) rfl
    have hK := hK.sub (tys' := [(cq_22, .byte), (cAzTi, .long), (cAzTt, .int), (cAzOf, .int), (cAzDs, .int), (cAzIx, .int), (cAzSd, .int), (cAzUt, .int), (cq_23, .byte), (cAzLt, .long), (cAzLo, .int), (nA16, .byte)]) [1, 2, 3, 4, 5, 6, 7, 8, 9, 10, 11, 0] rfl
    have hkc := ck hkc ekc
    have hks := ck hks eks
    generalize cells + kc_24 = cells at hkc ⊢
    generalize slots + ks_25 = slots at hks ⊢
    refine lv_aload_n hx hb d_FW_putFile_39 rfl (lv_at hl 0 rfl) ?_
    refine lv_bipush (v := 10) hx hb d_FW_putFile_40 (by decide) ?_
    obtain ⟨⟨⟨z_26, z_27, z_28⟩, kc_31, ks_32⟩, hc, hf⟩ := ob hf
    obtain ⟨kc, ks, hf, ekc, eks⟩ := oa hf
    have hPc := hP.sub (ws' := [(into, .inr (0, [.ref q_20, .int z_17])), (q_20, .inl (cq_22, z_18, .inl z_19))]) [0, 1] rfl
    have hDc := hD.sub (ws' := [(into, .inr (0, [.ref q_20, .int z_17])), (q_20, .inl (cq_22, z_18, .inl z_19))]) [0, 1] (by decide) rfl
    have hKc := hK.sub (tys' := [(cq_22, .byte)]) [0] rfl
    have hFc := va_free (wc := [(into, .inr (0, [.ref q_20, .int z_17])), (q_20, .inl (cq_22, z_18, .inl z_19))]) hD hS hA [0, 1] rfl
    refine cl_M (v := none) (st1 := []) (va_runV (As := [.int 10]) (rest := []) ⟨hx, hb, hml, hown, hts⟩ (c_By_put l dC dI into q_20 cq_22 H.size nf 10 z_17 z_18 z_19 hc) (cwV 1 hts (gdV m_6_31 m_2_38 m_2_39 m_1_2 m_2_40) rfl rfl rfl (by decide +kernel) ⟨Nat.le_trans (Nat.le_of_ble_eq_true rfl) hRf, Nat.le_trans (Nat.le_of_ble_eq_true rfl) hRl⟩) ((MU.pre hPc hKc hDc (hST.mu hS hFc)).vir (va_recv hKc hPc (ci := 0) (q0 := 0) rfl rfl)) rfl rfl hl.1 rfl (lv_room (Nat.le_of_ble_eq_true rfl)) d_FW_putFile_42 ⟨cb hkc ekc, cb hks eks⟩) rfl hS (fun q _ h => hFc q h) hFc (fun t H1 locs ht hvm hB hz1 hk1 hS => ?_)
    obtain ⟨q_29, cq_30, hP1, hK1, hD1⟩ := hB
    rw [ht] at hP1
    have hK1 := va_K.moved hvm.symm hK1
    obtain ⟨hP, hD⟩ := va_join (wr := [(zz, .inr (8, [.int zVer, .int zTic, .int zTyc, .int zLec, .int zStc, .int zUtc, .ref zTi, .ref zTt, .ref zOf, .ref zDs, .ref zIx, .ref zSd, .ref zUt, .ref zCh, .ref zLt, .ref zLo, .ref zRu])), (zTi, .inl (cAzTi, 200, .inr (.inl zTiA))), (zTt, .inl (cAzTt, 200, .inl zTtA)), (zOf, .inl (cAzOf, 40, .inl zOfA)), (zDs, .inl (cAzDs, 40, .inl zDsA)), (zIx, .inl (cAzIx, 40, .inl zIxA)), (zSd, .inl (cAzSd, 40, .inl zSdA)), (zUt, .inl (cAzUt, 40, .inl zUtA)), (zCh, .inr (0, [.ref q_21, .int chS])), (q_21, .inl (cq_23, chN, .inl chA)), (zLt, .inl (cAzLt, 40, .inr (.inl zLtA))), (zLo, .inl (cAzLo, 40, .inl zLoA)), (zRu, .inr (5, [.ref ruT, .ref ruB, .ref ruE, .int ruHas, .int ruWide, .int ruSo, .int ruUo, .int ruSp, .int ruSs, .int ruUp, .int ruUs, .int ruNev])), (ruT, .inr (0, [.ref q16, .int txS])), (q16, .inl (nA16, txN, .inl txA))]) (w1 := [(into, .inr (0, [.ref q_29, .int z_26])), (q_29, .inl (cq_30, z_27, .inl z_28))]) hP hD [0, 1] [2, 3, 4, 5, 6, 7, 8, 9, 10, 11, 12, 13, 14, 15, 16] rfl rfl (by decide) (by decide) hk1 hFc hP1 hD1
    have hK := (hK.sub (tys' := [(cAzTi, .long), (cAzTt, .int), (cAzOf, .int), (cAzDs, .int), (cAzIx, .int), (cAzSd, .int), (cAzUt, .int), (cq_23, .byte), (cAzLt, .long), (cAzLo, .int), (nA16, .byte)]) [1, 2, 3, 4, 5, 6, 7, 8, 9, 10, 11] rfl).app hK1
    generalize H1 = H at hP hS ⊢
    have hP := hP.sub (ws' := [(into, .inr (0, [.ref q_29, .int z_26])), (q_29, .inl (cq_30, z_27, .inl z_28)), (zz, .inr (8, [.int zVer, .int zTic, .int zTyc, .int zLec, .int zStc, .int zUtc, .ref zTi, .ref zTt, .ref zOf, .ref zDs, .ref zIx, .ref zSd, .ref zUt, .ref zCh, .ref zLt, .ref zLo, .ref zRu])), (zTi, .inl (cAzTi, 200, .inr (.inl zTiA))), (zTt, .inl (cAzTt, 200, .inl zTtA)), (zOf, .inl (cAzOf, 40, .inl zOfA)), (zDs, .inl (cAzDs, 40, .inl zDsA)), (zIx, .inl (cAzIx, 40, .inl zIxA)), (zSd, .inl (cAzSd, 40, .inl zSdA)), (zUt, .inl (cAzUt, 40, .inl zUtA)), (zCh, .inr (0, [.ref q_21, .int chS])), (q_21, .inl (cq_23, chN, .inl chA)), (zLt, .inl (cAzLt, 40, .inr (.inl zLtA))), (zLo, .inl (cAzLo, 40, .inl zLoA)), (zRu, .inr (5, [.ref ruT, .ref ruB, .ref ruE, .int ruHas, .int ruWide, .int ruSo, .int ruUo, .int ruSp, .int ruSs, .int ruUp, .int ruUs, .int ruNev])), (ruT, .inr (0, [.ref q16, .int txS])), (q16, .inl (nA16, txN, .inl txA))]) [15, 16, 0, 1, 2, 3, 4, 5, 6, 7, 8, 9, 10, 11, 12, 13, 14] rfl
    have hD := hD.sub (ws' := [(into, .inr (0, [.ref q_29, .int z_26])), (q_29, .inl (cq_30, z_27, .inl z_28)), (zz, .inr (8, [.int zVer, .int zTic, .int zTyc, .int zLec, .int zStc, .int zUtc, .ref zTi, .ref zTt, .ref zOf, .ref zDs, .ref zIx, .ref zSd, .ref zUt, .ref zCh, .ref zLt, .ref zLo, .ref zRu])), (zTi, .inl (cAzTi, 200, .inr (.inl zTiA))), (zTt, .inl (cAzTt, 200, .inl zTtA)), (zOf, .inl (cAzOf, 40, .inl zOfA)), (zDs, .inl (cAzDs, 40, .inl zDsA)), (zIx, .inl (cAzIx, 40, .inl zIxA)), (zSd, .inl (cAzSd, 40, .inl zSdA)), (zUt, .inl (cAzUt, 40, .inl zUtA)), (zCh, .inr (0, [.ref q_21, .int chS])), (q_21, .inl (cq_23, chN, .inl chA)), (zLt, .inl (cAzLt, 40, .inr (.inl zLtA))), (zLo, .inl (cAzLo, 40, .inl zLoA)), (zRu, .inr (5, [.ref ruT, .ref ruB, .ref ruE, .int ruHas, .int ruWide, .int ruSo, .int ruUo, .int ruSp, .int ruSs, .int ruUp, .int ruUs, .int ruNev])), (ruT, .inr (0, [.ref q16, .int txS])), (q16, .inl (nA16, txN, .inl txA))]) [15, 16, 0, 1, 2, 3, 4, 5, 6, 7, 8, 9, 10, 11, 12, 13, 14] (by decide) rfl
    have hK := hK.sub (tys' := [(cq_30, .byte), (cAzTi, .long), (cAzTt, .int), (cAzOf, .int), (cAzDs, .int), (cAzIx, .int), (cAzSd, .int), (cAzUt, .int), (cq_23, .byte), (cAzLt, .long), (cAzLo, .int), (nA16, .byte)]) [11, 0, 1, 2, 3, 4, 5, 6, 7, 8, 9, 10] rfl
    have hkc := ck hkc ekc
    have hks := ck hks eks
    generalize cells + kc_31 = cells at hkc ⊢
    generalize slots + ks_32 = slots at hks ⊢
    refine lv_aload_n hx hb d_FW_putFile_45 rfl (lv_at hl 0 rfl) ?_
    refine lv_aload_n hx hb d_FW_putFile_46 rfl (lv_at hl 1 rfl) ?_
    refine va_get (D := (dC, dI)) (ci := 8) (v := .ref zRu) (C := RZone) (T := TZone) (N := 17) hx hb hts in_Zone hown hK hP 2 rfl rfl 16 (by decide) (hts (.fieldLink "ZoneFiles$FileWriting" 31 "ZoneFiles$Zone" "rule" "LZoneFiles$Rule;") m_1_227) (fun _ h9 => h9) rfl d_FW_putFile_47 ?_
    refine va_get (D := (dC, dI)) (ci := 5) (v := .ref ruT) (C := RRule) (T := TRule) (N := 12) hx hb hts in_Rule hown hK hP 14 rfl rfl 0 (by decide) (hts (.fieldLink "ZoneFiles$FileWriting" 37 "ZoneFiles$Rule" "text" "LZoneFiles$Bytes;") m_1_103) (fun _ h9 => h9) rfl d_FW_putFile_50 ?_
    refine lv_iconst (v := 0) hx hb d_FW_putFile_53 (by decide) ?_
    refine lv_aload_n hx hb d_FW_putFile_54 rfl (lv_at hl 1 rfl) ?_
    refine va_get (D := (dC, dI)) (ci := 8) (v := .ref zRu) (C := RZone) (T := TZone) (N := 17) hx hb hts in_Zone hown hK hP 2 rfl rfl 16 (by decide) (hts (.fieldLink "ZoneFiles$FileWriting" 31 "ZoneFiles$Zone" "rule" "LZoneFiles$Rule;") m_1_227) (fun _ h9 => h9) rfl d_FW_putFile_55 ?_
    refine va_get (D := (dC, dI)) (ci := 5) (v := .ref ruT) (C := RRule) (T := TRule) (N := 12) hx hb hts in_Rule hown hK hP 14 rfl rfl 0 (by decide) (hts (.fieldLink "ZoneFiles$FileWriting" 37 "ZoneFiles$Rule" "text" "LZoneFiles$Bytes;") m_1_103) (fun _ h9 => h9) rfl d_FW_putFile_58 ?_
    refine va_get (D := (dC, dI)) (ci := 0) (v := .int txS) (C := RBytes) (T := TBytes) (N := 2) hx hb hts in_Bytes hown hK hP 15 rfl rfl 1 (by decide) (hts (.fieldLink "ZoneFiles$FileWriting" 43 "ZoneFiles$Bytes" "size" "I") m_1_41) (fun _ h9 => h9) rfl d_FW_putFile_61 ?_
    obtain ⟨⟨⟨z_33, z_34, z_35⟩, kc_40, ks_41⟩, hc, hf⟩ := ob hf
    obtain ⟨kc, ks, hf, ekc, eks⟩ := oa hf
    have hPc := hP.sub (ws' := [(into, .inr (0, [.ref q_29, .int z_26])), (q_29, .inl (cq_30, z_27, .inl z_28)), (ruT, .inr (0, [.ref q16, .int txS])), (q16, .inl (nA16, txN, .inl txA))]) [0, 1, 15, 16] rfl
    have hDc := hD.sub (ws' := [(into, .inr (0, [.ref q_29, .int z_26])), (q_29, .inl (cq_30, z_27, .inl z_28)), (ruT, .inr (0, [.ref q16, .int txS])), (q16, .inl (nA16, txN, .inl txA))]) [0, 1, 15, 16] (by decide) rfl
    have hKc := hK.sub (tys' := [(cq_30, .byte), (nA16, .byte)]) [0, 11] rfl
    have hFc := va_free (wc := [(into, .inr (0, [.ref q_29, .int z_26])), (q_29, .inl (cq_30, z_27, .inl z_28)), (ruT, .inr (0, [.ref q16, .int txS])), (q16, .inl (nA16, txN, .inl txA))]) hD hS hA [0, 1, 15, 16] rfl
    refine cl_M (v := none) (st1 := []) (va_runV (As := [.ref ruT, .int 0, .int txS]) (rest := []) ⟨hx, hb, hml, hown, hts⟩ (c_By_putAll l dC dI into ruT q_29 q16 cq_30 nA16 H.size nf 0 txS z_26 z_27 z_28 txS txN txA hc) (cwV 3 hts (gdV m_6_43 m_3_8 m_3_9 m_1_2 m_3_10) rfl rfl rfl (by decide +kernel) ⟨Nat.le_trans (Nat.le_of_ble_eq_true rfl) hRf, Nat.le_trans (Nat.le_of_ble_eq_true rfl) hRl⟩) ((MU.pre hPc hKc hDc (hST.mu hS hFc)).vir (va_recv hKc hPc (ci := 0) (q0 := 0) rfl rfl)) rfl rfl hl.1 rfl (lv_room (Nat.le_of_ble_eq_true rfl)) d_FW_putFile_64 ⟨cb hkc ekc, cb hks eks⟩) rfl hS (fun q _ h => hFc q h) hFc (fun t H1 locs ht hvm hB hz1 hk1 hS => ?_)
    obtain ⟨q_36, q_37, cq_38, cq_39, hP1, hK1, hD1⟩ := hB
    rw [ht] at hP1
    have hK1 := va_K.moved hvm.symm hK1
    obtain ⟨hP, hD⟩ := va_join (wr := [(zz, .inr (8, [.int zVer, .int zTic, .int zTyc, .int zLec, .int zStc, .int zUtc, .ref zTi, .ref zTt, .ref zOf, .ref zDs, .ref zIx, .ref zSd, .ref zUt, .ref zCh, .ref zLt, .ref zLo, .ref zRu])), (zTi, .inl (cAzTi, 200, .inr (.inl zTiA))), (zTt, .inl (cAzTt, 200, .inl zTtA)), (zOf, .inl (cAzOf, 40, .inl zOfA)), (zDs, .inl (cAzDs, 40, .inl zDsA)), (zIx, .inl (cAzIx, 40, .inl zIxA)), (zSd, .inl (cAzSd, 40, .inl zSdA)), (zUt, .inl (cAzUt, 40, .inl zUtA)), (zCh, .inr (0, [.ref q_21, .int chS])), (q_21, .inl (cq_23, chN, .inl chA)), (zLt, .inl (cAzLt, 40, .inr (.inl zLtA))), (zLo, .inl (cAzLo, 40, .inl zLoA)), (zRu, .inr (5, [.ref ruT, .ref ruB, .ref ruE, .int ruHas, .int ruWide, .int ruSo, .int ruUo, .int ruSp, .int ruSs, .int ruUp, .int ruUs, .int ruNev]))]) (w1 := [(into, .inr (0, [.ref q_36, .int z_33])), (q_36, .inl (cq_38, z_34, .inl z_35)), (ruT, .inr (0, [.ref q_37, .int txS])), (q_37, .inl (cq_39, txN, .inl txA))]) hP hD [0, 1, 15, 16] [2, 3, 4, 5, 6, 7, 8, 9, 10, 11, 12, 13, 14] rfl rfl (by decide) (by decide) hk1 hFc hP1 hD1
    have hK := (hK.sub (tys' := [(cAzTi, .long), (cAzTt, .int), (cAzOf, .int), (cAzDs, .int), (cAzIx, .int), (cAzSd, .int), (cAzUt, .int), (cq_23, .byte), (cAzLt, .long), (cAzLo, .int)]) [1, 2, 3, 4, 5, 6, 7, 8, 9, 10] rfl).app hK1
    generalize H1 = H at hP hS ⊢
    have hP := hP.sub (ws' := [(into, .inr (0, [.ref q_36, .int z_33])), (q_36, .inl (cq_38, z_34, .inl z_35)), (zz, .inr (8, [.int zVer, .int zTic, .int zTyc, .int zLec, .int zStc, .int zUtc, .ref zTi, .ref zTt, .ref zOf, .ref zDs, .ref zIx, .ref zSd, .ref zUt, .ref zCh, .ref zLt, .ref zLo, .ref zRu])), (zTi, .inl (cAzTi, 200, .inr (.inl zTiA))), (zTt, .inl (cAzTt, 200, .inl zTtA)), (zOf, .inl (cAzOf, 40, .inl zOfA)), (zDs, .inl (cAzDs, 40, .inl zDsA)), (zIx, .inl (cAzIx, 40, .inl zIxA)), (zSd, .inl (cAzSd, 40, .inl zSdA)), (zUt, .inl (cAzUt, 40, .inl zUtA)), (zCh, .inr (0, [.ref q_21, .int chS])), (q_21, .inl (cq_23, chN, .inl chA)), (zLt, .inl (cAzLt, 40, .inr (.inl zLtA))), (zLo, .inl (cAzLo, 40, .inl zLoA)), (zRu, .inr (5, [.ref ruT, .ref ruB, .ref ruE, .int ruHas, .int ruWide, .int ruSo, .int ruUo, .int ruSp, .int ruSs, .int ruUp, .int ruUs, .int ruNev])), (ruT, .inr (0, [.ref q_37, .int txS])), (q_37, .inl (cq_39, txN, .inl txA))]) [13, 14, 0, 1, 2, 3, 4, 5, 6, 7, 8, 9, 10, 11, 12, 15, 16] rfl
    have hD := hD.sub (ws' := [(into, .inr (0, [.ref q_36, .int z_33])), (q_36, .inl (cq_38, z_34, .inl z_35)), (zz, .inr (8, [.int zVer, .int zTic, .int zTyc, .int zLec, .int zStc, .int zUtc, .ref zTi, .ref zTt, .ref zOf, .ref zDs, .ref zIx, .ref zSd, .ref zUt, .ref zCh, .ref zLt, .ref zLo, .ref zRu])), (zTi, .inl (cAzTi, 200, .inr (.inl zTiA))), (zTt, .inl (cAzTt, 200, .inl zTtA)), (zOf, .inl (cAzOf, 40, .inl zOfA)), (zDs, .inl (cAzDs, 40, .inl zDsA)), (zIx, .inl (cAzIx, 40, .inl zIxA)), (zSd, .inl (cAzSd, 40, .inl zSdA)), (zUt, .inl (cAzUt, 40, .inl zUtA)), (zCh, .inr (0, [.ref q_21, .int chS])), (q_21, .inl (cq_23, chN, .inl chA)), (zLt, .inl (cAzLt, 40, .inr (.inl zLtA))), (zLo, .inl (cAzLo, 40, .inl zLoA)), (zRu, .inr (5, [.ref ruT, .ref ruB, .ref ruE, .int ruHas, .int ruWide, .int ruSo, .int ruUo, .int ruSp, .int ruSs, .int ruUp, .int ruUs, .int ruNev])), (ruT, .inr (0, [.ref q_37, .int txS])), (q_37, .inl (cq_39, txN, .inl txA))]) [13, 14, 0, 1, 2, 3, 4, 5, 6, 7, 8, 9, 10, 11, 12, 15, 16] (by decide) rfl
    have hK := hK.sub (tys' := [(cq_38, .byte), (cAzTi, .long), (cAzTt, .int), (cAzOf, .int), (cAzDs, .int), (cAzIx, .int), (cAzSd, .int), (cAzUt, .int), (cq_23, .byte), (cAzLt, .long), (cAzLo, .int), (cq_39, .byte)]) [10, 0, 1, 2, 3, 4, 5, 6, 7, 8, 9, 11] rfl
    have hkc := ck hkc ekc
    have hks := ck hks eks
    generalize cells + kc_40 = cells at hkc ⊢
    generalize slots + ks_41 = slots at hks ⊢
    refine lv_aload_n hx hb d_FW_putFile_67 rfl (lv_at hl 0 rfl) ?_
    refine lv_bipush (v := 10) hx hb d_FW_putFile_68 (by decide) ?_
    obtain ⟨⟨⟨z_42, z_43, z_44⟩, kc_47, ks_48⟩, hc, hf⟩ := ob hf
    obtain ⟨kc, ks, hf, ekc, eks⟩ := oa hf
    have hPc := hP.sub (ws' := [(into, .inr (0, [.ref q_36, .int z_33])), (q_36, .inl (cq_38, z_34, .inl z_35))]) [0, 1] rfl
    have hDc := hD.sub (ws' := [(into, .inr (0, [.ref q_36, .int z_33])), (q_36, .inl (cq_38, z_34, .inl z_35))]) [0, 1] (by decide) rfl
    have hKc := hK.sub (tys' := [(cq_38, .byte)]) [0] rfl
    have hFc := va_free (wc := [(into, .inr (0, [.ref q_36, .int z_33])), (q_36, .inl (cq_38, z_34, .inl z_35))]) hD hS hA [0, 1] rfl
    refine cl_M (v := none) (st1 := []) (va_runV (As := [.int 10]) (rest := []) ⟨hx, hb, hml, hown, hts⟩ (c_By_put l dC dI into q_36 cq_38 H.size nf 10 z_33 z_34 z_35 hc) (cwV 1 hts (gdV m_6_31 m_2_38 m_2_39 m_1_2 m_2_40) rfl rfl rfl (by decide +kernel) ⟨Nat.le_trans (Nat.le_of_ble_eq_true rfl) hRf, Nat.le_trans (Nat.le_of_ble_eq_true rfl) hRl⟩) ((MU.pre hPc hKc hDc (hST.mu hS hFc)).vir (va_recv hKc hPc (ci := 0) (q0 := 0) rfl rfl)) rfl rfl hl.1 rfl (lv_room (Nat.le_of_ble_eq_true rfl)) d_FW_putFile_70 ⟨cb hkc ekc, cb hks eks⟩) rfl hS (fun q _ h => hFc q h) hFc (fun t H1 locs ht hvm hB hz1 hk1 hS => ?_)
    obtain ⟨q_45, cq_46, hP1, hK1, hD1⟩ := hB
    rw [ht] at hP1
    have hK1 := va_K.moved hvm.symm hK1
    obtain ⟨hP, hD⟩ := va_join (wr := [(zz, .inr (8, [.int zVer, .int zTic, .int zTyc, .int zLec, .int zStc, .int zUtc, .ref zTi, .ref zTt, .ref zOf, .ref zDs, .ref zIx, .ref zSd, .ref zUt, .ref zCh, .ref zLt, .ref zLo, .ref zRu])), (zTi, .inl (cAzTi, 200, .inr (.inl zTiA))), (zTt, .inl (cAzTt, 200, .inl zTtA)), (zOf, .inl (cAzOf, 40, .inl zOfA)), (zDs, .inl (cAzDs, 40, .inl zDsA)), (zIx, .inl (cAzIx, 40, .inl zIxA)), (zSd, .inl (cAzSd, 40, .inl zSdA)), (zUt, .inl (cAzUt, 40, .inl zUtA)), (zCh, .inr (0, [.ref q_21, .int chS])), (q_21, .inl (cq_23, chN, .inl chA)), (zLt, .inl (cAzLt, 40, .inr (.inl zLtA))), (zLo, .inl (cAzLo, 40, .inl zLoA)), (zRu, .inr (5, [.ref ruT, .ref ruB, .ref ruE, .int ruHas, .int ruWide, .int ruSo, .int ruUo, .int ruSp, .int ruSs, .int ruUp, .int ruUs, .int ruNev])), (ruT, .inr (0, [.ref q_37, .int txS])), (q_37, .inl (cq_39, txN, .inl txA))]) (w1 := [(into, .inr (0, [.ref q_45, .int z_42])), (q_45, .inl (cq_46, z_43, .inl z_44))]) hP hD [0, 1] [2, 3, 4, 5, 6, 7, 8, 9, 10, 11, 12, 13, 14, 15, 16] rfl rfl (by decide) (by decide) hk1 hFc hP1 hD1
    have hK := (hK.sub (tys' := [(cAzTi, .long), (cAzTt, .int), (cAzOf, .int), (cAzDs, .int), (cAzIx, .int), (cAzSd, .int), (cAzUt, .int), (cq_23, .byte), (cAzLt, .long), (cAzLo, .int), (cq_39, .byte)]) [1, 2, 3, 4, 5, 6, 7, 8, 9, 10, 11] rfl).app hK1
    generalize H1 = H at hP hS ⊢
    have hP := hP.sub (ws' := [(into, .inr (0, [.ref q_45, .int z_42])), (q_45, .inl (cq_46, z_43, .inl z_44)), (zz, .inr (8, [.int zVer, .int zTic, .int zTyc, .int zLec, .int zStc, .int zUtc, .ref zTi, .ref zTt, .ref zOf, .ref zDs, .ref zIx, .ref zSd, .ref zUt, .ref zCh, .ref zLt, .ref zLo, .ref zRu])), (zTi, .inl (cAzTi, 200, .inr (.inl zTiA))), (zTt, .inl (cAzTt, 200, .inl zTtA)), (zOf, .inl (cAzOf, 40, .inl zOfA)), (zDs, .inl (cAzDs, 40, .inl zDsA)), (zIx, .inl (cAzIx, 40, .inl zIxA)), (zSd, .inl (cAzSd, 40, .inl zSdA)), (zUt, .inl (cAzUt, 40, .inl zUtA)), (zCh, .inr (0, [.ref q_21, .int chS])), (q_21, .inl (cq_23, chN, .inl chA)), (zLt, .inl (cAzLt, 40, .inr (.inl zLtA))), (zLo, .inl (cAzLo, 40, .inl zLoA)), (zRu, .inr (5, [.ref ruT, .ref ruB, .ref ruE, .int ruHas, .int ruWide, .int ruSo, .int ruUo, .int ruSp, .int ruSs, .int ruUp, .int ruUs, .int ruNev])), (ruT, .inr (0, [.ref q_37, .int txS])), (q_37, .inl (cq_39, txN, .inl txA))]) [15, 16, 0, 1, 2, 3, 4, 5, 6, 7, 8, 9, 10, 11, 12, 13, 14] rfl
    have hD := hD.sub (ws' := [(into, .inr (0, [.ref q_45, .int z_42])), (q_45, .inl (cq_46, z_43, .inl z_44)), (zz, .inr (8, [.int zVer, .int zTic, .int zTyc, .int zLec, .int zStc, .int zUtc, .ref zTi, .ref zTt, .ref zOf, .ref zDs, .ref zIx, .ref zSd, .ref zUt, .ref zCh, .ref zLt, .ref zLo, .ref zRu])), (zTi, .inl (cAzTi, 200, .inr (.inl zTiA))), (zTt, .inl (cAzTt, 200, .inl zTtA)), (zOf, .inl (cAzOf, 40, .inl zOfA)), (zDs, .inl (cAzDs, 40, .inl zDsA)), (zIx, .inl (cAzIx, 40, .inl zIxA)), (zSd, .inl (cAzSd, 40, .inl zSdA)), (zUt, .inl (cAzUt, 40, .inl zUtA)), (zCh, .inr (0, [.ref q_21, .int chS])), (q_21, .inl (cq_23, chN, .inl chA)), (zLt, .inl (cAzLt, 40, .inr (.inl zLtA))), (zLo, .inl (cAzLo, 40, .inl zLoA)), (zRu, .inr (5, [.ref ruT, .ref ruB, .ref ruE, .int ruHas, .int ruWide, .int ruSo, .int ruUo, .int ruSp, .int ruSs, .int ruUp, .int ruUs, .int ruNev])), (ruT, .inr (0, [.ref q_37, .int txS])), (q_37, .inl (cq_39, txN, .inl txA))]) [15, 16, 0, 1, 2, 3, 4, 5, 6, 7, 8, 9, 10, 11, 12, 13, 14] (by decide) rfl
    have hK := hK.sub (tys' := [(cq_46, .byte), (cAzTi, .long), (cAzTt, .int), (cAzOf, .int), (cAzDs, .int), (cAzIx, .int), (cAzSd, .int), (cAzUt, .int), (cq_23, .byte), (cAzLt, .long), (cAzLo, .int), (cq_39, .byte)]) [11, 0, 1, 2, 3, 4, 5, 6, 7, 8, 9, 10] rfl
    have hkc := ck hkc ekc
    have hks := ck hks eks
    generalize cells + kc_47 = cells at hkc ⊢
    generalize slots + ks_48 = slots at hks ⊢
    cases rs hf
    have hkc : cells = R.cells := hkc
    have hks : slots = R.slots := hks
    subst hkc; subst hks
    exact hE _ _ _ _ d_FW_putFile_73 hP hD hS hK
  · have hf := it_t c_2 hf
    refine lv_aload_n hx hb d_FW_putFile_8 rfl (lv_at hl 0 rfl) ?_
    refine lv_aload_n hx hb d_FW_putFile_9 rfl (lv_at hl 1 rfl) ?_
    refine lv_iload_n hx hb d_FW_putFile_10 rfl (lv_at hl 2 rfl) ?_
    obtain ⟨⟨⟨z_49, z_50, z_51⟩, kc_54, ks_55⟩, hc, hf⟩ := ob hf
    obtain ⟨kc, ks, hf, ekc, eks⟩ := oa hf
    have hPc := hP.sub (ws' := [(into, .inr (0, [.ref q1, .int z_1])), (q1, .inl (nA1, w1_n, .inl w1_a)), (zz, .inr (8, [.int zVer, .int zTic, .int zTyc, .int zLec, .int zStc, .int zUtc, .ref zTi, .ref zTt, .ref zOf, .ref zDs, .ref zIx, .ref zSd, .ref zUt, .ref zCh, .ref zLt, .ref zLo, .ref zRu])), (zCh, .inr (0, [.ref q11, .int chS]))]) [0, 1, 2, 10] rfl
    have hDc := hD.sub (ws' := [(into, .inr (0, [.ref q1, .int z_1])), (q1, .inl (nA1, w1_n, .inl w1_a)), (zz, .inr (8, [.int zVer, .int zTic, .int zTyc, .int zLec, .int zStc, .int zUtc, .ref zTi, .ref zTt, .ref zOf, .ref zDs, .ref zIx, .ref zSd, .ref zUt, .ref zCh, .ref zLt, .ref zLo, .ref zRu])), (zCh, .inr (0, [.ref q11, .int chS]))]) [0, 1, 2, 10] (by decide) rfl
    have hKc := hK.sub (tys' := [(nA1, .byte)]) [0] rfl
    have hFc := va_free (wc := [(into, .inr (0, [.ref q1, .int z_1])), (q1, .inl (nA1, w1_n, .inl w1_a)), (zz, .inr (8, [.int zVer, .int zTic, .int zTyc, .int zLec, .int zStc, .int zUtc, .ref zTi, .ref zTt, .ref zOf, .ref zDs, .ref zIx, .ref zSd, .ref zUt, .ref zCh, .ref zLt, .ref zLo, .ref zRu])), (zCh, .inr (0, [.ref q11, .int chS]))]) hD hS hA [0, 1, 2, 10] rfl
    refine cl_M (v := none) (st1 := []) (va_runS (As := [.ref into, .ref zz, .int x2]) (rest := []) ⟨hx, hb, hml, hown, hts⟩ (c_FW_putHeader l dC dI into zz q1 zTi zTt zOf zDs zIx zSd zUt zCh zLt zLo zRu q11 nA1 H.size nf x2 z_1 w1_n w1_a zVer zTic zTyc zLec zStc zUtc chS hc) (va_cwS 3 hts (gdS m_6_24 m_6_25 m_1_22 m_6_26) rfl rfl rfl (by decide +kernel) ⟨Nat.le_trans (Nat.le_of_ble_eq_true rfl) hRf, Nat.le_trans (Nat.le_of_ble_eq_true rfl) hRl⟩) (MU.pre hPc hKc hDc (hST.mu hS hFc)).sta rfl rfl hl.1 rfl (lv_room (Nat.le_of_ble_eq_true rfl)) d_FW_putFile_11 ⟨cb hkc ekc, cb hks eks⟩) rfl hS (fun q _ h => hFc q h) hFc (fun t H1 locs ht hvm hB hz1 hk1 hS => ?_)
    obtain ⟨q_52, cq_53, hP1, hK1, hD1⟩ := hB
    rw [ht] at hP1
    have hK1 := va_K.moved hvm.symm hK1
    obtain ⟨hP, hD⟩ := va_join (wr := [(zTi, .inl (cAzTi, 200, .inr (.inl zTiA))), (zTt, .inl (cAzTt, 200, .inl zTtA)), (zOf, .inl (cAzOf, 40, .inl zOfA)), (zDs, .inl (cAzDs, 40, .inl zDsA)), (zIx, .inl (cAzIx, 40, .inl zIxA)), (zSd, .inl (cAzSd, 40, .inl zSdA)), (zUt, .inl (cAzUt, 40, .inl zUtA)), (q11, .inl (nA11, chN, .inl chA)), (zLt, .inl (cAzLt, 40, .inr (.inl zLtA))), (zLo, .inl (cAzLo, 40, .inl zLoA)), (zRu, .inr (5, [.ref ruT, .ref ruB, .ref ruE, .int ruHas, .int ruWide, .int ruSo, .int ruUo, .int ruSp, .int ruSs, .int ruUp, .int ruUs, .int ruNev])), (ruT, .inr (0, [.ref q16, .int txS])), (q16, .inl (nA16, txN, .inl txA))]) (w1 := [(into, .inr (0, [.ref q_52, .int z_49])), (q_52, .inl (cq_53, z_50, .inl z_51)), (zz, .inr (8, [.int zVer, .int zTic, .int zTyc, .int zLec, .int zStc, .int zUtc, .ref zTi, .ref zTt, .ref zOf, .ref zDs, .ref zIx, .ref zSd, .ref zUt, .ref zCh, .ref zLt, .ref zLo, .ref zRu])), (zCh, .inr (0, [.ref q11, .int chS]))]) hP hD [0, 1, 2, 10] [3, 4, 5, 6, 7, 8, 9, 11, 12, 13, 14, 15, 16] rfl rfl (by decide) (by decide) hk1 hFc hP1 hD1
    have hK := (hK.sub (tys' := [(cAzTi, .long), (cAzTt, .int), (cAzOf, .int), (cAzDs, .int), (cAzIx, .int), (cAzSd, .int), (cAzUt, .int), (nA11, .byte), (cAzLt, .long), (cAzLo, .int), (nA16, .byte)]) [1, 2, 3, 4, 5, 6, 7, 8, 9, 10, 11] rfl).app hK1
    generalize H1 = H at hP hS ⊢
    have hP := hP.sub (ws' := [(into, .inr (0, [.ref q_52, .int z_49])), (q_52, .inl (cq_53, z_50, .inl z_51)), (zz, .inr (8, [.int zVer, .int zTic, .int zTyc, .int zLec, .int zStc, .int zUtc, .ref zTi, .ref zTt, .ref zOf, .ref zDs, .ref zIx, .ref zSd, .ref zUt, .ref zCh, .ref zLt, .ref zLo, .ref zRu])), (zTi, .inl (cAzTi, 200, .inr (.inl zTiA))), (zTt, .inl (cAzTt, 200, .inl zTtA)), (zOf, .inl (cAzOf, 40, .inl zOfA)), (zDs, .inl (cAzDs, 40, .inl zDsA)), (zIx, .inl (cAzIx, 40, .inl zIxA)), (zSd, .inl (cAzSd, 40, .inl zSdA)), (zUt, .inl (cAzUt, 40, .inl zUtA)), (zCh, .inr (0, [.ref q11, .int chS])), (q11, .inl (nA11, chN, .inl chA)), (zLt, .inl (cAzLt, 40, .inr (.inl zLtA))), (zLo, .inl (cAzLo, 40, .inl zLoA)), (zRu, .inr (5, [.ref ruT, .ref ruB, .ref ruE, .int ruHas, .int ruWide, .int ruSo, .int ruUo, .int ruSp, .int ruSs, .int ruUp, .int ruUs, .int ruNev])), (ruT, .inr (0, [.ref q16, .int txS])), (q16, .inl (nA16, txN, .inl txA))]) [13, 14, 15, 0, 1, 2, 3, 4, 5, 6, 16, 7, 8, 9, 10, 11, 12] rfl
    have hD := hD.sub (ws' := [(into, .inr (0, [.ref q_52, .int z_49])), (q_52, .inl (cq_53, z_50, .inl z_51)), (zz, .inr (8, [.int zVer, .int zTic, .int zTyc, .int zLec, .int zStc, .int zUtc, .ref zTi, .ref zTt, .ref zOf, .ref zDs, .ref zIx, .ref zSd, .ref zUt, .ref zCh, .ref zLt, .ref zLo, .ref zRu])), (zTi, .inl (cAzTi, 200, .inr (.inl zTiA))), (zTt, .inl (cAzTt, 200, .inl zTtA)), (zOf, .inl (cAzOf, 40, .inl zOfA)), (zDs, .inl (cAzDs, 40, .inl zDsA)), (zIx, .inl (cAzIx, 40, .inl zIxA)), (zSd, .inl (cAzSd, 40, .inl zSdA)), (zUt, .inl (cAzUt, 40, .inl zUtA)), (zCh, .inr (0, [.ref q11, .int chS])), (q11, .inl (nA11, chN, .inl chA)), (zLt, .inl (cAzLt, 40, .inr (.inl zLtA))), (zLo, .inl (cAzLo, 40, .inl zLoA)), (zRu, .inr (5, [.ref ruT, .ref ruB, .ref ruE, .int ruHas, .int ruWide, .int ruSo, .int ruUo, .int ruSp, .int ruSs, .int ruUp, .int ruUs, .int ruNev])), (ruT, .inr (0, [.ref q16, .int txS])), (q16, .inl (nA16, txN, .inl txA))]) [13, 14, 15, 0, 1, 2, 3, 4, 5, 6, 16, 7, 8, 9, 10, 11, 12] (by decide) rfl
    have hK := hK.sub (tys' := [(cq_53, .byte), (cAzTi, .long), (cAzTt, .int), (cAzOf, .int), (cAzDs, .int), (cAzIx, .int), (cAzSd, .int), (cAzUt, .int), (nA11, .byte), (cAzLt, .long), (cAzLo, .int), (nA16, .byte)]) [11, 0, 1, 2, 3, 4, 5, 6, 7, 8, 9, 10] rfl
    have hkc := ck hkc ekc
    have hks := ck hks eks
    generalize cells + kc_54 = cells at hkc ⊢
    generalize slots + ks_55 = slots at hks ⊢
    refine lv_aload_n hx hb d_FW_putFile_14 rfl (lv_at hl 0 rfl) ?_
    refine lv_aload_n hx hb d_FW_putFile_15 rfl (lv_at hl 1 rfl) ?_
    refine lv_iconst (v := 4) hx hb d_FW_putFile_16 (by decide) ?_
    obtain ⟨⟨⟨z_56, z_57, z_58⟩, kc_63, ks_64⟩, hc, hf⟩ := ob hf
    obtain ⟨kc, ks, hf, ekc, eks⟩ := oa hf
    have hPc := hP.sub (ws' := [(into, .inr (0, [.ref q_52, .int z_49])), (q_52, .inl (cq_53, z_50, .inl z_51)), (zz, .inr (8, [.int zVer, .int zTic, .int zTyc, .int zLec, .int zStc, .int zUtc, .ref zTi, .ref zTt, .ref zOf, .ref zDs, .ref zIx, .ref zSd, .ref zUt, .ref zCh, .ref zLt, .ref zLo, .ref zRu])), (zTi, .inl (cAzTi, 200, .inr (.inl zTiA))), (zTt, .inl (cAzTt, 200, .inl zTtA)), (zOf, .inl (cAzOf, 40, .inl zOfA)), (zDs, .inl (cAzDs, 40, .inl zDsA)), (zIx, .inl (cAzIx, 40, .inl zIxA)), (zSd, .inl (cAzSd, 40, .inl zSdA)), (zUt, .inl (cAzUt, 40, .inl zUtA)), (zCh, .inr (0, [.ref q11, .int chS])), (q11, .inl (nA11, chN, .inl chA)), (zLt, .inl (cAzLt, 40, .inr (.inl zLtA))), (zLo, .inl (cAzLo, 40, .inl zLoA))]) [0, 1, 2, 3, 4, 5, 6, 7, 8, 9, 10, 11, 12, 13] rfl
    have hDc := hD.sub (ws' := [(into, .inr (0, [.ref q_52, .int z_49])), (q_52, .inl (cq_53, z_50, .inl z_51)), (zz, .inr (8, [.int zVer, .int zTic, .int zTyc, .int zLec, .int zStc, .int zUtc, .ref zTi, .ref zTt, .ref zOf, .ref zDs, .ref zIx, .ref zSd, .ref zUt, .ref zCh, .ref zLt, .ref zLo, .ref zRu])), (zTi, .inl (cAzTi, 200, .inr (.inl zTiA))), (zTt, .inl (cAzTt, 200, .inl zTtA)), (zOf, .inl (cAzOf, 40, .inl zOfA)), (zDs, .inl (cAzDs, 40, .inl zDsA)), (zIx, .inl (cAzIx, 40, .inl zIxA)), (zSd, .inl (cAzSd, 40, .inl zSdA)), (zUt, .inl (cAzUt, 40, .inl zUtA)), (zCh, .inr (0, [.ref q11, .int chS])), (q11, .inl (nA11, chN, .inl chA)), (zLt, .inl (cAzLt, 40, .inr (.inl zLtA))), (zLo, .inl (cAzLo, 40, .inl zLoA))]) [0, 1, 2, 3, 4, 5, 6, 7, 8, 9, 10, 11, 12, 13] (by decide) rfl
    have hKc := hK.sub (tys' := [(cq_53, .byte), (cAzTi, .long), (cAzTt, .int), (cAzOf, .int), (cAzDs, .int), (cAzIx, .int), (cAzSd, .int), (cAzUt, .int), (nA11, .byte), (cAzLt, .long), (cAzLo, .int)]) [0, 1, 2, 3, 4, 5, 6, 7, 8, 9, 10] rfl
    have hFc := va_free (wc := [(into, .inr (0, [.ref q_52, .int z_49])), (q_52, .inl (cq_53, z_50, .inl z_51)), (zz, .inr (8, [.int zVer, .int zTic, .int zTyc, .int zLec, .int zStc, .int zUtc, .ref zTi, .ref zTt, .ref zOf, .ref zDs, .ref zIx, .ref zSd, .ref zUt, .ref zCh, .ref zLt, .ref zLo, .ref zRu])), (zTi, .inl (cAzTi, 200, .inr (.inl zTiA))), (zTt, .inl (cAzTt, 200, .inl zTtA)), (zOf, .inl (cAzOf, 40, .inl zOfA)), (zDs, .inl (cAzDs, 40, .inl zDsA)), (zIx, .inl (cAzIx, 40, .inl zIxA)), (zSd, .inl (cAzSd, 40, .inl zSdA)), (zUt, .inl (cAzUt, 40, .inl zUtA)), (zCh, .inr (0, [.ref q11, .int chS])), (q11, .inl (nA11, chN, .inl chA)), (zLt, .inl (cAzLt, 40, .inr (.inl zLtA))), (zLo, .inl (cAzLo, 40, .inl zLoA))]) hD hS hA [0, 1, 2, 3, 4, 5, 6, 7, 8, 9, 10, 11, 12, 13] rfl
    refine cl_M (v := none) (st1 := []) (va_runS (As := [.ref into, .ref zz, .int 4]) (rest := []) ⟨hx, hb, hml, hown, hts⟩ (c_FW_putBlock l dC dI into zz q_52 zTi zTt zOf zDs zIx zSd zUt zCh zLt zLo zRu q11 cq_53 cAzTi cAzTt cAzOf cAzDs cAzIx cAzSd cAzUt nA11 cAzLt cAzLo H.size nf 4 z_49 z_50 z_51 zVer zTic zTyc zLec zStc zUtc zTiA zTtA zOfA zDsA zIxA zSdA zUtA chS chN chA zLtA zLoA hc) (va_cwS 3 hts (gdS m_6_40 m_6_41 m_1_22 m_6_42) rfl rfl rfl (by decide +kernel) ⟨Nat.le_trans (Nat.le_of_ble_eq_true rfl) hRf, Nat.le_trans (Nat.le_of_ble_eq_true rfl) hRl⟩) (MU.pre hPc hKc hDc (hST.mu hS hFc)).sta rfl rfl hl.1 rfl (lv_room (Nat.le_of_ble_eq_true rfl)) d_FW_putFile_17 ⟨cb hkc ekc, cb hks eks⟩) rfl hS (fun q _ h => hFc q h) hFc (fun t H1 locs ht hvm hB hz1 hk1 hS => ?_)
    obtain ⟨q_59, q_60, cq_61, cq_62, hP1, hK1, hD1⟩ := hB
    rw [ht] at hP1
    have hK1 := va_K.moved hvm.symm hK1
    obtain ⟨hP, hD⟩ := va_join (wr := [(zRu, .inr (5, [.ref ruT, .ref ruB, .ref ruE, .int ruHas, .int ruWide, .int ruSo, .int ruUo, .int ruSp, .int ruSs, .int ruUp, .int ruUs, .int ruNev])), (ruT, .inr (0, [.ref q16, .int txS])), (q16, .inl (nA16, txN, .inl txA))]) (w1 := [(into, .inr (0, [.ref q_59, .int z_56])), (q_59, .inl (cq_61, z_57, .inl z_58)), (zz, .inr (8, [.int zVer, .int zTic, .int zTyc, .int zLec, .int zStc, .int zUtc, .ref zTi, .ref zTt, .ref zOf, .ref zDs, .ref zIx, .ref zSd, .ref zUt, .ref zCh, .ref zLt, .ref zLo, .ref zRu])), (zTi, .inl (cAzTi, 200, .inr (.inl zTiA))), (zTt, .inl (cAzTt, 200, .inl zTtA)), (zOf, .inl (cAzOf, 40, .inl zOfA)), (zDs, .inl (cAzDs, 40, .inl zDsA)), (zIx, .inl (cAzIx, 40, .inl zIxA)), (zSd, .inl (cAzSd, 40, .inl zSdA)), (zUt, .inl (cAzUt, 40, .inl zUtA)), (zCh, .inr (0, [.ref q_60, .int chS])), (q_60, .inl (cq_62, chN, .inl chA)), (zLt, .inl (cAzLt, 40, .inr (.inl zLtA))), (zLo, .inl (cAzLo, 40, .inl zLoA))]) hP hD [0, 1, 2, 3, 4, 5, 6, 7, 8, 9, 10, 11, 12, 13] [14, 15, 16] rfl rfl (by decide) (by decide) hk1 hFc hP1 hD1
    have hK := (hK.sub (tys' := [(nA16, .byte)]) [11] rfl).app hK1
    generalize H1 = H at hP hS ⊢
    have hP := hP.sub (ws' := [(into, .inr (0, [.ref q_59, .int z_56])), (q_59, .inl (cq_61, z_57, .inl z_58)), (zz, .inr (8, [.int zVer, .int zTic, .int zTyc, .int zLec, .int zStc, .int zUtc, .ref zTi, .ref zTt, .ref zOf, .ref zDs, .ref zIx, .ref zSd, .ref zUt, .ref zCh, .ref zLt, .ref zLo, .ref zRu])), (zTi, .inl (cAzTi, 200, .inr (.inl zTiA))), (zTt, .inl (cAzTt, 200, .inl zTtA)), (zOf, .inl (cAzOf, 40, .inl zOfA)), (zDs, .inl (cAzDs, 40, .inl zDsA)), (zIx, .inl (cAzIx, 40, .inl zIxA)), (zSd, .inl (cAzSd, 40, .inl zSdA)), (zUt, .inl (cAzUt, 40, .inl zUtA)), (zCh, .inr (0, [.ref q_60, .int chS])), (q_60, .inl (cq_62, chN, .inl chA)), (zLt, .inl (cAzLt, 40, .inr (.inl zLtA))), (zLo, .inl (cAzLo, 40, .inl zLoA)), (zRu, .inr (5, [.ref ruT, .ref ruB, .ref ruE, .int ruHas, .int ruWide, .int ruSo, .int ruUo, .int ruSp, .int ruSs, .int ruUp, .int ruUs, .int ruNev])), (ruT, .inr (0, [.ref q16, .int txS])), (q16, .inl (nA16, txN, .inl txA))]) [3, 4, 5, 6, 7, 8, 9, 10, 11, 12, 13, 14, 15, 16, 0, 1, 2] rfl
    have hD := hD.sub (ws' := [(into, .inr (0, [.ref q_59, .int z_56])), (q_59, .inl (cq_61, z_57, .inl z_58)), (zz, .inr (8, [.int zVer, .int zTic, .int zTyc, .int zLec, .int zStc, .int zUtc, .ref zTi, .ref zTt, .ref zOf, .ref zDs, .ref zIx, .ref zSd, .ref zUt, .ref zCh, .ref zLt, .ref zLo, .ref zRu])), (zTi, .inl (cAzTi, 200, .inr (.inl zTiA))), (zTt, .inl (cAzTt, 200, .inl zTtA)), (zOf, .inl (cAzOf, 40, .inl zOfA)), (zDs, .inl (cAzDs, 40, .inl zDsA)), (zIx, .inl (cAzIx, 40, .inl zIxA)), (zSd, .inl (cAzSd, 40, .inl zSdA)), (zUt, .inl (cAzUt, 40, .inl zUtA)), (zCh, .inr (0, [.ref q_60, .int chS])), (q_60, .inl (cq_62, chN, .inl chA)), (zLt, .inl (cAzLt, 40, .inr (.inl zLtA))), (zLo, .inl (cAzLo, 40, .inl zLoA)), (zRu, .inr (5, [.ref ruT, .ref ruB, .ref ruE, .int ruHas, .int ruWide, .int ruSo, .int ruUo, .int ruSp, .int ruSs, .int ruUp, .int ruUs, .int ruNev])), (ruT, .inr (0, [.ref q16, .int txS])), (q16, .inl (nA16, txN, .inl txA))]) [3, 4, 5, 6, 7, 8, 9, 10, 11, 12, 13, 14, 15, 16, 0, 1, 2] (by decide) rfl
    have hK := hK.sub (tys' := [(cq_61, .byte), (cAzTi, .long), (cAzTt, .int), (cAzOf, .int), (cAzDs, .int), (cAzIx, .int), (cAzSd, .int), (cAzUt, .int), (cq_62, .byte), (cAzLt, .long), (cAzLo, .int), (nA16, .byte)]) [1, 2, 3, 4, 5, 6, 7, 8, 9, 10, 11, 0] rfl
    have hkc := ck hkc ekc
    have hks := ck hks eks
    generalize cells + kc_63 = cells at hkc ⊢
    generalize slots + ks_64 = slots at hks ⊢
    cases rs hf
    have hkc : cells = R.cells := hkc
    have hks : slots = R.slots := hks
    subst hkc; subst hks
    exact hE _ _ _ _ d_FW_putFile_20 hP hD hS hK
end
set_option maxHeartbeats 400000 in
set_option maxRecDepth 100000 in
theorem c_FW_putFile (l : Launch) (dC : Nat → ClassId) (dI : Nat → Nat → Nat) (into : Nat) (zz : Nat) (inR : Nat) (zTi : Nat) (zTt : Nat) (zOf : Nat) (zDs : Nat) (zIx : Nat) (zSd : Nat) (zUt : Nat) (zCh : Nat) (zLt : Nat) (zLo : Nat) (zRu : Nat) (chR : Nat) (ruT : Nat) (ruB : Nat) (ruE : Nat) (txR : Nat) (cAinR : ClassId) (cAzTi : ClassId) (cAzTt : ClassId) (cAzOf : ClassId) (cAzDs : ClassId) (cAzIx : ClassId) (cAzSd : ClassId) (cAzUt : ClassId) (cAchR : ClassId) (cAzLt : ClassId) (cAzLo : ClassId) (cAtxR : ClassId) (sz : Nat) (nf : Nat) (p1 : Int32) (inS : Int32) (inN : Nat) (inA : Nat → Int32) (zVer : Int32) (zTic : Int32) (zTyc : Int32) (zLec : Int32) (zStc : Int32) (zUtc : Int32) (zTiA : Nat → Int64) (zTtA : Nat → Int32) (zOfA : Nat → Int32) (zDsA : Nat → Int32) (zIxA : Nat → Int32) (zSdA : Nat → Int32) (zUtA : Nat → Int32) (chS : Int32) (chN : Nat) (chA : Nat → Int32) (zLtA : Nat → Int64) (zLoA : Nat → Int32) (ruHas : Int32) (ruWide : Int32) (ruSo : Int32) (ruUo : Int32) (ruSp : Int32) (ruSs : Int32) (ruUp : Int32) (ruUs : Int32) (ruNev : Int32) (txS : Int32) (txN : Nat) (txA : Nat → Int32) {v0_1 : Int32} {v1_n : Nat} {v1_a : Nat → Int32} {kc ks : Nat} (hf : f_FW_putFile nf p1 inS inN inA zTic zTyc zLec zStc zUtc zTiA zTtA zOfA zDsA zIxA zSdA zUtA chS chN chA zLtA zLoA txS txN txA = some ((v0_1, v1_n, v1_a), kc, ks)) : Met l y_FW_putFile (wd y_FW_putFile b_FW_putFile 3 none) ({ frames := 6, cells := kc, slots := ks, locals := 128 }) (MU dC dI [(into, .inr (0, [.ref inR, .int inS])), (inR, .inl (cAinR, inN, .inl inA)), (zz, .inr (8, [.int zVer, .int zTic, .int zTyc, .int zLec, .int zStc, .int zUtc, .ref zTi, .ref zTt, .ref zOf, .ref zDs, .ref zIx, .ref zSd, .ref zUt, .ref zCh, .ref zLt, .ref zLo, .ref zRu])), (zTi, .inl (cAzTi, 200, .inr (.inl zTiA))), (zTt, .inl (cAzTt, 200, .inl zTtA)), (zOf, .inl (cAzOf, 40, .inl zOfA)), (zDs, .inl (cAzDs, 40, .inl zDsA)), (zIx, .inl (cAzIx, 40, .inl zIxA)), (zSd, .inl (cAzSd, 40, .inl zSdA)), (zUt, .inl (cAzUt, 40, .inl zUtA)), (zCh, .inr (0, [.ref chR, .int chS])), (chR, .inl (cAchR, chN, .inl chA)), (zLt, .inl (cAzLt, 40, .inr (.inl zLtA))), (zLo, .inl (cAzLo, 40, .inl zLoA)), (zRu, .inr (5, [.ref ruT, .ref ruB, .ref ruE, .int ruHas, .int ruWide, .int ruSo, .int ruUo, .int ruSp, .int ruSs, .int ruUp, .int ruUs, .int ruNev])), (ruT, .inr (0, [.ref txR, .int txS])), (txR, .inl (cAtxR, txN, .inl txA))] [(cAinR, .byte), (cAzTi, .long), (cAzTt, .int), (cAzOf, .int), (cAzDs, .int), (cAzIx, .int), (cAzSd, .int), (cAzUt, .int), (cAchR, .byte), (cAzLt, .long), (cAzLo, .int), (cAtxR, .byte)] sz [.ref into, .ref zz, .int p1]) (MV none (fun t => ∃ (q1 : Nat) (q11 : Nat) (q16 : Nat) (nA1 : ClassId) (nA11 : ClassId) (nA16 : ClassId), va_P (dC, dI) classes [(into, .inr (0, [.ref q1, .int v0_1])), (q1, .inl (nA1, v1_n, .inl v1_a)), (zz, .inr (8, [.int zVer, .int zTic, .int zTyc, .int zLec, .int zStc, .int zUtc, .ref zTi, .ref zTt, .ref zOf, .ref zDs, .ref zIx, .ref zSd, .ref zUt, .ref zCh, .ref zLt, .ref zLo, .ref zRu])), (zTi, .inl (cAzTi, 200, .inr (.inl zTiA))), (zTt, .inl (cAzTt, 200, .inl zTtA)), (zOf, .inl (cAzOf, 40, .inl zOfA)), (zDs, .inl (cAzDs, 40, .inl zDsA)), (zIx, .inl (cAzIx, 40, .inl zIxA)), (zSd, .inl (cAzSd, 40, .inl zSdA)), (zUt, .inl (cAzUt, 40, .inl zUtA)), (zCh, .inr (0, [.ref q11, .int chS])), (q11, .inl (nA11, chN, .inl chA)), (zLt, .inl (cAzLt, 40, .inr (.inl zLtA))), (zLo, .inl (cAzLo, 40, .inl zLoA)), (zRu, .inr (5, [.ref ruT, .ref ruB, .ref ruE, .int ruHas, .int ruWide, .int ruSo, .int ruUo, .int ruSp, .int ruSs, .int ruUp, .int ruUs, .int ruNev])), (ruT, .inr (0, [.ref q16, .int txS])), (q16, .inl (nA16, txN, .inl txA))] t.heap ∧ va_K (dC, dI) classes [(nA1, .byte), (cAzTi, .long), (cAzTt, .int), (cAzOf, .int), (cAzDs, .int), (cAzIx, .int), (cAzSd, .int), (cAzUt, .int), (nA11, .byte), (cAzLt, .long), (cAzLo, .int), (nA16, .byte)] t ∧ va_D (va_A [(into, .inr (0, [.ref inR, .int inS])), (inR, .inl (cAinR, inN, .inl inA)), (zz, .inr (8, [.int zVer, .int zTic, .int zTyc, .int zLec, .int zStc, .int zUtc, .ref zTi, .ref zTt, .ref zOf, .ref zDs, .ref zIx, .ref zSd, .ref zUt, .ref zCh, .ref zLt, .ref zLo, .ref zRu])), (zTi, .inl (cAzTi, 200, .inr (.inl zTiA))), (zTt, .inl (cAzTt, 200, .inl zTtA)), (zOf, .inl (cAzOf, 40, .inl zOfA)), (zDs, .inl (cAzDs, 40, .inl zDsA)), (zIx, .inl (cAzIx, 40, .inl zIxA)), (zSd, .inl (cAzSd, 40, .inl zSdA)), (zUt, .inl (cAzUt, 40, .inl zUtA)), (zCh, .inr (0, [.ref chR, .int chS])), (chR, .inl (cAchR, chN, .inl chA)), (zLt, .inl (cAzLt, 40, .inr (.inl zLtA))), (zLo, .inl (cAzLo, 40, .inl zLoA)), (zRu, .inr (5, [.ref ruT, .ref ruB, .ref ruE, .int ruHas, .int ruWide, .int ruSo, .int ruUo, .int ruSp, .int ruSs, .int ruUp, .int ruUs, .int ruNev])), (ruT, .inr (0, [.ref txR, .int txS])), (txR, .inl (cAtxR, txN, .inl txA))] sz) [(into, .inr (0, [.ref q1, .int v0_1])), (q1, .inl (nA1, v1_n, .inl v1_a)), (zz, .inr (8, [.int zVer, .int zTic, .int zTyc, .int zLec, .int zStc, .int zUtc, .ref zTi, .ref zTt, .ref zOf, .ref zDs, .ref zIx, .ref zSd, .ref zUt, .ref zCh, .ref zLt, .ref zLo, .ref zRu])), (zTi, .inl (cAzTi, 200, .inr (.inl zTiA))), (zTt, .inl (cAzTt, 200, .inl zTtA)), (zOf, .inl (cAzOf, 40, .inl zOfA)), (zDs, .inl (cAzDs, 40, .inl zDsA)), (zIx, .inl (cAzIx, 40, .inl zIxA)), (zSd, .inl (cAzSd, 40, .inl zSdA)), (zUt, .inl (cAzUt, 40, .inl zUtA)), (zCh, .inr (0, [.ref q11, .int chS])), (q11, .inl (nA11, chN, .inl chA)), (zLt, .inl (cAzLt, 40, .inr (.inl zLtA))), (zLo, .inl (cAzLo, 40, .inl zLoA)), (zRu, .inr (5, [.ref ruT, .ref ruB, .ref ruE, .int ruHas, .int ruWide, .int ruSo, .int ruUo, .int ruSp, .int ruSs, .int ruUp, .int ruUs, .int ruNev])), (ruT, .inr (0, [.ref q16, .int txS])), (q16, .inl (nA16, txN, .inl txA))]) (va_A [(into, .inr (0, [.ref inR, .int inS])), (inR, .inl (cAinR, inN, .inl inA)), (zz, .inr (8, [.int zVer, .int zTic, .int zTyc, .int zLec, .int zStc, .int zUtc, .ref zTi, .ref zTt, .ref zOf, .ref zDs, .ref zIx, .ref zSd, .ref zUt, .ref zCh, .ref zLt, .ref zLo, .ref zRu])), (zTi, .inl (cAzTi, 200, .inr (.inl zTiA))), (zTt, .inl (cAzTt, 200, .inl zTtA)), (zOf, .inl (cAzOf, 40, .inl zOfA)), (zDs, .inl (cAzDs, 40, .inl zDsA)), (zIx, .inl (cAzIx, 40, .inl zIxA)), (zSd, .inl (cAzSd, 40, .inl zSdA)), (zUt, .inl (cAzUt, 40, .inl zUtA)), (zCh, .inr (0, [.ref chR, .int chS])), (chR, .inl (cAchR, chN, .inl chA)), (zLt, .inl (cAzLt, 40, .inr (.inl zLtA))), (zLo, .inl (cAzLo, 40, .inl zLoA)), (zRu, .inr (5, [.ref ruT, .ref ruB, .ref ruE, .int ruHas, .int ruWide, .int ruSo, .int ruUo, .int ruSp, .int ruSs, .int ruUp, .int ruUs, .int ruNev])), (ruT, .inr (0, [.ref txR, .int txS])), (txR, .inl (cAtxR, txN, .inl txA))] sz)) kc ks (va_A [(into, .inr (0, [.ref inR, .int inS])), (inR, .inl (cAinR, inN, .inl inA)), (zz, .inr (8, [.int zVer, .int zTic, .int zTyc, .int zLec, .int zStc, .int zUtc, .ref zTi, .ref zTt, .ref zOf, .ref zDs, .ref zIx, .ref zSd, .ref zUt, .ref zCh, .ref zLt, .ref zLo, .ref zRu])), (zTi, .inl (cAzTi, 200, .inr (.inl zTiA))), (zTt, .inl (cAzTt, 200, .inl zTtA)), (zOf, .inl (cAzOf, 40, .inl zOfA)), (zDs, .inl (cAzDs, 40, .inl zDsA)), (zIx, .inl (cAzIx, 40, .inl zIxA)), (zSd, .inl (cAzSd, 40, .inl zSdA)), (zUt, .inl (cAzUt, 40, .inl zUtA)), (zCh, .inr (0, [.ref chR, .int chS])), (chR, .inl (cAchR, chN, .inl chA)), (zLt, .inl (cAzLt, 40, .inr (.inl zLtA))), (zLo, .inl (cAzLo, 40, .inl zLoA)), (zRu, .inr (5, [.ref ruT, .ref ruB, .ref ruE, .int ruHas, .int ruWide, .int ruSo, .int ruUo, .int ruSp, .int ruSs, .int ruUp, .int ruUs, .int ruNev])), (ruT, .inr (0, [.ref txR, .int txS])), (txR, .inl (cAtxR, txN, .inl txA))] sz) :=
  met_M (plainFor_of_name (by decide)) (Nat.le_of_ble_eq_true rfl) (fun p e R s m args below meth c ls hRc hRs hsz hin C0 hST hK hP hD hl => by
    obtain ⟨hx, hb, hr, hml, hown, hts, hlocks, hRf, hRl⟩ := id C0
    subst hRc; subst hRs
    subst hsz
    have hA : ∀ q : Nat, s.heap.size ≤ q → va_A [(into, .inr (0, [.ref inR, .int inS])), (inR, .inl (cAinR, inN, .inl inA)), (zz, .inr (8, [.int zVer, .int zTic, .int zTyc, .int zLec, .int zStc, .int zUtc, .ref zTi, .ref zTt, .ref zOf, .ref zDs, .ref zIx, .ref zSd, .ref zUt, .ref zCh, .ref zLt, .ref zLo, .ref zRu])), (zTi, .inl (cAzTi, 200, .inr (.inl zTiA))), (zTt, .inl (cAzTt, 200, .inl zTtA)), (zOf, .inl (cAzOf, 40, .inl zOfA)), (zDs, .inl (cAzDs, 40, .inl zDsA)), (zIx, .inl (cAzIx, 40, .inl zIxA)), (zSd, .inl (cAzSd, 40, .inl zSdA)), (zUt, .inl (cAzUt, 40, .inl zUtA)), (zCh, .inr (0, [.ref chR, .int chS])), (chR, .inl (cAchR, chN, .inl chA)), (zLt, .inl (cAzLt, 40, .inr (.inl zLtA))), (zLo, .inl (cAzLo, 40, .inl zLoA)), (zRu, .inr (5, [.ref ruT, .ref ruB, .ref ruE, .int ruHas, .int ruWide, .int ruSo, .int ruUo, .int ruSp, .int ruSs, .int ruUp, .int ruUs, .int ruNev])), (ruT, .inr (0, [.ref txR, .int txS])), (txR, .inl (cAtxR, txN, .inl txA))] s.heap.size q := fun q h => Or.inr h
    have hS : va_S (va_A [(into, .inr (0, [.ref inR, .int inS])), (inR, .inl (cAinR, inN, .inl inA)), (zz, .inr (8, [.int zVer, .int zTic, .int zTyc, .int zLec, .int zStc, .int zUtc, .ref zTi, .ref zTt, .ref zOf, .ref zDs, .ref zIx, .ref zSd, .ref zUt, .ref zCh, .ref zLt, .ref zLo, .ref zRu])), (zTi, .inl (cAzTi, 200, .inr (.inl zTiA))), (zTt, .inl (cAzTt, 200, .inl zTtA)), (zOf, .inl (cAzOf, 40, .inl zOfA)), (zDs, .inl (cAzDs, 40, .inl zDsA)), (zIx, .inl (cAzIx, 40, .inl zIxA)), (zSd, .inl (cAzSd, 40, .inl zSdA)), (zUt, .inl (cAzUt, 40, .inl zUtA)), (zCh, .inr (0, [.ref chR, .int chS])), (chR, .inl (cAchR, chN, .inl chA)), (zLt, .inl (cAzLt, 40, .inr (.inl zLtA))), (zLo, .inl (cAzLo, 40, .inl zLoA)), (zRu, .inr (5, [.ref ruT, .ref ruB, .ref ruE, .int ruHas, .int ruWide, .int ruSo, .int ruUo, .int ruSp, .int ruSs, .int ruUp, .int ruUs, .int ruNev])), (ruT, .inr (0, [.ref txR, .int txS])), (txR, .inl (cAtxR, txN, .inl txA))] s.heap.size) s.heap s.heap [] := va_S.rf
    have hkc := Nat.zero_add R.cells
    have hks := Nat.zero_add R.slots
    unfold f_FW_putFile at hf
    exact k_FW_putFile_0 C0 hST hA (fun pc ls {q1} {q11} {q16} {nA1} {nA11} {nA16} H locs hd hP hD hS hK => W.vret hx hb hr (fun t ht hW => ⟨⟨rfl, ⟨q1, q11, q16, nA1, nA11, nA16, by rw [ht]; exact hP, va_K.moved hW.alike hK, hD⟩⟩, hS.F ht⟩) hS.2.2 hd) hf hK hP hD hS hkc hks (lv_sub hl [0, 1, 2] rfl))
