theorem m_1_39 : Cond.fieldLink "ZoneFiles" 63 "ZoneFiles$Bytes" "size" "I" ∈ T0 := tb_1 39 rfl rfl
theorem m_2_98 : Cond.fieldLink "ZoneFiles" 318 "ZoneFiles$LeapTable" "count" "I" ∈ T0 := tb_2 98 rfl rfl
theorem m_2_101 : Cond.fieldLink "ZoneFiles" 327 "ZoneFiles$LeapTable" "times" "[J" ∈ T0 := tb_2 101 rfl rfl
theorem m_2_104 : Cond.fieldLink "ZoneFiles" 328 "ZoneFiles$LeapTable" "aheads" "[J" ∈ T0 := tb_2 104 rfl rfl
theorem m_2_107 : Cond.fieldLink "ZoneFiles" 323 "ZoneFiles$LeapTable" "expires" "J" ∈ T0 := tb_2 107 rfl rfl
theorem m_2_117 : Cond.fieldLink "ZoneFiles" 12 "ZoneFiles" "tape" "LZoneFiles$Bytes;" ∈ T0 := tb_2 117 rfl rfl
theorem m_2_118 : Cond.fieldLink "ZoneFiles" 18 "ZoneFiles" "written" "LZoneFiles$Bytes;" ∈ T0 := tb_2 118 rfl rfl
theorem m_2_121 : Cond.fieldLink "ZoneFiles" 38 "ZoneFiles" "leapTable" "LZoneFiles$LeapTable;" ∈ T0 := tb_2 121 rfl rfl
theorem m_2_123 : Cond.fieldLink "ZoneFiles" 45 "ZoneFiles" "foundInstants" "[J" ∈ T0 := tb_2 123 rfl rfl
theorem m_2_124 : Cond.fieldLink "ZoneFiles" 49 "ZoneFiles" "foundCount" "I" ∈ T0 := tb_2 124 rfl rfl
theorem m_2_125 : Cond.fieldLink "ZoneFiles" 53 "ZoneFiles" "faultPlace" "I" ∈ T0 := tb_2 125 rfl rfl
theorem m_2_234 : Cond.methodLink "ZoneFiles" 89 ⟨"ZoneFiles$Bytes", "clear", "()V"⟩ ∈ T0 := tb_2 234 rfl rfl
theorem m_3_7 : Cond.methodLink "ZoneFiles" 314 ⟨"ZoneFiles$Bytes", "putAll", "(LZoneFiles$Bytes;II)V"⟩ ∈ T0 := tb_3 7 rfl rfl
theorem m_3_17 : Cond.methodLink "ZoneFiles" 331 ⟨"ZoneFiles$LeapTable", "atomicOf", "(J)J"⟩ ∈ T0 := tb_3 17 rfl rfl
theorem m_3_18 : Cond.instanceMethod ⟨"ZoneFiles$LeapTable", "atomicOf", "(J)J"⟩ ∈ T0 := tb_3 18 rfl rfl
theorem m_3_19 : Cond.selects "ZoneFiles$LeapTable" ⟨"ZoneFiles$LeapTable", "atomicOf", "(J)J"⟩ ⟨"ZoneFiles$LeapTable", "atomicOf", "(J)J"⟩ ∈ T0 := tb_3 19 rfl rfl
theorem m_3_20 : Cond.code ⟨"ZoneFiles$LeapTable", "atomicOf", "(J)J"⟩ prog_8_method_2_code 5 (some .long) ∈ T0 := tb_3 20 rfl rfl
theorem m_3_26 : Cond.methodLink "ZoneFiles" 334 ⟨"ZoneFiles$LeapTable", "instantOf", "(J)J"⟩ ∈ T0 := tb_3 26 rfl rfl
theorem m_3_27 : Cond.instanceMethod ⟨"ZoneFiles$LeapTable", "instantOf", "(J)J"⟩ ∈ T0 := tb_3 27 rfl rfl
theorem m_3_28 : Cond.selects "ZoneFiles$LeapTable" ⟨"ZoneFiles$LeapTable", "instantOf", "(J)J"⟩ ⟨"ZoneFiles$LeapTable", "instantOf", "(J)J"⟩ ∈ T0 := tb_3 28 rfl rfl
theorem m_3_29 : Cond.code ⟨"ZoneFiles$LeapTable", "instantOf", "(J)J"⟩ prog_8_method_3_code 6 (some .long) ∈ T0 := tb_3 29 rfl rfl
theorem m_3_42 : Cond.methodLink "ZoneFiles" 337 ⟨"ZoneFiles$LeapTable", "hasLeapSecond", "(J)Z"⟩ ∈ T0 := tb_3 42 rfl rfl
theorem m_3_43 : Cond.instanceMethod ⟨"ZoneFiles$LeapTable", "hasLeapSecond", "(J)Z"⟩ ∈ T0 := tb_3 43 rfl rfl
theorem m_3_44 : Cond.selects "ZoneFiles$LeapTable" ⟨"ZoneFiles$LeapTable", "hasLeapSecond", "(J)Z"⟩ ⟨"ZoneFiles$LeapTable", "hasLeapSecond", "(J)Z"⟩ ∈ T0 := tb_3 44 rfl rfl
theorem m_3_45 : Cond.code ⟨"ZoneFiles$LeapTable", "hasLeapSecond", "(J)Z"⟩ prog_8_method_4_code 4 (some .boolean) ∈ T0 := tb_3 45 rfl rfl
theorem m_3_122 : Cond.methodLink "ZoneFiles" 68 ⟨"ZoneFiles$Bytes", "put", "(I)V"⟩ ∈ T0 := tb_3 122 rfl rfl
theorem m_4_234 : Cond.methodLink "ZoneFiles" 166 ⟨"ZoneFiles", "checkIndex", "(II)V"⟩ ∈ T0 := tb_4 234 rfl rfl
theorem m_4_235 : Cond.static ⟨"ZoneFiles", "checkIndex", "(II)V"⟩ ∈ T0 := tb_4 235 rfl rfl
theorem m_4_236 : Cond.code ⟨"ZoneFiles", "checkIndex", "(II)V"⟩ prog_1_method_31_code 2 none ∈ T0 := tb_4 236 rfl rfl
theorem m_5_21 : Cond.methodLink "ZoneFiles" 197 ⟨"ZoneFiles$Bytes", "get", "(I)I"⟩ ∈ T0 := tb_5 21 rfl rfl
theorem m_5_36 : Cond.methodLink "ZoneFiles" 206 ⟨"ZoneFiles", "checkInstant", "(J)V"⟩ ∈ T0 := tb_5 36 rfl rfl
theorem m_5_37 : Cond.static ⟨"ZoneFiles", "checkInstant", "(J)V"⟩ ∈ T0 := tb_5 37 rfl rfl
theorem m_5_38 : Cond.code ⟨"ZoneFiles", "checkInstant", "(J)V"⟩ prog_1_method_33_code 2 none ∈ T0 := tb_5 38 rfl rfl
theorem m_5_39 : Cond.methodLink "ZoneFiles" 273 ⟨"ZoneFiles", "isInstant", "(J)Z"⟩ ∈ T0 := tb_5 39 rfl rfl
theorem m_5_77 : Cond.constantLong "ZoneFiles" 229 86400 ∈ T0 := tb_5 77 rfl rfl
theorem m_5_78 : Cond.methodLink "ZoneFiles" 231 ⟨"java/lang/Math", "floorDiv", "(JJ)J"⟩ ∈ T0 := tb_5 78 rfl rfl
theorem m_5_79 : Cond.methodLink "ZoneFiles" 237 ⟨"ZoneFiles$Calendar", "weekday", "(J)I"⟩ ∈ T0 := tb_5 79 rfl rfl
theorem m_5_80 : Cond.static ⟨"ZoneFiles$Calendar", "weekday", "(J)I"⟩ ∈ T0 := tb_5 80 rfl rfl
theorem m_5_81 : Cond.code ⟨"ZoneFiles$Calendar", "weekday", "(J)I"⟩ prog_3_method_8_code 2 (some .int) ∈ T0 := tb_5 81 rfl rfl
theorem m_5_84 : Cond.methodLink "ZoneFiles" 242 ⟨"ZoneFiles", "dateOf", "(JI)J"⟩ ∈ T0 := tb_5 84 rfl rfl
theorem m_5_85 : Cond.static ⟨"ZoneFiles", "dateOf", "(JI)J"⟩ ∈ T0 := tb_5 85 rfl rfl
theorem m_5_86 : Cond.code ⟨"ZoneFiles", "dateOf", "(JI)J"⟩ prog_1_method_37_code 8 (some .long) ∈ T0 := tb_5 86 rfl rfl
theorem m_5_102 : Cond.constantLong "ZoneFiles" 246 (-30000000000) ∈ T0 := tb_5 102 rfl rfl
theorem m_5_103 : Cond.constantLong "ZoneFiles" 248 30000000000 ∈ T0 := tb_5 103 rfl rfl
theorem m_5_106 : Cond.methodLink "ZoneFiles" 258 ⟨"ZoneFiles$Calendar", "monthSize", "(IZ)I"⟩ ∈ T0 := tb_5 106 rfl rfl
theorem m_5_107 : Cond.static ⟨"ZoneFiles$Calendar", "monthSize", "(IZ)I"⟩ ∈ T0 := tb_5 107 rfl rfl
theorem m_5_108 : Cond.code ⟨"ZoneFiles$Calendar", "monthSize", "(IZ)I"⟩ prog_3_method_6_code 2 (some .int) ∈ T0 := tb_5 108 rfl rfl
abbrev b_ZF_checkZone : ByteArray := prog_1_method_30_code
def y_ZF_checkZone : MethodName := ⟨"ZoneFiles", "checkZone", "(I)V"⟩
theorem d_ZF_checkZone_0 : decode b_ZF_checkZone 0 = .ok (.iload_n 0, 1) := by decide +kernel
theorem d_ZF_checkZone_1 : decode b_ZF_checkZone 1 = .ok (.ifCond .lt 8, 3) := by decide +kernel
theorem d_ZF_checkZone_4 : decode b_ZF_checkZone 4 = .ok (.iload_n 0, 1) := by decide +kernel
theorem d_ZF_checkZone_5 : decode b_ZF_checkZone 5 = .ok (.iconst 4, 1) := by decide +kernel
theorem d_ZF_checkZone_6 : decode b_ZF_checkZone 6 = .ok (.if_icmp .lt 14, 3) := by decide +kernel
theorem d_ZF_checkZone_9 : decode b_ZF_checkZone 9 = .ok (.new 161, 3) := by decide +kernel
theorem d_ZF_checkZone_12 : decode b_ZF_checkZone 12 = .ok (.dup, 1) := by decide +kernel
theorem d_ZF_checkZone_13 : decode b_ZF_checkZone 13 = .ok (.ldc_w 340, 3) := by decide +kernel
theorem d_ZF_checkZone_16 : decode b_ZF_checkZone 16 = .ok (.invokespecial 165, 3) := by decide +kernel
theorem d_ZF_checkZone_19 : decode b_ZF_checkZone 19 = .ok (.athrow, 1) := by decide +kernel
theorem d_ZF_checkZone_20 : decode b_ZF_checkZone 20 = .ok (.return_, 1) := by decide +kernel
abbrev b_ZF_checkIndex : ByteArray := prog_1_method_31_code
def y_ZF_checkIndex : MethodName := ⟨"ZoneFiles", "checkIndex", "(II)V"⟩
theorem d_ZF_checkIndex_0 : decode b_ZF_checkIndex 0 = .ok (.iload_n 0, 1) := by decide +kernel
theorem d_ZF_checkIndex_1 : decode b_ZF_checkIndex 1 = .ok (.ifCond .lt 8, 3) := by decide +kernel
theorem d_ZF_checkIndex_4 : decode b_ZF_checkIndex 4 = .ok (.iload_n 0, 1) := by decide +kernel
theorem d_ZF_checkIndex_5 : decode b_ZF_checkIndex 5 = .ok (.iload_n 1, 1) := by decide +kernel
theorem d_ZF_checkIndex_6 : decode b_ZF_checkIndex 6 = .ok (.if_icmp .lt 14, 3) := by decide +kernel
theorem d_ZF_checkIndex_9 : decode b_ZF_checkIndex 9 = .ok (.new 161, 3) := by decide +kernel
theorem d_ZF_checkIndex_12 : decode b_ZF_checkIndex 12 = .ok (.dup, 1) := by decide +kernel
theorem d_ZF_checkIndex_13 : decode b_ZF_checkIndex 13 = .ok (.ldc_w 342, 3) := by decide +kernel
theorem d_ZF_checkIndex_16 : decode b_ZF_checkIndex 16 = .ok (.invokespecial 165, 3) := by decide +kernel
theorem d_ZF_checkIndex_19 : decode b_ZF_checkIndex 19 = .ok (.athrow, 1) := by decide +kernel
theorem d_ZF_checkIndex_20 : decode b_ZF_checkIndex 20 = .ok (.return_, 1) := by decide +kernel
abbrev b_ZF_checkInstant : ByteArray := prog_1_method_33_code
def y_ZF_checkInstant : MethodName := ⟨"ZoneFiles", "checkInstant", "(J)V"⟩
theorem d_ZF_checkInstant_0 : decode b_ZF_checkInstant 0 = .ok (.lload_n 0, 1) := by decide +kernel
theorem d_ZF_checkInstant_1 : decode b_ZF_checkInstant 1 = .ok (.invokestatic 273, 3) := by decide +kernel
theorem d_ZF_checkInstant_4 : decode b_ZF_checkInstant 4 = .ok (.ifCond .ne 14, 3) := by decide +kernel
theorem d_ZF_checkInstant_7 : decode b_ZF_checkInstant 7 = .ok (.new 56, 3) := by decide +kernel
theorem d_ZF_checkInstant_10 : decode b_ZF_checkInstant 10 = .ok (.dup, 1) := by decide +kernel
theorem d_ZF_checkInstant_11 : decode b_ZF_checkInstant 11 = .ok (.ldc_w 348, 3) := by decide +kernel
theorem d_ZF_checkInstant_14 : decode b_ZF_checkInstant 14 = .ok (.invokespecial 60, 3) := by decide +kernel
theorem d_ZF_checkInstant_17 : decode b_ZF_checkInstant 17 = .ok (.athrow, 1) := by decide +kernel
theorem d_ZF_checkInstant_18 : decode b_ZF_checkInstant 18 = .ok (.return_, 1) := by decide +kernel
abbrev b_ZF_refuse : ByteArray := prog_1_method_39_code
def y_ZF_refuse : MethodName := ⟨"ZoneFiles", "refuse", "(II)I"⟩
theorem d_ZF_refuse_0 : decode b_ZF_refuse 0 = .ok (.aload_n 0, 1) := by decide +kernel
theorem d_ZF_refuse_1 : decode b_ZF_refuse 1 = .ok (.iload_n 2, 1) := by decide +kernel
theorem d_ZF_refuse_2 : decode b_ZF_refuse 2 = .ok (.putfield 53, 3) := by decide +kernel
theorem d_ZF_refuse_5 : decode b_ZF_refuse 5 = .ok (.iload_n 1, 1) := by decide +kernel
theorem d_ZF_refuse_6 : decode b_ZF_refuse 6 = .ok (.ireturn, 1) := by decide +kernel
abbrev b_ZF_keepFound : ByteArray := prog_1_method_40_code
def y_ZF_keepFound : MethodName := ⟨"ZoneFiles", "keepFound", "(J)V"⟩
theorem d_ZF_keepFound_0 : decode b_ZF_keepFound 0 = .ok (.aload_n 0, 1) := by decide +kernel
theorem d_ZF_keepFound_1 : decode b_ZF_keepFound 1 = .ok (.getfield 49, 3) := by decide +kernel
theorem d_ZF_keepFound_4 : decode b_ZF_keepFound 4 = .ok (.istore_n 3, 1) := by decide +kernel
theorem d_ZF_keepFound_5 : decode b_ZF_keepFound 5 = .ok (.aload_n 0, 1) := by decide +kernel
theorem d_ZF_keepFound_6 : decode b_ZF_keepFound 6 = .ok (.getfield 49, 3) := by decide +kernel
theorem d_ZF_keepFound_9 : decode b_ZF_keepFound 9 = .ok (.iconst 1, 1) := by decide +kernel
theorem d_ZF_keepFound_10 : decode b_ZF_keepFound 10 = .ok (.isub, 1) := by decide +kernel
theorem d_ZF_keepFound_11 : decode b_ZF_keepFound 11 = .ok (.istore 4, 2) := by decide +kernel
theorem d_ZF_keepFound_13 : decode b_ZF_keepFound 13 = .ok (.iload 4, 2) := by decide +kernel
theorem d_ZF_keepFound_15 : decode b_ZF_keepFound 15 = .ok (.ifCond .lt 37, 3) := by decide +kernel
theorem d_ZF_keepFound_18 : decode b_ZF_keepFound 18 = .ok (.aload_n 0, 1) := by decide +kernel
theorem d_ZF_keepFound_19 : decode b_ZF_keepFound 19 = .ok (.getfield 45, 3) := by decide +kernel
theorem d_ZF_keepFound_22 : decode b_ZF_keepFound 22 = .ok (.iload 4, 2) := by decide +kernel
theorem d_ZF_keepFound_24 : decode b_ZF_keepFound 24 = .ok (.laload, 1) := by decide +kernel
theorem d_ZF_keepFound_25 : decode b_ZF_keepFound 25 = .ok (.lload_n 1, 1) := by decide +kernel
theorem d_ZF_keepFound_26 : decode b_ZF_keepFound 26 = .ok (.lcmp, 1) := by decide +kernel
theorem d_ZF_keepFound_27 : decode b_ZF_keepFound 27 = .ok (.ifCond .lt 25, 3) := by decide +kernel
theorem d_ZF_keepFound_30 : decode b_ZF_keepFound 30 = .ok (.aload_n 0, 1) := by decide +kernel
theorem d_ZF_keepFound_31 : decode b_ZF_keepFound 31 = .ok (.getfield 45, 3) := by decide +kernel
theorem d_ZF_keepFound_34 : decode b_ZF_keepFound 34 = .ok (.iload 4, 2) := by decide +kernel
theorem d_ZF_keepFound_36 : decode b_ZF_keepFound 36 = .ok (.laload, 1) := by decide +kernel
theorem d_ZF_keepFound_37 : decode b_ZF_keepFound 37 = .ok (.lload_n 1, 1) := by decide +kernel
theorem d_ZF_keepFound_38 : decode b_ZF_keepFound 38 = .ok (.lcmp, 1) := by decide +kernel
theorem d_ZF_keepFound_39 : decode b_ZF_keepFound 39 = .ok (.ifCond .ne 4, 3) := by decide +kernel
theorem d_ZF_keepFound_42 : decode b_ZF_keepFound 42 = .ok (.return_, 1) := by decide +kernel
theorem d_ZF_keepFound_43 : decode b_ZF_keepFound 43 = .ok (.iload 4, 2) := by decide +kernel
theorem d_ZF_keepFound_45 : decode b_ZF_keepFound 45 = .ok (.istore_n 3, 1) := by decide +kernel
theorem d_ZF_keepFound_46 : decode b_ZF_keepFound 46 = .ok (.iinc 4 (-1), 3) := by decide +kernel
theorem d_ZF_keepFound_49 : decode b_ZF_keepFound 49 = .ok (.goto (-36), 3) := by decide +kernel
theorem d_ZF_keepFound_52 : decode b_ZF_keepFound 52 = .ok (.aload_n 0, 1) := by decide +kernel
theorem d_ZF_keepFound_53 : decode b_ZF_keepFound 53 = .ok (.getfield 49, 3) := by decide +kernel
theorem d_ZF_keepFound_56 : decode b_ZF_keepFound 56 = .ok (.aload_n 0, 1) := by decide +kernel
theorem d_ZF_keepFound_57 : decode b_ZF_keepFound 57 = .ok (.getfield 45, 3) := by decide +kernel
theorem d_ZF_keepFound_60 : decode b_ZF_keepFound 60 = .ok (.arraylength, 1) := by decide +kernel
theorem d_ZF_keepFound_61 : decode b_ZF_keepFound 61 = .ok (.if_icmp .lt 4, 3) := by decide +kernel
theorem d_ZF_keepFound_64 : decode b_ZF_keepFound 64 = .ok (.return_, 1) := by decide +kernel
theorem d_ZF_keepFound_65 : decode b_ZF_keepFound 65 = .ok (.aload_n 0, 1) := by decide +kernel
theorem d_ZF_keepFound_66 : decode b_ZF_keepFound 66 = .ok (.getfield 49, 3) := by decide +kernel
theorem d_ZF_keepFound_69 : decode b_ZF_keepFound 69 = .ok (.istore 4, 2) := by decide +kernel
theorem d_ZF_keepFound_71 : decode b_ZF_keepFound 71 = .ok (.iload 4, 2) := by decide +kernel
theorem d_ZF_keepFound_73 : decode b_ZF_keepFound 73 = .ok (.iload_n 3, 1) := by decide +kernel
theorem d_ZF_keepFound_74 : decode b_ZF_keepFound 74 = .ok (.if_icmp .le 25, 3) := by decide +kernel
theorem d_ZF_keepFound_77 : decode b_ZF_keepFound 77 = .ok (.aload_n 0, 1) := by decide +kernel
theorem d_ZF_keepFound_78 : decode b_ZF_keepFound 78 = .ok (.getfield 45, 3) := by decide +kernel
theorem d_ZF_keepFound_81 : decode b_ZF_keepFound 81 = .ok (.iload 4, 2) := by decide +kernel
theorem d_ZF_keepFound_83 : decode b_ZF_keepFound 83 = .ok (.aload_n 0, 1) := by decide +kernel
theorem d_ZF_keepFound_84 : decode b_ZF_keepFound 84 = .ok (.getfield 45, 3) := by decide +kernel
theorem d_ZF_keepFound_87 : decode b_ZF_keepFound 87 = .ok (.iload 4, 2) := by decide +kernel
theorem d_ZF_keepFound_89 : decode b_ZF_keepFound 89 = .ok (.iconst 1, 1) := by decide +kernel
theorem d_ZF_keepFound_90 : decode b_ZF_keepFound 90 = .ok (.isub, 1) := by decide +kernel
theorem d_ZF_keepFound_91 : decode b_ZF_keepFound 91 = .ok (.laload, 1) := by decide +kernel
theorem d_ZF_keepFound_92 : decode b_ZF_keepFound 92 = .ok (.lastore, 1) := by decide +kernel
theorem d_ZF_keepFound_93 : decode b_ZF_keepFound 93 = .ok (.iinc 4 (-1), 3) := by decide +kernel
theorem d_ZF_keepFound_96 : decode b_ZF_keepFound 96 = .ok (.goto (-25), 3) := by decide +kernel
theorem d_ZF_keepFound_99 : decode b_ZF_keepFound 99 = .ok (.aload_n 0, 1) := by decide +kernel
theorem d_ZF_keepFound_100 : decode b_ZF_keepFound 100 = .ok (.getfield 45, 3) := by decide +kernel
theorem d_ZF_keepFound_103 : decode b_ZF_keepFound 103 = .ok (.iload_n 3, 1) := by decide +kernel
theorem d_ZF_keepFound_104 : decode b_ZF_keepFound 104 = .ok (.lload_n 1, 1) := by decide +kernel
theorem d_ZF_keepFound_105 : decode b_ZF_keepFound 105 = .ok (.lastore, 1) := by decide +kernel
theorem d_ZF_keepFound_106 : decode b_ZF_keepFound 106 = .ok (.aload_n 0, 1) := by decide +kernel
theorem d_ZF_keepFound_107 : decode b_ZF_keepFound 107 = .ok (.dup, 1) := by decide +kernel
theorem d_ZF_keepFound_108 : decode b_ZF_keepFound 108 = .ok (.getfield 49, 3) := by decide +kernel
theorem d_ZF_keepFound_111 : decode b_ZF_keepFound 111 = .ok (.iconst 1, 1) := by decide +kernel
theorem d_ZF_keepFound_112 : decode b_ZF_keepFound 112 = .ok (.iadd, 1) := by decide +kernel
theorem d_ZF_keepFound_113 : decode b_ZF_keepFound 113 = .ok (.putfield 49, 3) := by decide +kernel
theorem d_ZF_keepFound_116 : decode b_ZF_keepFound 116 = .ok (.return_, 1) := by decide +kernel
abbrev b_ZF_feed : ByteArray := prog_1_method_2_code
def y_ZF_feed : MethodName := ⟨"ZoneFiles", "feed", "(IJ)I"⟩
theorem d_ZF_feed_0 : decode b_ZF_feed 0 = .ok (.iload_n 1, 1) := by decide +kernel
theorem d_ZF_feed_1 : decode b_ZF_feed 1 = .ok (.iconst 1, 1) := by decide +kernel
theorem d_ZF_feed_2 : decode b_ZF_feed 2 = .ok (.if_icmp .lt 9, 3) := by decide +kernel
theorem d_ZF_feed_5 : decode b_ZF_feed 5 = .ok (.iload_n 1, 1) := by decide +kernel
theorem d_ZF_feed_6 : decode b_ZF_feed 6 = .ok (.bipush 8, 2) := by decide +kernel
theorem d_ZF_feed_8 : decode b_ZF_feed 8 = .ok (.if_icmp .le 13, 3) := by decide +kernel
theorem d_ZF_feed_11 : decode b_ZF_feed 11 = .ok (.new 56, 3) := by decide +kernel
theorem d_ZF_feed_14 : decode b_ZF_feed 14 = .ok (.dup, 1) := by decide +kernel
theorem d_ZF_feed_15 : decode b_ZF_feed 15 = .ok (.ldc 58, 2) := by decide +kernel
theorem d_ZF_feed_17 : decode b_ZF_feed 17 = .ok (.invokespecial 60, 3) := by decide +kernel
theorem d_ZF_feed_20 : decode b_ZF_feed 20 = .ok (.athrow, 1) := by decide +kernel
theorem d_ZF_feed_21 : decode b_ZF_feed 21 = .ok (.aload_n 0, 1) := by decide +kernel
theorem d_ZF_feed_22 : decode b_ZF_feed 22 = .ok (.getfield 12, 3) := by decide +kernel
theorem d_ZF_feed_25 : decode b_ZF_feed 25 = .ok (.getfield 63, 3) := by decide +kernel
theorem d_ZF_feed_28 : decode b_ZF_feed 28 = .ok (.iload_n 1, 1) := by decide +kernel
theorem d_ZF_feed_29 : decode b_ZF_feed 29 = .ok (.iadd, 1) := by decide +kernel
theorem d_ZF_feed_30 : decode b_ZF_feed 30 = .ok (.sipush 6000, 3) := by decide +kernel
theorem d_ZF_feed_33 : decode b_ZF_feed 33 = .ok (.if_icmp .le 13, 3) := by decide +kernel
theorem d_ZF_feed_36 : decode b_ZF_feed 36 = .ok (.new 56, 3) := by decide +kernel
theorem d_ZF_feed_39 : decode b_ZF_feed 39 = .ok (.dup, 1) := by decide +kernel
theorem d_ZF_feed_40 : decode b_ZF_feed 40 = .ok (.ldc 66, 2) := by decide +kernel
theorem d_ZF_feed_42 : decode b_ZF_feed 42 = .ok (.invokespecial 60, 3) := by decide +kernel
theorem d_ZF_feed_45 : decode b_ZF_feed 45 = .ok (.athrow, 1) := by decide +kernel
theorem d_ZF_feed_46 : decode b_ZF_feed 46 = .ok (.iconst 0, 1) := by decide +kernel
theorem d_ZF_feed_47 : decode b_ZF_feed 47 = .ok (.istore 4, 2) := by decide +kernel
theorem d_ZF_feed_49 : decode b_ZF_feed 49 = .ok (.iload 4, 2) := by decide +kernel
theorem d_ZF_feed_51 : decode b_ZF_feed 51 = .ok (.iload_n 1, 1) := by decide +kernel
theorem d_ZF_feed_52 : decode b_ZF_feed 52 = .ok (.if_icmp .ge 24, 3) := by decide +kernel
theorem d_ZF_feed_55 : decode b_ZF_feed 55 = .ok (.aload_n 0, 1) := by decide +kernel
theorem d_ZF_feed_56 : decode b_ZF_feed 56 = .ok (.getfield 12, 3) := by decide +kernel
theorem d_ZF_feed_59 : decode b_ZF_feed 59 = .ok (.lload_n 2, 1) := by decide +kernel
theorem d_ZF_feed_60 : decode b_ZF_feed 60 = .ok (.bipush 8, 2) := by decide +kernel
theorem d_ZF_feed_62 : decode b_ZF_feed 62 = .ok (.iload 4, 2) := by decide +kernel
theorem d_ZF_feed_64 : decode b_ZF_feed 64 = .ok (.imul, 1) := by decide +kernel
theorem d_ZF_feed_65 : decode b_ZF_feed 65 = .ok (.lushr, 1) := by decide +kernel
theorem d_ZF_feed_66 : decode b_ZF_feed 66 = .ok (.l2i, 1) := by decide +kernel
theorem d_ZF_feed_67 : decode b_ZF_feed 67 = .ok (.invokevirtual 68, 3) := by decide +kernel
theorem d_ZF_feed_70 : decode b_ZF_feed 70 = .ok (.iinc 4 1, 3) := by decide +kernel
theorem d_ZF_feed_73 : decode b_ZF_feed 73 = .ok (.goto (-24), 3) := by decide +kernel
theorem d_ZF_feed_76 : decode b_ZF_feed 76 = .ok (.aload_n 0, 1) := by decide +kernel
theorem d_ZF_feed_77 : decode b_ZF_feed 77 = .ok (.getfield 12, 3) := by decide +kernel
theorem d_ZF_feed_80 : decode b_ZF_feed 80 = .ok (.getfield 63, 3) := by decide +kernel
theorem d_ZF_feed_83 : decode b_ZF_feed 83 = .ok (.ireturn, 1) := by decide +kernel
abbrev b_ZF_place : ByteArray := prog_1_method_6_code
def y_ZF_place : MethodName := ⟨"ZoneFiles", "place", "()I"⟩
theorem d_ZF_place_0 : decode b_ZF_place 0 = .ok (.aload_n 0, 1) := by decide +kernel
theorem d_ZF_place_1 : decode b_ZF_place 1 = .ok (.getfield 53, 3) := by decide +kernel
theorem d_ZF_place_4 : decode b_ZF_place 4 = .ok (.ireturn, 1) := by decide +kernel
abbrev b_ZF_clock : ByteArray := prog_1_method_15_code
def y_ZF_clock : MethodName := ⟨"ZoneFiles", "clock", "(JI)J"⟩
theorem d_ZF_clock_0 : decode b_ZF_clock 0 = .ok (.iload_n 3, 1) := by decide +kernel
theorem d_ZF_clock_1 : decode b_ZF_clock 1 = .ok (.bipush 8, 2) := by decide +kernel
theorem d_ZF_clock_3 : decode b_ZF_clock 3 = .ok (.invokestatic 166, 3) := by decide +kernel
theorem d_ZF_clock_6 : decode b_ZF_clock 6 = .ok (.lload_n 1, 1) := by decide +kernel
theorem d_ZF_clock_7 : decode b_ZF_clock 7 = .ok (.invokestatic 206, 3) := by decide +kernel
theorem d_ZF_clock_10 : decode b_ZF_clock 10 = .ok (.lload_n 1, 1) := by decide +kernel
theorem d_ZF_clock_11 : decode b_ZF_clock 11 = .ok (.ldc2_w 229, 3) := by decide +kernel
theorem d_ZF_clock_14 : decode b_ZF_clock 14 = .ok (.invokestatic 231, 3) := by decide +kernel
theorem d_ZF_clock_17 : decode b_ZF_clock 17 = .ok (.lstore 4, 2) := by decide +kernel
theorem d_ZF_clock_19 : decode b_ZF_clock 19 = .ok (.lload_n 1, 1) := by decide +kernel
theorem d_ZF_clock_20 : decode b_ZF_clock 20 = .ok (.lload 4, 2) := by decide +kernel
theorem d_ZF_clock_22 : decode b_ZF_clock 22 = .ok (.ldc2_w 229, 3) := by decide +kernel
theorem d_ZF_clock_25 : decode b_ZF_clock 25 = .ok (.lmul, 1) := by decide +kernel
theorem d_ZF_clock_26 : decode b_ZF_clock 26 = .ok (.lsub, 1) := by decide +kernel
theorem d_ZF_clock_27 : decode b_ZF_clock 27 = .ok (.l2i, 1) := by decide +kernel
theorem d_ZF_clock_28 : decode b_ZF_clock 28 = .ok (.istore 6, 2) := by decide +kernel
theorem d_ZF_clock_30 : decode b_ZF_clock 30 = .ok (.iload_n 3, 1) := by decide +kernel
theorem d_ZF_clock_31 : decode b_ZF_clock 31 = .ok (.tableswitch 61 3 6 #[29, 37, 47, 54], 29) := by decide +kernel
theorem d_ZF_clock_60 : decode b_ZF_clock 60 = .ok (.iload 6, 2) := by decide +kernel
theorem d_ZF_clock_62 : decode b_ZF_clock 62 = .ok (.sipush 3600, 3) := by decide +kernel
theorem d_ZF_clock_65 : decode b_ZF_clock 65 = .ok (.idiv, 1) := by decide +kernel
theorem d_ZF_clock_66 : decode b_ZF_clock 66 = .ok (.i2l, 1) := by decide +kernel
theorem d_ZF_clock_67 : decode b_ZF_clock 67 = .ok (.lreturn, 1) := by decide +kernel
theorem d_ZF_clock_68 : decode b_ZF_clock 68 = .ok (.iload 6, 2) := by decide +kernel
theorem d_ZF_clock_70 : decode b_ZF_clock 70 = .ok (.bipush 60, 2) := by decide +kernel
theorem d_ZF_clock_72 : decode b_ZF_clock 72 = .ok (.idiv, 1) := by decide +kernel
theorem d_ZF_clock_73 : decode b_ZF_clock 73 = .ok (.bipush 60, 2) := by decide +kernel
theorem d_ZF_clock_75 : decode b_ZF_clock 75 = .ok (.irem, 1) := by decide +kernel
theorem d_ZF_clock_76 : decode b_ZF_clock 76 = .ok (.i2l, 1) := by decide +kernel
theorem d_ZF_clock_77 : decode b_ZF_clock 77 = .ok (.lreturn, 1) := by decide +kernel
theorem d_ZF_clock_78 : decode b_ZF_clock 78 = .ok (.iload 6, 2) := by decide +kernel
theorem d_ZF_clock_80 : decode b_ZF_clock 80 = .ok (.bipush 60, 2) := by decide +kernel
theorem d_ZF_clock_82 : decode b_ZF_clock 82 = .ok (.irem, 1) := by decide +kernel
theorem d_ZF_clock_83 : decode b_ZF_clock 83 = .ok (.i2l, 1) := by decide +kernel
theorem d_ZF_clock_84 : decode b_ZF_clock 84 = .ok (.lreturn, 1) := by decide +kernel
theorem d_ZF_clock_85 : decode b_ZF_clock 85 = .ok (.lload 4, 2) := by decide +kernel
theorem d_ZF_clock_87 : decode b_ZF_clock 87 = .ok (.invokestatic 237, 3) := by decide +kernel
theorem d_ZF_clock_90 : decode b_ZF_clock 90 = .ok (.i2l, 1) := by decide +kernel
theorem d_ZF_clock_91 : decode b_ZF_clock 91 = .ok (.lreturn, 1) := by decide +kernel
theorem d_ZF_clock_92 : decode b_ZF_clock 92 = .ok (.lload 4, 2) := by decide +kernel
theorem d_ZF_clock_94 : decode b_ZF_clock 94 = .ok (.iload_n 3, 1) := by decide +kernel
theorem d_ZF_clock_95 : decode b_ZF_clock 95 = .ok (.invokestatic 242, 3) := by decide +kernel
theorem d_ZF_clock_98 : decode b_ZF_clock 98 = .ok (.lreturn, 1) := by decide +kernel
abbrev b_ZF_seconds : ByteArray := prog_1_method_16_code
def y_ZF_seconds : MethodName := ⟨"ZoneFiles", "seconds", "(JIII)J"⟩
theorem d_ZF_seconds_0 : decode b_ZF_seconds 0 = .ok (.lload_n 1, 1) := by decide +kernel
theorem d_ZF_seconds_1 : decode b_ZF_seconds 1 = .ok (.ldc2_w 246, 3) := by decide +kernel
theorem d_ZF_seconds_4 : decode b_ZF_seconds 4 = .ok (.lcmp, 1) := by decide +kernel
theorem d_ZF_seconds_5 : decode b_ZF_seconds 5 = .ok (.ifCond .lt 11, 3) := by decide +kernel
theorem d_ZF_seconds_8 : decode b_ZF_seconds 8 = .ok (.lload_n 1, 1) := by decide +kernel
theorem d_ZF_seconds_9 : decode b_ZF_seconds 9 = .ok (.ldc2_w 248, 3) := by decide +kernel
theorem d_ZF_seconds_12 : decode b_ZF_seconds 12 = .ok (.lcmp, 1) := by decide +kernel
theorem d_ZF_seconds_13 : decode b_ZF_seconds 13 = .ok (.ifCond .le 13, 3) := by decide +kernel
theorem d_ZF_seconds_16 : decode b_ZF_seconds 16 = .ok (.new 56, 3) := by decide +kernel
theorem d_ZF_seconds_19 : decode b_ZF_seconds 19 = .ok (.dup, 1) := by decide +kernel
theorem d_ZF_seconds_20 : decode b_ZF_seconds 20 = .ok (.ldc 250, 2) := by decide +kernel
theorem d_ZF_seconds_22 : decode b_ZF_seconds 22 = .ok (.invokespecial 60, 3) := by decide +kernel
theorem d_ZF_seconds_25 : decode b_ZF_seconds 25 = .ok (.athrow, 1) := by decide +kernel
theorem d_ZF_seconds_26 : decode b_ZF_seconds 26 = .ok (.iload_n 3, 1) := by decide +kernel
theorem d_ZF_seconds_27 : decode b_ZF_seconds 27 = .ok (.iconst 1, 1) := by decide +kernel
theorem d_ZF_seconds_28 : decode b_ZF_seconds 28 = .ok (.if_icmp .lt 9, 3) := by decide +kernel
theorem d_ZF_seconds_31 : decode b_ZF_seconds 31 = .ok (.iload_n 3, 1) := by decide +kernel
theorem d_ZF_seconds_32 : decode b_ZF_seconds 32 = .ok (.bipush 12, 2) := by decide +kernel
theorem d_ZF_seconds_34 : decode b_ZF_seconds 34 = .ok (.if_icmp .le 13, 3) := by decide +kernel
theorem d_ZF_seconds_37 : decode b_ZF_seconds 37 = .ok (.new 56, 3) := by decide +kernel
theorem d_ZF_seconds_40 : decode b_ZF_seconds 40 = .ok (.dup, 1) := by decide +kernel
theorem d_ZF_seconds_41 : decode b_ZF_seconds 41 = .ok (.ldc 252, 2) := by decide +kernel
theorem d_ZF_seconds_43 : decode b_ZF_seconds 43 = .ok (.invokespecial 60, 3) := by decide +kernel
theorem d_ZF_seconds_46 : decode b_ZF_seconds 46 = .ok (.athrow, 1) := by decide +kernel
theorem d_ZF_seconds_47 : decode b_ZF_seconds 47 = .ok (.lload_n 1, 1) := by decide +kernel
theorem d_ZF_seconds_48 : decode b_ZF_seconds 48 = .ok (.invokestatic 254, 3) := by decide +kernel
theorem d_ZF_seconds_51 : decode b_ZF_seconds 51 = .ok (.istore 6, 2) := by decide +kernel
theorem d_ZF_seconds_53 : decode b_ZF_seconds 53 = .ok (.iload 4, 2) := by decide +kernel
theorem d_ZF_seconds_55 : decode b_ZF_seconds 55 = .ok (.iconst 1, 1) := by decide +kernel
theorem d_ZF_seconds_56 : decode b_ZF_seconds 56 = .ok (.if_icmp .lt 14, 3) := by decide +kernel
theorem d_ZF_seconds_59 : decode b_ZF_seconds 59 = .ok (.iload 4, 2) := by decide +kernel
theorem d_ZF_seconds_61 : decode b_ZF_seconds 61 = .ok (.iload_n 3, 1) := by decide +kernel
theorem d_ZF_seconds_62 : decode b_ZF_seconds 62 = .ok (.iload 6, 2) := by decide +kernel
theorem d_ZF_seconds_64 : decode b_ZF_seconds 64 = .ok (.invokestatic 258, 3) := by decide +kernel
theorem d_ZF_seconds_67 : decode b_ZF_seconds 67 = .ok (.if_icmp .le 14, 3) := by decide +kernel
theorem d_ZF_seconds_70 : decode b_ZF_seconds 70 = .ok (.new 56, 3) := by decide +kernel
theorem d_ZF_seconds_73 : decode b_ZF_seconds 73 = .ok (.dup, 1) := by decide +kernel
theorem d_ZF_seconds_74 : decode b_ZF_seconds 74 = .ok (.ldc_w 262, 3) := by decide +kernel
theorem d_ZF_seconds_77 : decode b_ZF_seconds 77 = .ok (.invokespecial 60, 3) := by decide +kernel
theorem d_ZF_seconds_80 : decode b_ZF_seconds 80 = .ok (.athrow, 1) := by decide +kernel
theorem d_ZF_seconds_81 : decode b_ZF_seconds 81 = .ok (.iload 5, 2) := by decide +kernel
theorem d_ZF_seconds_83 : decode b_ZF_seconds 83 = .ok (.ifCond .lt 13, 3) := by decide +kernel
theorem d_ZF_seconds_86 : decode b_ZF_seconds 86 = .ok (.iload 5, 2) := by decide +kernel
theorem d_ZF_seconds_88 : decode b_ZF_seconds 88 = .ok (.i2l, 1) := by decide +kernel
theorem d_ZF_seconds_89 : decode b_ZF_seconds 89 = .ok (.ldc2_w 229, 3) := by decide +kernel
theorem d_ZF_seconds_92 : decode b_ZF_seconds 92 = .ok (.lcmp, 1) := by decide +kernel
theorem d_ZF_seconds_93 : decode b_ZF_seconds 93 = .ok (.ifCond .lt 14, 3) := by decide +kernel
theorem d_ZF_seconds_96 : decode b_ZF_seconds 96 = .ok (.new 56, 3) := by decide +kernel
theorem d_ZF_seconds_99 : decode b_ZF_seconds 99 = .ok (.dup, 1) := by decide +kernel
theorem d_ZF_seconds_100 : decode b_ZF_seconds 100 = .ok (.ldc_w 264, 3) := by decide +kernel
theorem d_ZF_seconds_103 : decode b_ZF_seconds 103 = .ok (.invokespecial 60, 3) := by decide +kernel
theorem d_ZF_seconds_106 : decode b_ZF_seconds 106 = .ok (.athrow, 1) := by decide +kernel
theorem d_ZF_seconds_107 : decode b_ZF_seconds 107 = .ok (.lload_n 1, 1) := by decide +kernel
theorem d_ZF_seconds_108 : decode b_ZF_seconds 108 = .ok (.invokestatic 266, 3) := by decide +kernel
theorem d_ZF_seconds_111 : decode b_ZF_seconds 111 = .ok (.iload_n 3, 1) := by decide +kernel
theorem d_ZF_seconds_112 : decode b_ZF_seconds 112 = .ok (.iload 6, 2) := by decide +kernel
theorem d_ZF_seconds_114 : decode b_ZF_seconds 114 = .ok (.invokestatic 270, 3) := by decide +kernel
theorem d_ZF_seconds_117 : decode b_ZF_seconds 117 = .ok (.i2l, 1) := by decide +kernel
theorem d_ZF_seconds_118 : decode b_ZF_seconds 118 = .ok (.ladd, 1) := by decide +kernel
theorem d_ZF_seconds_119 : decode b_ZF_seconds 119 = .ok (.iload 4, 2) := by decide +kernel
theorem d_ZF_seconds_121 : decode b_ZF_seconds 121 = .ok (.i2l, 1) := by decide +kernel
theorem d_ZF_seconds_122 : decode b_ZF_seconds 122 = .ok (.ladd, 1) := by decide +kernel
theorem d_ZF_seconds_123 : decode b_ZF_seconds 123 = .ok (.lconst 1, 1) := by decide +kernel
theorem d_ZF_seconds_124 : decode b_ZF_seconds 124 = .ok (.lsub, 1) := by decide +kernel
theorem d_ZF_seconds_125 : decode b_ZF_seconds 125 = .ok (.lstore 7, 2) := by decide +kernel
theorem d_ZF_seconds_127 : decode b_ZF_seconds 127 = .ok (.lload 7, 2) := by decide +kernel
theorem d_ZF_seconds_129 : decode b_ZF_seconds 129 = .ok (.ldc2_w 229, 3) := by decide +kernel
theorem d_ZF_seconds_132 : decode b_ZF_seconds 132 = .ok (.lmul, 1) := by decide +kernel
theorem d_ZF_seconds_133 : decode b_ZF_seconds 133 = .ok (.iload 5, 2) := by decide +kernel
theorem d_ZF_seconds_135 : decode b_ZF_seconds 135 = .ok (.i2l, 1) := by decide +kernel
theorem d_ZF_seconds_136 : decode b_ZF_seconds 136 = .ok (.ladd, 1) := by decide +kernel
theorem d_ZF_seconds_137 : decode b_ZF_seconds 137 = .ok (.lreturn, 1) := by decide +kernel
abbrev b_ZF_found : ByteArray := prog_1_method_18_code
def y_ZF_found : MethodName := ⟨"ZoneFiles", "found", "(I)J"⟩
theorem d_ZF_found_0 : decode b_ZF_found 0 = .ok (.iload_n 1, 1) := by decide +kernel
theorem d_ZF_found_1 : decode b_ZF_found 1 = .ok (.aload_n 0, 1) := by decide +kernel
theorem d_ZF_found_2 : decode b_ZF_found 2 = .ok (.getfield 49, 3) := by decide +kernel
theorem d_ZF_found_5 : decode b_ZF_found 5 = .ok (.invokestatic 166, 3) := by decide +kernel
theorem d_ZF_found_8 : decode b_ZF_found 8 = .ok (.aload_n 0, 1) := by decide +kernel
theorem d_ZF_found_9 : decode b_ZF_found 9 = .ok (.getfield 45, 3) := by decide +kernel
theorem d_ZF_found_12 : decode b_ZF_found 12 = .ok (.iload_n 1, 1) := by decide +kernel
theorem d_ZF_found_13 : decode b_ZF_found 13 = .ok (.laload, 1) := by decide +kernel
theorem d_ZF_found_14 : decode b_ZF_found 14 = .ok (.lreturn, 1) := by decide +kernel
abbrev b_ZF_out : ByteArray := prog_1_method_23_code
def y_ZF_out : MethodName := ⟨"ZoneFiles", "out", "(I)I"⟩
theorem d_ZF_out_0 : decode b_ZF_out 0 = .ok (.iload_n 1, 1) := by decide +kernel
theorem d_ZF_out_1 : decode b_ZF_out 1 = .ok (.aload_n 0, 1) := by decide +kernel
theorem d_ZF_out_2 : decode b_ZF_out 2 = .ok (.getfield 18, 3) := by decide +kernel
theorem d_ZF_out_5 : decode b_ZF_out 5 = .ok (.getfield 63, 3) := by decide +kernel
theorem d_ZF_out_8 : decode b_ZF_out 8 = .ok (.invokestatic 166, 3) := by decide +kernel
theorem d_ZF_out_11 : decode b_ZF_out 11 = .ok (.aload_n 0, 1) := by decide +kernel
theorem d_ZF_out_12 : decode b_ZF_out 12 = .ok (.getfield 18, 3) := by decide +kernel
theorem d_ZF_out_15 : decode b_ZF_out 15 = .ok (.iload_n 1, 1) := by decide +kernel
theorem d_ZF_out_16 : decode b_ZF_out 16 = .ok (.invokevirtual 197, 3) := by decide +kernel
theorem d_ZF_out_19 : decode b_ZF_out 19 = .ok (.ireturn, 1) := by decide +kernel
abbrev b_ZF_again : ByteArray := prog_1_method_24_code
def y_ZF_again : MethodName := ⟨"ZoneFiles", "again", "()I"⟩
theorem d_ZF_again_0 : decode b_ZF_again 0 = .ok (.aload_n 0, 1) := by decide +kernel
theorem d_ZF_again_1 : decode b_ZF_again 1 = .ok (.getfield 12, 3) := by decide +kernel
theorem d_ZF_again_4 : decode b_ZF_again 4 = .ok (.invokevirtual 89, 3) := by decide +kernel
theorem d_ZF_again_7 : decode b_ZF_again 7 = .ok (.aload_n 0, 1) := by decide +kernel
theorem d_ZF_again_8 : decode b_ZF_again 8 = .ok (.getfield 12, 3) := by decide +kernel
theorem d_ZF_again_11 : decode b_ZF_again 11 = .ok (.aload_n 0, 1) := by decide +kernel
theorem d_ZF_again_12 : decode b_ZF_again 12 = .ok (.getfield 18, 3) := by decide +kernel
theorem d_ZF_again_15 : decode b_ZF_again 15 = .ok (.iconst 0, 1) := by decide +kernel
theorem d_ZF_again_16 : decode b_ZF_again 16 = .ok (.aload_n 0, 1) := by decide +kernel
theorem d_ZF_again_17 : decode b_ZF_again 17 = .ok (.getfield 18, 3) := by decide +kernel
theorem d_ZF_again_20 : decode b_ZF_again 20 = .ok (.getfield 63, 3) := by decide +kernel
theorem d_ZF_again_23 : decode b_ZF_again 23 = .ok (.invokevirtual 314, 3) := by decide +kernel
theorem d_ZF_again_26 : decode b_ZF_again 26 = .ok (.aload_n 0, 1) := by decide +kernel
theorem d_ZF_again_27 : decode b_ZF_again 27 = .ok (.getfield 12, 3) := by decide +kernel
theorem d_ZF_again_30 : decode b_ZF_again 30 = .ok (.getfield 63, 3) := by decide +kernel
theorem d_ZF_again_33 : decode b_ZF_again 33 = .ok (.ireturn, 1) := by decide +kernel
abbrev b_ZF_told : ByteArray := prog_1_method_25_code
def y_ZF_told : MethodName := ⟨"ZoneFiles", "told", "(I)J"⟩
theorem d_ZF_told_0 : decode b_ZF_told 0 = .ok (.iload_n 1, 1) := by decide +kernel
theorem d_ZF_told_1 : decode b_ZF_told 1 = .ok (.iconst 2, 1) := by decide +kernel
theorem d_ZF_told_2 : decode b_ZF_told 2 = .ok (.invokestatic 166, 3) := by decide +kernel
theorem d_ZF_told_5 : decode b_ZF_told 5 = .ok (.aload_n 0, 1) := by decide +kernel
theorem d_ZF_told_6 : decode b_ZF_told 6 = .ok (.getfield 38, 3) := by decide +kernel
theorem d_ZF_told_9 : decode b_ZF_told 9 = .ok (.getfield 318, 3) := by decide +kernel
theorem d_ZF_told_12 : decode b_ZF_told 12 = .ok (.ifCond .ne 14, 3) := by decide +kernel
theorem d_ZF_told_15 : decode b_ZF_told 15 = .ok (.new 221, 3) := by decide +kernel
theorem d_ZF_told_18 : decode b_ZF_told 18 = .ok (.dup, 1) := by decide +kernel
theorem d_ZF_told_19 : decode b_ZF_told 19 = .ok (.ldc_w 321, 3) := by decide +kernel
theorem d_ZF_told_22 : decode b_ZF_told 22 = .ok (.invokespecial 225, 3) := by decide +kernel
theorem d_ZF_told_25 : decode b_ZF_told 25 = .ok (.athrow, 1) := by decide +kernel
theorem d_ZF_told_26 : decode b_ZF_told 26 = .ok (.iload_n 1, 1) := by decide +kernel
theorem d_ZF_told_27 : decode b_ZF_told 27 = .ok (.ifCond .ne 14, 3) := by decide +kernel
theorem d_ZF_told_30 : decode b_ZF_told 30 = .ok (.aload_n 0, 1) := by decide +kernel
theorem d_ZF_told_31 : decode b_ZF_told 31 = .ok (.getfield 38, 3) := by decide +kernel
theorem d_ZF_told_34 : decode b_ZF_told 34 = .ok (.getfield 318, 3) := by decide +kernel
theorem d_ZF_told_37 : decode b_ZF_told 37 = .ok (.i2l, 1) := by decide +kernel
theorem d_ZF_told_38 : decode b_ZF_told 38 = .ok (.goto 10, 3) := by decide +kernel
theorem d_ZF_told_41 : decode b_ZF_told 41 = .ok (.aload_n 0, 1) := by decide +kernel
theorem d_ZF_told_42 : decode b_ZF_told 42 = .ok (.getfield 38, 3) := by decide +kernel
theorem d_ZF_told_45 : decode b_ZF_told 45 = .ok (.getfield 323, 3) := by decide +kernel
theorem d_ZF_told_48 : decode b_ZF_told 48 = .ok (.lreturn, 1) := by decide +kernel
abbrev b_ZF_row : ByteArray := prog_1_method_26_code
def y_ZF_row : MethodName := ⟨"ZoneFiles", "row", "(II)J"⟩
theorem d_ZF_row_0 : decode b_ZF_row 0 = .ok (.iload_n 1, 1) := by decide +kernel
theorem d_ZF_row_1 : decode b_ZF_row 1 = .ok (.aload_n 0, 1) := by decide +kernel
theorem d_ZF_row_2 : decode b_ZF_row 2 = .ok (.getfield 38, 3) := by decide +kernel
theorem d_ZF_row_5 : decode b_ZF_row 5 = .ok (.getfield 318, 3) := by decide +kernel
theorem d_ZF_row_8 : decode b_ZF_row 8 = .ok (.invokestatic 166, 3) := by decide +kernel
theorem d_ZF_row_11 : decode b_ZF_row 11 = .ok (.iload_n 2, 1) := by decide +kernel
theorem d_ZF_row_12 : decode b_ZF_row 12 = .ok (.iconst 2, 1) := by decide +kernel
theorem d_ZF_row_13 : decode b_ZF_row 13 = .ok (.invokestatic 166, 3) := by decide +kernel
theorem d_ZF_row_16 : decode b_ZF_row 16 = .ok (.iload_n 2, 1) := by decide +kernel
theorem d_ZF_row_17 : decode b_ZF_row 17 = .ok (.ifCond .ne 15, 3) := by decide +kernel
theorem d_ZF_row_20 : decode b_ZF_row 20 = .ok (.aload_n 0, 1) := by decide +kernel
theorem d_ZF_row_21 : decode b_ZF_row 21 = .ok (.getfield 38, 3) := by decide +kernel
theorem d_ZF_row_24 : decode b_ZF_row 24 = .ok (.getfield 327, 3) := by decide +kernel
theorem d_ZF_row_27 : decode b_ZF_row 27 = .ok (.iload_n 1, 1) := by decide +kernel
theorem d_ZF_row_28 : decode b_ZF_row 28 = .ok (.laload, 1) := by decide +kernel
theorem d_ZF_row_29 : decode b_ZF_row 29 = .ok (.goto 12, 3) := by decide +kernel
theorem d_ZF_row_32 : decode b_ZF_row 32 = .ok (.aload_n 0, 1) := by decide +kernel
theorem d_ZF_row_33 : decode b_ZF_row 33 = .ok (.getfield 38, 3) := by decide +kernel
theorem d_ZF_row_36 : decode b_ZF_row 36 = .ok (.getfield 328, 3) := by decide +kernel
theorem d_ZF_row_39 : decode b_ZF_row 39 = .ok (.iload_n 1, 1) := by decide +kernel
theorem d_ZF_row_40 : decode b_ZF_row 40 = .ok (.laload, 1) := by decide +kernel
theorem d_ZF_row_41 : decode b_ZF_row 41 = .ok (.lreturn, 1) := by decide +kernel
abbrev b_ZF_atomic : ByteArray := prog_1_method_27_code
def y_ZF_atomic : MethodName := ⟨"ZoneFiles", "atomic", "(J)J"⟩
theorem d_ZF_atomic_0 : decode b_ZF_atomic 0 = .ok (.aload_n 0, 1) := by decide +kernel
theorem d_ZF_atomic_1 : decode b_ZF_atomic 1 = .ok (.getfield 38, 3) := by decide +kernel
theorem d_ZF_atomic_4 : decode b_ZF_atomic 4 = .ok (.lload_n 1, 1) := by decide +kernel
theorem d_ZF_atomic_5 : decode b_ZF_atomic 5 = .ok (.invokevirtual 331, 3) := by decide +kernel
theorem d_ZF_atomic_8 : decode b_ZF_atomic 8 = .ok (.lreturn, 1) := by decide +kernel
abbrev b_ZF_instant : ByteArray := prog_1_method_28_code
def y_ZF_instant : MethodName := ⟨"ZoneFiles", "instant", "(J)J"⟩
theorem d_ZF_instant_0 : decode b_ZF_instant 0 = .ok (.aload_n 0, 1) := by decide +kernel
theorem d_ZF_instant_1 : decode b_ZF_instant 1 = .ok (.getfield 38, 3) := by decide +kernel
theorem d_ZF_instant_4 : decode b_ZF_instant 4 = .ok (.lload_n 1, 1) := by decide +kernel
theorem d_ZF_instant_5 : decode b_ZF_instant 5 = .ok (.invokevirtual 334, 3) := by decide +kernel
theorem d_ZF_instant_8 : decode b_ZF_instant 8 = .ok (.lreturn, 1) := by decide +kernel
abbrev b_ZF_isLeap : ByteArray := prog_1_method_29_code
def y_ZF_isLeap : MethodName := ⟨"ZoneFiles", "isLeap", "(J)Z"⟩
theorem d_ZF_isLeap_0 : decode b_ZF_isLeap 0 = .ok (.aload_n 0, 1) := by decide +kernel
theorem d_ZF_isLeap_1 : decode b_ZF_isLeap 1 = .ok (.getfield 38, 3) := by decide +kernel
theorem d_ZF_isLeap_4 : decode b_ZF_isLeap 4 = .ok (.lload_n 1, 1) := by decide +kernel
theorem d_ZF_isLeap_5 : decode b_ZF_isLeap 5 = .ok (.invokevirtual 337, 3) := by decide +kernel
theorem d_ZF_isLeap_8 : decode b_ZF_isLeap 8 = .ok (.ireturn, 1) := by decide +kernel
-- ZoneFiles.checkZone(I)V
def f_ZF_checkZone_9 (nf : Nat) : Option (Unit) :=
  none
def f_ZF_checkZone_0 (nf : Nat) (x0 : Int32) : Option (Unit) :=
  if x0 < 0 then
  f_ZF_checkZone_9 nf
  else
  if x0 < (4 : Int32) then
    some ()
    else
    f_ZF_checkZone_9 nf
def f_ZF_checkZone (nf : Nat) (p0 : Int32) : Option (Unit) :=
  f_ZF_checkZone_0 nf p0
section
variable {p : Program} {l : Launch} {e : Env} {R : Room} {s : State} {m : MethodId} {args : Array Value} {below : List Frame} {meth : Method} {c : Code} {Q : State → Prop} {dC : Nat → ClassId} {dI : Nat → Nat → Nat} {nf : Nat}
set_option maxHeartbeats 400000 in
set_option maxRecDepth 100000 in
theorem k_ZF_checkZone_9 (C0 : Cx p s m meth c args R b_ZF_checkZone "ZoneFiles" 1 none 0 0) (hST : ST (fun _ => False) s s.heap) (hK : va_K (dC, dI) classes [] s) (hE : ∀ (pc : Nat) (ls : Array Slot), decode b_ZF_checkZone pc = .ok (.return_, 1) → W p l e R s m args below meth c s.heap [] 0 0 Q (F0 m pc ls [])) (hf : f_ZF_checkZone_9 nf = some ()) {ls : Array Slot} (hl : lv_has ls 1 []) : W p l e R s m args below meth c s.heap [] 0 0 Q (F0 m 9 ls []) := by
  obtain ⟨hx, hb, hr, hml, hown, hts, hlocks, hRf, hRl⟩ := id C0
  obtain ⟨tms, hZms, hTms, tmg, hZmg, hTmg, hNW⟩ := id hST
  unfold f_ZF_checkZone_9 at hf
  exact absurd hf (by simp)
set_option maxHeartbeats 400000 in
set_option maxRecDepth 100000 in
theorem k_ZF_checkZone_0 (C0 : Cx p s m meth c args R b_ZF_checkZone "ZoneFiles" 1 none 0 0) (hST : ST (fun _ => False) s s.heap) (hK : va_K (dC, dI) classes [] s) (hE : ∀ (pc : Nat) (ls : Array Slot), decode b_ZF_checkZone pc = .ok (.return_, 1) → W p l e R s m args below meth c s.heap [] 0 0 Q (F0 m pc ls [])) {x0 : Int32} (hf : f_ZF_checkZone_0 nf x0 = some ()) {ls : Array Slot} (hl : lv_has ls 1 [(0, .int x0)]) : W p l e R s m args below meth c s.heap [] 0 0 Q (F0 m 0 ls []) := by
  obtain ⟨hx, hb, hr, hml, hown, hts, hlocks, hRf, hRl⟩ := id C0
  obtain ⟨tms, hZms, hTms, tmg, hZmg, hTmg, hNW⟩ := id hST
  unfold f_ZF_checkZone_0 at hf
  refine lv_iload_n hx hb d_ZF_checkZone_0 rfl (lv_at hl 0 rfl) ?_
  refine lv_if_lt (tgt := 9) hx hb d_ZF_checkZone_1 (by decide) (fun c_1 => ?_) (fun c_1 => ?_)
  · have hf := it_t c_1 hf
    exact k_ZF_checkZone_9 C0 hST hK hE hf (lv_sub hl [] rfl)
  · have hf := it_f c_1 hf
    refine lv_iload_n hx hb d_ZF_checkZone_4 rfl (lv_at hl 0 rfl) ?_
    refine lv_iconst (v := 4) hx hb d_ZF_checkZone_5 (by decide) ?_
    refine lv_icmp_lt (tgt := 20) hx hb d_ZF_checkZone_6 (by decide) (fun c_2 => ?_) (fun c_2 => ?_)
    · have hf := it_t c_2 hf
      cases rs hf
      exact hE _ _ d_ZF_checkZone_20
    · have hf := it_f c_2 hf
      exact k_ZF_checkZone_9 C0 hST hK hE hf (lv_sub hl [] rfl)
end
set_option maxHeartbeats 400000 in
set_option maxRecDepth 100000 in
theorem c_ZF_checkZone (l : Launch) (dC : Nat → ClassId) (dI : Nat → Nat → Nat) (nf : Nat) (p0 : Int32) (hf : f_ZF_checkZone nf p0 = some ()) : Met l y_ZF_checkZone (wd y_ZF_checkZone b_ZF_checkZone 1 none) ({ frames := 0, cells := 0, slots := 0, locals := 0 }) (RO dC dI [] [] [.int p0]) (SV none) 0 0 (fun _ => False) :=
  met_S (plainFor_of_name (by decide)) (Nat.le_of_ble_eq_true rfl) (fun p e R s m args below meth c ls C0 hST hK hP hl => by
    obtain ⟨hx, hb, hr, hml, hown, hts, hlocks, hRf, hRl⟩ := id C0
    unfold f_ZF_checkZone at hf
    exact k_ZF_checkZone_0 C0 hST hK (fun pc ls hd => W.vret hx hb hr (fun t ht hW => ⟨rfl, ht⟩) (fun q h => by cases h) hd) hf (lv_sub hl [0] rfl))
-- ZoneFiles.checkIndex(II)V
def f_ZF_checkIndex_9 (nf : Nat) : Option (Unit) :=
  none
def f_ZF_checkIndex_0 (nf : Nat) (x0 : Int32) (x1 : Int32) : Option (Unit) :=
  if x0 < 0 then
  f_ZF_checkIndex_9 nf
  else
  if x0 < x1 then
    some ()
    else
    f_ZF_checkIndex_9 nf
def f_ZF_checkIndex (nf : Nat) (p0 : Int32) (p1 : Int32) : Option (Unit) :=
  f_ZF_checkIndex_0 nf p0 p1
section
variable {p : Program} {l : Launch} {e : Env} {R : Room} {s : State} {m : MethodId} {args : Array Value} {below : List Frame} {meth : Method} {c : Code} {Q : State → Prop} {dC : Nat → ClassId} {dI : Nat → Nat → Nat} {nf : Nat}
set_option maxHeartbeats 400000 in
set_option maxRecDepth 100000 in
theorem k_ZF_checkIndex_9 (C0 : Cx p s m meth c args R b_ZF_checkIndex "ZoneFiles" 2 none 0 0) (hST : ST (fun _ => False) s s.heap) (hK : va_K (dC, dI) classes [] s) (hE : ∀ (pc : Nat) (ls : Array Slot), decode b_ZF_checkIndex pc = .ok (.return_, 1) → W p l e R s m args below meth c s.heap [] 0 0 Q (F0 m pc ls [])) (hf : f_ZF_checkIndex_9 nf = some ()) {ls : Array Slot} (hl : lv_has ls 2 []) : W p l e R s m args below meth c s.heap [] 0 0 Q (F0 m 9 ls []) := by
  obtain ⟨hx, hb, hr, hml, hown, hts, hlocks, hRf, hRl⟩ := id C0
  obtain ⟨tms, hZms, hTms, tmg, hZmg, hTmg, hNW⟩ := id hST
  unfold f_ZF_checkIndex_9 at hf
  exact absurd hf (by simp)
set_option maxHeartbeats 400000 in
set_option maxRecDepth 100000 in
theorem k_ZF_checkIndex_0 (C0 : Cx p s m meth c args R b_ZF_checkIndex "ZoneFiles" 2 none 0 0) (hST : ST (fun _ => False) s s.heap) (hK : va_K (dC, dI) classes [] s) (hE : ∀ (pc : Nat) (ls : Array Slot), decode b_ZF_checkIndex pc = .ok (.return_, 1) → W p l e R s m args below meth c s.heap [] 0 0 Q (F0 m pc ls [])) {x0 : Int32} {x1 : Int32} (hf : f_ZF_checkIndex_0 nf x0 x1 = some ()) {ls : Array Slot} (hl : lv_has ls 2 [(0, .int x0), (1, .int x1)]) : W p l e R s m args below meth c s.heap [] 0 0 Q (F0 m 0 ls []) := by
  obtain ⟨hx, hb, hr, hml, hown, hts, hlocks, hRf, hRl⟩ := id C0
  obtain ⟨tms, hZms, hTms, tmg, hZmg, hTmg, hNW⟩ := id hST
  unfold f_ZF_checkIndex_0 at hf
  refine lv_iload_n hx hb d_ZF_checkIndex_0 rfl (lv_at hl 0 rfl) ?_
  refine lv_if_lt (tgt := 9) hx hb d_ZF_checkIndex_1 (by decide) (fun c_1 => ?_) (fun c_1 => ?_)
  · have hf := it_t c_1 hf
    exact k_ZF_checkIndex_9 C0 hST hK hE hf (lv_sub hl [] rfl)
  · have hf := it_f c_1 hf
    refine lv_iload_n hx hb d_ZF_checkIndex_4 rfl (lv_at hl 0 rfl) ?_
    refine lv_iload_n hx hb d_ZF_checkIndex_5 rfl (lv_at hl 1 rfl) ?_
    refine lv_icmp_lt (tgt := 20) hx hb d_ZF_checkIndex_6 (by decide) (fun c_2 => ?_) (fun c_2 => ?_)
    · have hf := it_t c_2 hf
      cases rs hf
      exact hE _ _ d_ZF_checkIndex_20
    · have hf := it_f c_2 hf
      exact k_ZF_checkIndex_9 C0 hST hK hE hf (lv_sub hl [] rfl)
end
set_option maxHeartbeats 400000 in
set_option maxRecDepth 100000 in
theorem c_ZF_checkIndex (l : Launch) (dC : Nat → ClassId) (dI : Nat → Nat → Nat) (nf : Nat) (p0 : Int32) (p1 : Int32) (hf : f_ZF_checkIndex nf p0 p1 = some ()) : Met l y_ZF_checkIndex (wd y_ZF_checkIndex b_ZF_checkIndex 2 none) ({ frames := 0, cells := 0, slots := 0, locals := 0 }) (RO dC dI [] [] [.int p0, .int p1]) (SV none) 0 0 (fun _ => False) :=
  met_S (plainFor_of_name (by decide)) (Nat.le_of_ble_eq_true rfl) (fun p e R s m args below meth c ls C0 hST hK hP hl => by
    obtain ⟨hx, hb, hr, hml, hown, hts, hlocks, hRf, hRl⟩ := id C0
    unfold f_ZF_checkIndex at hf
    exact k_ZF_checkIndex_0 C0 hST hK (fun pc ls hd => W.vret hx hb hr (fun t ht hW => ⟨rfl, ht⟩) (fun q h => by cases h) hd) hf (lv_sub hl [0, 1] rfl))
-- ZoneFiles.checkInstant(J)V
def f_ZF_checkInstant_0 (nf : Nat) (x0 : Int64) : Option (Unit) :=
  (f_ZF_isInstant nf x0).bind fun r_1 =>
  if r_1 = 0 then
  none
  else
  some ()
def f_ZF_checkInstant (nf : Nat) (p0 : Int64) : Option (Unit) :=
  f_ZF_checkInstant_0 nf p0
section
variable {p : Program} {l : Launch} {e : Env} {R : Room} {s : State} {m : MethodId} {args : Array Value} {below : List Frame} {meth : Method} {c : Code} {Q : State → Prop} {dC : Nat → ClassId} {dI : Nat → Nat → Nat} {nf : Nat}
set_option maxHeartbeats 400000 in
set_option maxRecDepth 100000 in
theorem k_ZF_checkInstant_0 (C0 : Cx p s m meth c args R b_ZF_checkInstant "ZoneFiles" 2 none 1 21) (hST : ST (fun _ => False) s s.heap) (hK : va_K (dC, dI) classes [] s) (hE : ∀ (pc : Nat) (ls : Array Slot), decode b_ZF_checkInstant pc = .ok (.return_, 1) → W p l e R s m args below meth c s.heap [] 0 0 Q (F0 m pc ls [])) {x0 : Int64} (hf : f_ZF_checkInstant_0 nf x0 = some ()) {ls : Array Slot} (hl : lv_has ls 2 [(0, .long x0)]) : W p l e R s m args below meth c s.heap [] 0 0 Q (F0 m 0 ls []) := by
  obtain ⟨hx, hb, hr, hml, hown, hts, hlocks, hRf, hRl⟩ := id C0
  obtain ⟨tms, hZms, hTms, tmg, hZmg, hTmg, hNW⟩ := id hST
  unfold f_ZF_checkInstant_0 at hf
  refine lv_lload_n hx hb d_ZF_checkInstant_0 rfl (lv_at hl 0 rfl) ?_
  obtain ⟨r_1, hc, hf⟩ := ob hf
  refine cl_S (v := (some (.int r_1))) (st1 := [.int r_1]) (va_runS (As := [.long x0]) (rest := []) ⟨hx, hb, hml, hown, hts⟩ (c_ZF_isInstant l dC dI nf x0 hc) (va_cwS 1 hts (gdS m_5_39 m_3_233 m_1_1 m_3_234) rfl rfl rfl (by decide +kernel) ⟨Nat.le_trans (Nat.le_of_ble_eq_true rfl) hRf, Nat.le_trans (Nat.le_of_ble_eq_true rfl) hRl⟩) (RO.pre0 hK hST).sta rfl rfl hl.1 rfl (lv_room (Nat.le_of_ble_eq_true rfl)) d_ZF_checkInstant_1 ⟨Nat.zero_le _, Nat.zero_le _⟩) rfl ?_
  refine lv_if_ne (tgt := 18) hx hb d_ZF_checkInstant_4 (by decide) (fun c_2 => ?_) (fun c_2 => ?_)
  · have hf := it_f c_2 hf
    cases rs hf
    exact hE _ _ d_ZF_checkInstant_18
  · have hf := it_t c_2 hf
    exact absurd hf (by simp)
end
set_option maxHeartbeats 400000 in
set_option maxRecDepth 100000 in
theorem c_ZF_checkInstant (l : Launch) (dC : Nat → ClassId) (dI : Nat → Nat → Nat) (nf : Nat) (p0 : Int64) (hf : f_ZF_checkInstant nf p0 = some ()) : Met l y_ZF_checkInstant (wd y_ZF_checkInstant b_ZF_checkInstant 2 none) ({ frames := 1, cells := 0, slots := 0, locals := 21 }) (RO dC dI [] [] [.long p0]) (SV none) 0 0 (fun _ => False) :=
  met_S (plainFor_of_name (by decide)) (Nat.le_of_ble_eq_true rfl) (fun p e R s m args below meth c ls C0 hST hK hP hl => by
    obtain ⟨hx, hb, hr, hml, hown, hts, hlocks, hRf, hRl⟩ := id C0
    unfold f_ZF_checkInstant at hf
    exact k_ZF_checkInstant_0 C0 hST hK (fun pc ls hd => W.vret hx hb hr (fun t ht hW => ⟨rfl, ht⟩) (fun q h => by cases h) hd) hf (lv_sub hl [0] rfl))
-- ZoneFiles.refuse(II)I
def f_ZF_refuse_0 (nf : Nat) (x1 : Int32) (x2 : Int32) (w0_8 : Int32) : Option (Int32 × Int32) :=
  some (x1, x2)
def f_ZF_refuse (nf : Nat) (p0 : Int32) (p1 : Int32) (zfFp : Int32) : Option (Int32 × Int32) :=
  f_ZF_refuse_0 nf p0 p1 zfFp
section
variable {p : Program} {l : Launch} {e : Env} {R : Room} {s : State} {m : MethodId} {args : Array Value} {below : List Frame} {meth : Method} {c : Code} {Q : State → Prop} {dC : Nat → ClassId} {dI : Nat → Nat → Nat} {nf : Nat} {A : Nat → Prop}
variable {h0 : Nat} {zfTp : Nat} {zfWr : Nat} {zfZs : Nat} {zfSp : Nat} {zfLt : Nat} {zfSt : Nat} {zfFd : Nat} {zfFc : Int32} {zfFp : Int32} {r0 : Int32} {v0_8 : Int32}
set_option maxHeartbeats 400000 in
set_option maxRecDepth 100000 in
theorem k_ZF_refuse_0 (C0 : Cx p s m meth c args R b_ZF_refuse "ZoneFiles" 3 (some .int) 0 0) (hST : ST A s s.heap) (hA : ∀ q, s.heap.size ≤ q → A q) (hE : ∀ (pc : Nat) (ls : Array Slot) (H : Heap) (locs : List Loc), decode b_ZF_refuse pc = .ok (.ireturn, 1) → narrow .int (.int r0) = .int r0 → va_P (dC, dI) classes [(h0, .inr (9, [.ref zfTp, .ref zfWr, .ref zfZs, .ref zfSp, .ref zfLt, .ref zfSt, .ref zfFd, .int zfFc, .int v0_8]))] H → va_D A [(h0, .inr (9, [.ref zfTp, .ref zfWr, .ref zfZs, .ref zfSp, .ref zfLt, .ref zfSt, .ref zfFd, .int zfFc, .int v0_8]))] → va_S A s.heap H locs → va_K (dC, dI) classes [] s → W p l e R s m args below meth c H locs 0 0 Q (F0 m pc ls [.int r0])) {x1 : Int32} {x2 : Int32} {w0_8 : Int32} (hf : f_ZF_refuse_0 nf x1 x2 w0_8 = some (r0, v0_8)) {H : Heap} {locs : List Loc} {ls : Array Slot} (hK : va_K (dC, dI) classes [] s) (hP : va_P (dC, dI) classes [(h0, .inr (9, [.ref zfTp, .ref zfWr, .ref zfZs, .ref zfSp, .ref zfLt, .ref zfSt, .ref zfFd, .int zfFc, .int w0_8]))] H) (hD : va_D A [(h0, .inr (9, [.ref zfTp, .ref zfWr, .ref zfZs, .ref zfSp, .ref zfLt, .ref zfSt, .ref zfFd, .int zfFc, .int w0_8]))]) (hS : va_S A s.heap H locs) (hl : lv_has ls 3 [(0, .ref h0), (1, .int x1), (2, .int x2)]) : W p l e R s m args below meth c H locs 0 0 Q (F0 m 0 ls []) := by
  obtain ⟨hx, hb, hr, hml, hown, hts, hlocks, hRf, hRl⟩ := id C0
  obtain ⟨tms, hZms, hTms, tmg, hZmg, hTmg, hNW⟩ := id hST
  unfold f_ZF_refuse_0 at hf
  refine lv_aload_n hx hb d_ZF_refuse_0 rfl (lv_at hl 0 rfl) ?_
  refine lv_iload_n hx hb d_ZF_refuse_1 rfl (lv_at hl 2 rfl) ?_
  refine va_put (D := (dC, dI)) (ci := 9) (v := .int x2) (ty := .int) (C := RZoneFiles) (T := TZoneFiles) (N := 9) hx hb hts in_ZoneFiles tyZoneFiles ty_ZoneFiles nm_ZoneFiles hown hK hP hD hS 0 rfl rfl 8 (by decide) (hts (.fieldLink "ZoneFiles" 53 "ZoneFiles" "faultPlace" "I") m_2_125) (fun _ h9 => h9) rfl (by decide +kernel) rfl rfl (Nat.le_of_ble_eq_true rfl) d_ZF_refuse_2 (fun H locs hP hD hS => ?_)
  have hP : va_P (dC, dI) classes [(h0, .inr (9, [.ref zfTp, .ref zfWr, .ref zfZs, .ref zfSp, .ref zfLt, .ref zfSt, .ref zfFd, .int zfFc, .int x2]))] H := hP
  have hD : va_D A [(h0, .inr (9, [.ref zfTp, .ref zfWr, .ref zfZs, .ref zfSp, .ref zfLt, .ref zfSt, .ref zfFd, .int zfFc, .int x2]))] := hD
  refine lv_iload_n hx hb d_ZF_refuse_5 rfl (lv_at hl 1 rfl) ?_
  cases rs hf
  exact hE _ _ _ _ d_ZF_refuse_6 rfl hP hD hS hK
end
set_option maxHeartbeats 400000 in
set_option maxRecDepth 100000 in
theorem c_ZF_refuse (l : Launch) (dC : Nat → ClassId) (dI : Nat → Nat → Nat) (h0 : Nat) (zfTp : Nat) (zfWr : Nat) (zfZs : Nat) (zfSp : Nat) (zfLt : Nat) (zfSt : Nat) (zfFd : Nat) (sz : Nat) (nf : Nat) (p0 : Int32) (p1 : Int32) (zfFc : Int32) (zfFp : Int32) {r0 : Int32} {v0_8 : Int32} (hf : f_ZF_refuse nf p0 p1 zfFp = some (r0, v0_8)) : Met l y_ZF_refuse (wd y_ZF_refuse b_ZF_refuse 3 (some .int)) ({ frames := 0, cells := 0, slots := 0, locals := 0 }) (MU dC dI [(h0, .inr (9, [.ref zfTp, .ref zfWr, .ref zfZs, .ref zfSp, .ref zfLt, .ref zfSt, .ref zfFd, .int zfFc, .int zfFp]))] [] sz [.ref h0, .int p0, .int p1]) (MV (some (.int r0)) (fun t => va_P (dC, dI) classes [(h0, .inr (9, [.ref zfTp, .ref zfWr, .ref zfZs, .ref zfSp, .ref zfLt, .ref zfSt, .ref zfFd, .int zfFc, .int v0_8]))] t.heap ∧ va_K (dC, dI) classes [] t ∧ va_D (va_A [(h0, .inr (9, [.ref zfTp, .ref zfWr, .ref zfZs, .ref zfSp, .ref zfLt, .ref zfSt, .ref zfFd, .int zfFc, .int zfFp]))] sz) [(h0, .inr (9, [.ref zfTp, .ref zfWr, .ref zfZs, .ref zfSp, .ref zfLt, .ref zfSt, .ref zfFd, .int zfFc, .int v0_8]))]) (va_A [(h0, .inr (9, [.ref zfTp, .ref zfWr, .ref zfZs, .ref zfSp, .ref zfLt, .ref zfSt, .ref zfFd, .int zfFc, .int zfFp]))] sz)) 0 0 (va_A [(h0, .inr (9, [.ref zfTp, .ref zfWr, .ref zfZs, .ref zfSp, .ref zfLt, .ref zfSt, .ref zfFd, .int zfFc, .int zfFp]))] sz) :=
  met_M (plainFor_of_name (by decide)) (Nat.le_of_ble_eq_true rfl) (fun p e R s m args below meth c ls hRc hRs hsz hin C0 hST hK hP hD hl => by
    obtain ⟨hx, hb, hr, hml, hown, hts, hlocks, hRf, hRl⟩ := id C0
    subst hsz
    have hA : ∀ q : Nat, s.heap.size ≤ q → va_A [(h0, .inr (9, [.ref zfTp, .ref zfWr, .ref zfZs, .ref zfSp, .ref zfLt, .ref zfSt, .ref zfFd, .int zfFc, .int zfFp]))] s.heap.size q := fun q h => Or.inr h
    have hS : va_S (va_A [(h0, .inr (9, [.ref zfTp, .ref zfWr, .ref zfZs, .ref zfSp, .ref zfLt, .ref zfSt, .ref zfFd, .int zfFc, .int zfFp]))] s.heap.size) s.heap s.heap [] := va_S.rf
    unfold f_ZF_refuse at hf
    exact k_ZF_refuse_0 C0 hST hA (fun pc ls H locs hd hn hP hD hS hK => W.zret hx hb hr hn (fun t ht hW => ⟨⟨rfl, ⟨by rw [ht]; exact hP, va_K.moved hW.alike hK, hD⟩⟩, hS.F ht⟩) hS.2.2 hd) hf hK hP hD hS (lv_sub hl [0, 1, 2] rfl))
-- ZoneFiles.keepFound(J)V
def f_ZF_keepFound_71 (nf : Nat) : Nat → Int32 → Int32 → Int64 → Int32 → (Nat → Int64) → Option (Int32 × (Nat → Int64))
  | 0, _, _, _, _, _ => none
  | n + 1, x4, x3, x1, w0_7, w1_a =>
    if x4 ≤ x3 then
    if x3 < 0 ∨ 42 ≤ x3.toNatClampNeg then none else
      some (w0_7 + 1, vp_updL w1_a x3.toNatClampNeg x1)
    else
    if (x4 - 1) < 0 ∨ 42 ≤ (x4 - 1).toNatClampNeg then none else
      if x4 < 0 ∨ 42 ≤ x4.toNatClampNeg then none else
      f_ZF_keepFound_71 nf n (x4 + (-1)) x3 x1 w0_7 (vp_updL w1_a x4.toNatClampNeg (w1_a (x4 - 1).toNatClampNeg))
def f_ZF_keepFound_52 (nf : Nat) (x3 : Int32) (x1 : Int64) (w0_7 : Int32) (w1_a : Nat → Int64) : Option (Int32 × (Nat → Int64)) :=
  if w0_7 < (42 : Int32) then
  f_ZF_keepFound_71 nf nf w0_7 x3 x1 w0_7 w1_a
  else
  some (w0_7, w1_a)
def f_ZF_keepFound_13 (nf : Nat) : Nat → Int32 → Int32 → Int64 → Int32 → (Nat → Int64) → Option (Int32 × (Nat → Int64))
  | 0, _, _, _, _, _ => none
  | n + 1, x4, x3, x1, w0_7, w1_a =>
    if x4 < 0 then
    f_ZF_keepFound_52 nf x3 x1 w0_7 w1_a
    else
    if x4 < 0 ∨ 42 ≤ x4.toNatClampNeg then none else
      if (w1_a x4.toNatClampNeg) < x1 then
      f_ZF_keepFound_52 nf x3 x1 w0_7 w1_a
      else
      if x4 < 0 ∨ 42 ≤ x4.toNatClampNeg then none else
        if (w1_a x4.toNatClampNeg) = x1 then
        some (w0_7, w1_a)
        else
        f_ZF_keepFound_13 nf n (x4 + (-1)) x4 x1 w0_7 w1_a
def f_ZF_keepFound_0 (nf : Nat) (x1 : Int64) (w0_7 : Int32) (w1_a : Nat → Int64) : Option (Int32 × (Nat → Int64)) :=
  f_ZF_keepFound_13 nf nf (w0_7 - 1) w0_7 x1 w0_7 w1_a
def f_ZF_keepFound (nf : Nat) (p0 : Int64) (zfFc : Int32) (fdA : Nat → Int64) : Option (Int32 × (Nat → Int64)) :=
  f_ZF_keepFound_0 nf p0 zfFc fdA
section
variable {p : Program} {l : Launch} {e : Env} {R : Room} {s : State} {m : MethodId} {args : Array Value} {below : List Frame} {meth : Method} {c : Code} {Q : State → Prop} {dC : Nat → ClassId} {dI : Nat → Nat → Nat} {nf : Nat} {A : Nat → Prop}
variable {h0 : Nat} {zfTp : Nat} {zfWr : Nat} {zfZs : Nat} {zfSp : Nat} {zfLt : Nat} {zfSt : Nat} {zfFd : Nat} {cAzfFd : ClassId} {zfFc : Int32} {zfFp : Int32} {fdA : Nat → Int64} {v0_7 : Int32} {v1_a : Nat → Int64}
set_option maxHeartbeats 400000 in
set_option maxRecDepth 100000 in
theorem k_ZF_keepFound_71 (C0 : Cx p s m meth c args R b_ZF_keepFound "ZoneFiles" 5 none 0 0) (hST : ST A s s.heap) (hA : ∀ q, s.heap.size ≤ q → A q) (hE : ∀ (pc : Nat) (ls : Array Slot) (H : Heap) (locs : List Loc), decode b_ZF_keepFound pc = .ok (.return_, 1) → va_P (dC, dI) classes [(h0, .inr (9, [.ref zfTp, .ref zfWr, .ref zfZs, .ref zfSp, .ref zfLt, .ref zfSt, .ref zfFd, .int v0_7, .int zfFp])), (zfFd, .inl (cAzfFd, 42, .inr (.inl v1_a)))] H → va_D A [(h0, .inr (9, [.ref zfTp, .ref zfWr, .ref zfZs, .ref zfSp, .ref zfLt, .ref zfSt, .ref zfFd, .int v0_7, .int zfFp])), (zfFd, .inl (cAzfFd, 42, .inr (.inl v1_a)))] → va_S A s.heap H locs → va_K (dC, dI) classes [(cAzfFd, .long)] s → W p l e R s m args below meth c H locs 0 0 Q (F0 m pc ls [])) : ∀ (n : Nat) {x4 : Int32} {x3 : Int32} {x1 : Int64} {w0_7 : Int32} {w1_a : Nat → Int64}, f_ZF_keepFound_71 nf n x4 x3 x1 w0_7 w1_a = some (v0_7, v1_a) → ∀ {H : Heap} {locs : List Loc} {ls : Array Slot}, va_K (dC, dI) classes [(cAzfFd, .long)] s → va_P (dC, dI) classes [(h0, .inr (9, [.ref zfTp, .ref zfWr, .ref zfZs, .ref zfSp, .ref zfLt, .ref zfSt, .ref zfFd, .int w0_7, .int zfFp])), (zfFd, .inl (cAzfFd, 42, .inr (.inl w1_a)))] H → va_D A [(h0, .inr (9, [.ref zfTp, .ref zfWr, .ref zfZs, .ref zfSp, .ref zfLt, .ref zfSt, .ref zfFd, .int w0_7, .int zfFp])), (zfFd, .inl (cAzfFd, 42, .inr (.inl w1_a)))] → va_S A s.heap H locs → lv_has ls 5 [(4, .int x4), (3, .int x3), (0, .ref h0), (1, .long x1)] → W p l e R s m args below meth c H locs 0 0 Q (F0 m 71 ls []) := by
  obtain ⟨hx, hb, hr, hml, hown, hts, hlocks, hRf, hRl⟩ := id C0
  obtain ⟨tms, hZms, hTms, tmg, hZmg, hTmg, hNW⟩ := id hST
  intro n
  induction n with
  | zero =>
    intro x4 x3 x1 w0_7 w1_a hf
    exact absurd hf (by simp [f_ZF_keepFound_71])
  | succ n ih =>
    intro x4 x3 x1 w0_7 w1_a hf H locs ls hK hP hD hS hl
    unfold f_ZF_keepFound_71 at hf
    refine lv_iload hx hb d_ZF_keepFound_71 (lv_at hl 0 rfl) ?_
    refine lv_iload_n hx hb d_ZF_keepFound_73 rfl (lv_at hl 1 rfl) ?_
    refine lv_icmp_le (tgt := 99) hx hb d_ZF_keepFound_74 (by decide) (fun c_3 => ?_) (fun c_3 => ?_)
    · have hf := it_t c_3 hf
      refine lv_aload_n hx hb d_ZF_keepFound_99 rfl (lv_at hl 2 rfl) ?_
      refine va_get (D := (dC, dI)) (ci := 9) (v := .ref zfFd) (C := RZoneFiles) (T := TZoneFiles) (N := 9) hx hb hts in_ZoneFiles hown hK hP 0 rfl rfl 6 (by decide) (hts (.fieldLink "ZoneFiles" 45 "ZoneFiles" "foundInstants" "[J") m_2_123) (fun _ h9 => h9) rfl d_ZF_keepFound_100 ?_
      refine lv_iload_n hx hb d_ZF_keepFound_103 rfl (lv_at hl 1 rfl) ?_
      refine lv_lload_n hx hb d_ZF_keepFound_104 rfl (lv_at hl 3 rfl) ?_
      obtain ⟨c_4, hf⟩ := it_n hf
      refine va_last hx hb hK hP hD hS 1 0 rfl rfl c_4 d_ZF_keepFound_105 (fun H locs hP hD hS => ?_)
      have hP : va_P (dC, dI) classes [(h0, .inr (9, [.ref zfTp, .ref zfWr, .ref zfZs, .ref zfSp, .ref zfLt, .ref zfSt, .ref zfFd, .int w0_7, .int zfFp])), (zfFd, .inl (cAzfFd, 42, .inr (.inl (vp_updL w1_a x3.toNatClampNeg x1))))] H := hP
      have hD : va_D A [(h0, .inr (9, [.ref zfTp, .ref zfWr, .ref zfZs, .ref zfSp, .ref zfLt, .ref zfSt, .ref zfFd, .int w0_7, .int zfFp])), (zfFd, .inl (cAzfFd, 42, .inr (.inl (vp_updL w1_a x3.toNatClampNeg x1))))] := hD
      refine lv_aload_n hx hb d_ZF_keepFound_106 rfl (lv_at hl 2 rfl) ?_
      refine lv_dup hx hb d_ZF_keepFound_107 rfl ?_
      refine va_get (D := (dC, dI)) (ci := 9) (v := .int w0_7) (C := RZoneFiles) (T := TZoneFiles) (N := 9) hx hb hts in_ZoneFiles hown hK hP 0 rfl rfl 7 (by decide) (hts (.fieldLink "ZoneFiles" 49 "ZoneFiles" "foundCount" "I") m_2_124) (fun _ h9 => h9) rfl d_ZF_keepFound_108 ?_
      refine lv_iconst (v := 1) hx hb d_ZF_keepFound_111 (by decide) ?_
      refine lv_iadd hx hb d_ZF_keepFound_112 ?_
      refine va_put (D := (dC, dI)) (ci := 9) (v := .int (w0_7 + 1)) (ty := .int) (C := RZoneFiles) (T := TZoneFiles) (N := 9) hx hb hts in_ZoneFiles tyZoneFiles ty_ZoneFiles nm_ZoneFiles hown hK hP hD hS 0 rfl rfl 7 (by decide) (hts (.fieldLink "ZoneFiles" 49 "ZoneFiles" "foundCount" "I") m_2_124) (fun _ h9 => h9) rfl (by decide +kernel) rfl rfl (Nat.le_of_ble_eq_true rfl) d_ZF_keepFound_113 (fun H locs hP hD hS => ?_)
      have hP : va_P (dC, dI) classes [(h0, .inr (9, [.ref zfTp, .ref zfWr, .ref zfZs, .ref zfSp, .ref zfLt, .ref zfSt, .ref zfFd, .int (w0_7 + 1), .int zfFp])), (zfFd, .inl (cAzfFd, 42, .inr (.inl (vp_updL w1_a x3.toNatClampNeg x1))))] H := hP
      have hD : va_D A [(h0, .inr (9, [.ref zfTp, .ref zfWr, .ref zfZs, .ref zfSp, .ref zfLt, .ref zfSt, .ref zfFd, .int (w0_7 + 1), .int zfFp])), (zfFd, .inl (cAzfFd, 42, .inr (.inl (vp_updL w1_a x3.toNatClampNeg x1))))] := hD
      cases rs hf
      exact hE _ _ _ _ d_ZF_keepFound_116 hP hD hS hK
    · have hf := it_f c_3 hf
      refine lv_aload_n hx hb d_ZF_keepFound_77 rfl (lv_at hl 2 rfl) ?_
      refine va_get (D := (dC, dI)) (ci := 9) (v := .ref zfFd) (C := RZoneFiles) (T := TZoneFiles) (N := 9) hx hb hts in_ZoneFiles hown hK hP 0 rfl rfl 6 (by decide) (hts (.fieldLink "ZoneFiles" 45 "ZoneFiles" "foundInstants" "[J") m_2_123) (fun _ h9 => h9) rfl d_ZF_keepFound_78 ?_
      refine lv_iload hx hb d_ZF_keepFound_81 (lv_at hl 0 rfl) ?_
      refine lv_aload_n hx hb d_ZF_keepFound_83 rfl (lv_at hl 2 rfl) ?_
      refine va_get (D := (dC, dI)) (ci := 9) (v := .ref zfFd) (C := RZoneFiles) (T := TZoneFiles) (N := 9) hx hb hts in_ZoneFiles hown hK hP 0 rfl rfl 6 (by decide) (hts (.fieldLink "ZoneFiles" 45 "ZoneFiles" "foundInstants" "[J") m_2_123) (fun _ h9 => h9) rfl d_ZF_keepFound_84 ?_
      refine lv_iload hx hb d_ZF_keepFound_87 (lv_at hl 0 rfl) ?_
      refine lv_iconst (v := 1) hx hb d_ZF_keepFound_89 (by decide) ?_
      refine lv_isub hx hb d_ZF_keepFound_90 ?_
      obtain ⟨c_5, hf⟩ := it_n hf
      refine va_lald hx hb hK hP 1 0 rfl rfl c_5 d_ZF_keepFound_91 ?_
      obtain ⟨c_6, hf⟩ := it_n hf
      refine va_last hx hb hK hP hD hS 1 0 rfl rfl c_6 d_ZF_keepFound_92 (fun H locs hP hD hS => ?_)
      have hP : va_P (dC, dI) classes [(h0, .inr (9, [.ref zfTp, .ref zfWr, .ref zfZs, .ref zfSp, .ref zfLt, .ref zfSt, .ref zfFd, .int w0_7, .int zfFp])), (zfFd, .inl (cAzfFd, 42, .inr (.inl (vp_updL w1_a x4.toNatClampNeg (w1_a (x4 - 1).toNatClampNeg)))))] H := hP
      have hD : va_D A [(h0, .inr (9, [.ref zfTp, .ref zfWr, .ref zfZs, .ref zfSp, .ref zfLt, .ref zfSt, .ref zfFd, .int w0_7, .int zfFp])), (zfFd, .inl (cAzfFd, 42, .inr (.inl (vp_updL w1_a x4.toNatClampNeg (w1_a (x4 - 1).toNatClampNeg)))))] := hD
      refine lv_iinc (v := x4 + (-1)) (lv' := [(4, .int (x4 + (-1))), (3, .int x3), (0, .ref h0), (1, .long x1)]) hx hb d_ZF_keepFound_93 hl (k := 0) rfl rfl (by decide) rfl (fun ls hl => ?_)
      refine lv_goto (tgt := 71) hx hb d_ZF_keepFound_96 (by decide) ?_
      exact ih hf hK hP hD hS (lv_sub hl [0, 1, 2, 3] rfl)
set_option maxHeartbeats 400000 in
set_option maxRecDepth 100000 in
theorem k_ZF_keepFound_52 (C0 : Cx p s m meth c args R b_ZF_keepFound "ZoneFiles" 5 none 0 0) (hST : ST A s s.heap) (hA : ∀ q, s.heap.size ≤ q → A q) (hE : ∀ (pc : Nat) (ls : Array Slot) (H : Heap) (locs : List Loc), decode b_ZF_keepFound pc = .ok (.return_, 1) → va_P (dC, dI) classes [(h0, .inr (9, [.ref zfTp, .ref zfWr, .ref zfZs, .ref zfSp, .ref zfLt, .ref zfSt, .ref zfFd, .int v0_7, .int zfFp])), (zfFd, .inl (cAzfFd, 42, .inr (.inl v1_a)))] H → va_D A [(h0, .inr (9, [.ref zfTp, .ref zfWr, .ref zfZs, .ref zfSp, .ref zfLt, .ref zfSt, .ref zfFd, .int v0_7, .int zfFp])), (zfFd, .inl (cAzfFd, 42, .inr (.inl v1_a)))] → va_S A s.heap H locs → va_K (dC, dI) classes [(cAzfFd, .long)] s → W p l e R s m args below meth c H locs 0 0 Q (F0 m pc ls [])) {x3 : Int32} {x1 : Int64} {w0_7 : Int32} {w1_a : Nat → Int64} (hf : f_ZF_keepFound_52 nf x3 x1 w0_7 w1_a = some (v0_7, v1_a)) {H : Heap} {locs : List Loc} {ls : Array Slot} (hK : va_K (dC, dI) classes [(cAzfFd, .long)] s) (hP : va_P (dC, dI) classes [(h0, .inr (9, [.ref zfTp, .ref zfWr, .ref zfZs, .ref zfSp, .ref zfLt, .ref zfSt, .ref zfFd, .int w0_7, .int zfFp])), (zfFd, .inl (cAzfFd, 42, .inr (.inl w1_a)))] H) (hD : va_D A [(h0, .inr (9, [.ref zfTp, .ref zfWr, .ref zfZs, .ref zfSp, .ref zfLt, .ref zfSt, .ref zfFd, .int w0_7, .int zfFp])), (zfFd, .inl (cAzfFd, 42, .inr (.inl w1_a)))]) (hS : va_S A s.heap H locs) (hl : lv_has ls 5 [(3, .int x3), (0, .ref h0), (1, .long x1)]) : W p l e R s m args below meth c H locs 0 0 Q (F0 m 52 ls []) := by
  obtain ⟨hx, hb, hr, hml, hown, hts, hlocks, hRf, hRl⟩ := id C0
  obtain ⟨tms, hZms, hTms, tmg, hZmg, hTmg, hNW⟩ := id hST
  unfold f_ZF_keepFound_52 at hf
  refine lv_aload_n hx hb d_ZF_keepFound_52 rfl (lv_at hl 1 rfl) ?_
  refine va_get (D := (dC, dI)) (ci := 9) (v := .int w0_7) (C := RZoneFiles) (T := TZoneFiles) (N := 9) hx hb hts in_ZoneFiles hown hK hP 0 rfl rfl 7 (by decide) (hts (.fieldLink "ZoneFiles" 49 "ZoneFiles" "foundCount" "I") m_2_124) (fun _ h9 => h9) rfl d_ZF_keepFound_53 ?_
  refine lv_aload_n hx hb d_ZF_keepFound_56 rfl (lv_at hl 1 rfl) ?_
  refine va_get (D := (dC, dI)) (ci := 9) (v := .ref zfFd) (C := RZoneFiles) (T := TZoneFiles) (N := 9) hx hb hts in_ZoneFiles hown hK hP 0 rfl rfl 6 (by decide) (hts (.fieldLink "ZoneFiles" 45 "ZoneFiles" "foundInstants" "[J") m_2_123) (fun _ h9 => h9) rfl d_ZF_keepFound_57 ?_
  refine va_alen (v := 42) hx hb hK hP 1 0 rfl rfl rfl d_ZF_keepFound_60 ?_
  refine lv_icmp_lt (tgt := 65) hx hb d_ZF_keepFound_61 (by decide) (fun c_2 => ?_) (fun c_2 => ?_)
  · have hf := it_t c_2 hf
    refine lv_aload_n hx hb d_ZF_keepFound_65 rfl (lv_at hl 1 rfl) ?_
    refine va_get (D := (dC, dI)) (ci := 9) (v := .int w0_7) (C := RZoneFiles) (T := TZoneFiles) (N := 9) hx hb hts in_ZoneFiles hown hK hP 0 rfl rfl 7 (by decide) (hts (.fieldLink "ZoneFiles" 49 "ZoneFiles" "foundCount" "I") m_2_124) (fun _ h9 => h9) rfl d_ZF_keepFound_66 ?_
    refine lv_istore (lv' := [(4, .int w0_7), (3, .int x3), (0, .ref h0), (1, .long x1)]) hx hb d_ZF_keepFound_69 hl (by decide) rfl (fun ls hl => ?_)
    exact k_ZF_keepFound_71 C0 hST hA hE nf hf hK hP hD hS (lv_sub hl [0, 1, 2, 3] rfl)
  · have hf := it_f c_2 hf
    cases rs hf
    exact hE _ _ _ _ d_ZF_keepFound_64 hP hD hS hK
set_option maxHeartbeats 400000 in
set_option maxRecDepth 100000 in
theorem k_ZF_keepFound_13 (C0 : Cx p s m meth c args R b_ZF_keepFound "ZoneFiles" 5 none 0 0) (hST : ST A s s.heap) (hA : ∀ q, s.heap.size ≤ q → A q) (hE : ∀ (pc : Nat) (ls : Array Slot) (H : Heap) (locs : List Loc), decode b_ZF_keepFound pc = .ok (.return_, 1) → va_P (dC, dI) classes [(h0, .inr (9, [.ref zfTp, .ref zfWr, .ref zfZs, .ref zfSp, .ref zfLt, .ref zfSt, .ref zfFd, .int v0_7, .int zfFp])), (zfFd, .inl (cAzfFd, 42, .inr (.inl v1_a)))] H → va_D A [(h0, .inr (9, [.ref zfTp, .ref zfWr, .ref zfZs, .ref zfSp, .ref zfLt, .ref zfSt, .ref zfFd, .int v0_7, .int zfFp])), (zfFd, .inl (cAzfFd, 42, .inr (.inl v1_a)))] → va_S A s.heap H locs → va_K (dC, dI) classes [(cAzfFd, .long)] s → W p l e R s m args below meth c H locs 0 0 Q (F0 m pc ls [])) : ∀ (n : Nat) {x4 : Int32} {x3 : Int32} {x1 : Int64} {w0_7 : Int32} {w1_a : Nat → Int64}, f_ZF_keepFound_13 nf n x4 x3 x1 w0_7 w1_a = some (v0_7, v1_a) → ∀ {H : Heap} {locs : List Loc} {ls : Array Slot}, va_K (dC, dI) classes [(cAzfFd, .long)] s → va_P (dC, dI) classes [(h0, .inr (9, [.ref zfTp, .ref zfWr, .ref zfZs, .ref zfSp, .ref zfLt, .ref zfSt, .ref zfFd, .int w0_7, .int zfFp])), (zfFd, .inl (cAzfFd, 42, .inr (.inl w1_a)))] H → va_D A [(h0, .inr (9, [.ref zfTp, .ref zfWr, .ref zfZs, .ref zfSp, .ref zfLt, .ref zfSt, .ref zfFd, .int w0_7, .int zfFp])), (zfFd, .inl (cAzfFd, 42, .inr (.inl w1_a)))] → va_S A s.heap H locs → lv_has ls 5 [(4, .int x4), (3, .int x3), (0, .ref h0), (1, .long x1)] → W p l e R s m args below meth c H locs 0 0 Q (F0 m 13 ls []) := by
  obtain ⟨hx, hb, hr, hml, hown, hts, hlocks, hRf, hRl⟩ := id C0
  obtain ⟨tms, hZms, hTms, tmg, hZmg, hTmg, hNW⟩ := id hST
  intro n
  induction n with
  | zero =>
    intro x4 x3 x1 w0_7 w1_a hf
    exact absurd hf (by simp [f_ZF_keepFound_13])
  | succ n ih =>
    intro x4 x3 x1 w0_7 w1_a hf H locs ls hK hP hD hS hl
    unfold f_ZF_keepFound_13 at hf
    refine lv_iload hx hb d_ZF_keepFound_13 (lv_at hl 0 rfl) ?_
    refine lv_if_lt (tgt := 52) hx hb d_ZF_keepFound_15 (by decide) (fun c_1 => ?_) (fun c_1 => ?_)
    · have hf := it_t c_1 hf
      exact k_ZF_keepFound_52 C0 hST hA hE hf hK hP hD hS (lv_sub hl [1, 2, 3] rfl)
    · have hf := it_f c_1 hf
      refine lv_aload_n hx hb d_ZF_keepFound_18 rfl (lv_at hl 2 rfl) ?_
      refine va_get (D := (dC, dI)) (ci := 9) (v := .ref zfFd) (C := RZoneFiles) (T := TZoneFiles) (N := 9) hx hb hts in_ZoneFiles hown hK hP 0 rfl rfl 6 (by decide) (hts (.fieldLink "ZoneFiles" 45 "ZoneFiles" "foundInstants" "[J") m_2_123) (fun _ h9 => h9) rfl d_ZF_keepFound_19 ?_
      refine lv_iload hx hb d_ZF_keepFound_22 (lv_at hl 0 rfl) ?_
      obtain ⟨c_7, hf⟩ := it_n hf
      refine va_lald hx hb hK hP 1 0 rfl rfl c_7 d_ZF_keepFound_24 ?_
      refine lv_lload_n hx hb d_ZF_keepFound_25 rfl (lv_at hl 3 rfl) ?_
      refine lc_lt (tgt := 52) hx hb d_ZF_keepFound_26 d_ZF_keepFound_27 (by decide) (fun c_8 => ?_) (fun c_8 => ?_)
      · have hf := it_t c_8 hf
        exact k_ZF_keepFound_52 C0 hST hA hE hf hK hP hD hS (lv_sub hl [1, 2, 3] rfl)
      · have hf := it_f c_8 hf
        refine lv_aload_n hx hb d_ZF_keepFound_30 rfl (lv_at hl 2 rfl) ?_
        refine va_get (D := (dC, dI)) (ci := 9) (v := .ref zfFd) (C := RZoneFiles) (T := TZoneFiles) (N := 9) hx hb hts in_ZoneFiles hown hK hP 0 rfl rfl 6 (by decide) (hts (.fieldLink "ZoneFiles" 45 "ZoneFiles" "foundInstants" "[J") m_2_123) (fun _ h9 => h9) rfl d_ZF_keepFound_31 ?_
        refine lv_iload hx hb d_ZF_keepFound_34 (lv_at hl 0 rfl) ?_
        obtain ⟨c_9, hf⟩ := it_n hf
        refine va_lald hx hb hK hP 1 0 rfl rfl c_9 d_ZF_keepFound_36 ?_
        refine lv_lload_n hx hb d_ZF_keepFound_37 rfl (lv_at hl 3 rfl) ?_
        refine lc_ne (tgt := 43) hx hb d_ZF_keepFound_38 d_ZF_keepFound_39 (by decide) (fun c_10 => ?_) (fun c_10 => ?_)
        · have hf := it_f c_10 hf
          refine lv_iload hx hb d_ZF_keepFound_43 (lv_at hl 0 rfl) ?_
          refine lv_istore_n (lv' := [(3, .int x4), (4, .int x4), (0, .ref h0), (1, .long x1)]) hx hb d_ZF_keepFound_45 rfl hl (by decide) rfl (fun ls hl => ?_)
          refine lv_iinc (v := x4 + (-1)) (lv' := [(4, .int (x4 + (-1))), (3, .int x4), (0, .ref h0), (1, .long x1)]) hx hb d_ZF_keepFound_46 hl (k := 1) rfl rfl (by decide) rfl (fun ls hl => ?_)
          refine lv_goto (tgt := 13) hx hb d_ZF_keepFound_49 (by decide) ?_
          exact ih hf hK hP hD hS (lv_sub hl [0, 1, 2, 3] rfl)
        · have hf := it_t c_10 hf
          cases rs hf
          exact hE _ _ _ _ d_ZF_keepFound_42 hP hD hS hK
set_option maxHeartbeats 400000 in
set_option maxRecDepth 100000 in
theorem k_ZF_keepFound_0 (C0 : Cx p s m meth c args R b_ZF_keepFound "ZoneFiles" 5 none 0 0) (hST : ST A s s.heap) (hA : ∀ q, s.heap.size ≤ q → A q) (hE : ∀ (pc : Nat) (ls : Array Slot) (H : Heap) (locs : List Loc), decode b_ZF_keepFound pc = .ok (.return_, 1) → va_P (dC, dI) classes [(h0, .inr (9, [.ref zfTp, .ref zfWr, .ref zfZs, .ref zfSp, .ref zfLt, .ref zfSt, .ref zfFd, .int v0_7, .int zfFp])), (zfFd, .inl (cAzfFd, 42, .inr (.inl v1_a)))] H → va_D A [(h0, .inr (9, [.ref zfTp, .ref zfWr, .ref zfZs, .ref zfSp, .ref zfLt, .ref zfSt, .ref zfFd, .int v0_7, .int zfFp])), (zfFd, .inl (cAzfFd, 42, .inr (.inl v1_a)))] → va_S A s.heap H locs → va_K (dC, dI) classes [(cAzfFd, .long)] s → W p l e R s m args below meth c H locs 0 0 Q (F0 m pc ls [])) {x1 : Int64} {w0_7 : Int32} {w1_a : Nat → Int64} (hf : f_ZF_keepFound_0 nf x1 w0_7 w1_a = some (v0_7, v1_a)) {H : Heap} {locs : List Loc} {ls : Array Slot} (hK : va_K (dC, dI) classes [(cAzfFd, .long)] s) (hP : va_P (dC, dI) classes [(h0, .inr (9, [.ref zfTp, .ref zfWr, .ref zfZs, .ref zfSp, .ref zfLt, .ref zfSt, .ref zfFd, .int w0_7, .int zfFp])), (zfFd, .inl (cAzfFd, 42, .inr (.inl w1_a)))] H) (hD : va_D A [(h0, .inr (9, [.ref zfTp, .ref zfWr, .ref zfZs, .ref zfSp, .ref zfLt, .ref zfSt, .ref zfFd, .int w0_7, .int zfFp])), (zfFd, .inl (cAzfFd, 42, .inr (.inl w1_a)))]) (hS : va_S A s.heap H locs) (hl : lv_has ls 5 [(0, .ref h0), (1, .long x1)]) : W p l e R s m args below meth c H locs 0 0 Q (F0 m 0 ls []) := by
  obtain ⟨hx, hb, hr, hml, hown, hts, hlocks, hRf, hRl⟩ := id C0
  obtain ⟨tms, hZms, hTms, tmg, hZmg, hTmg, hNW⟩ := id hST
  unfold f_ZF_keepFound_0 at hf
  refine lv_aload_n hx hb d_ZF_keepFound_0 rfl (lv_at hl 0 rfl) ?_
  refine va_get (D := (dC, dI)) (ci := 9) (v := .int w0_7) (C := RZoneFiles) (T := TZoneFiles) (N := 9) hx hb hts in_ZoneFiles hown hK hP 0 rfl rfl 7 (by decide) (hts (.fieldLink "ZoneFiles" 49 "ZoneFiles" "foundCount" "I") m_2_124) (fun _ h9 => h9) rfl d_ZF_keepFound_1 ?_
  refine lv_istore_n (lv' := [(3, .int w0_7), (0, .ref h0), (1, .long x1)]) hx hb d_ZF_keepFound_4 rfl hl (by decide) rfl (fun ls hl => ?_)
  refine lv_aload_n hx hb d_ZF_keepFound_5 rfl (lv_at hl 1 rfl) ?_
  refine va_get (D := (dC, dI)) (ci := 9) (v := .int w0_7) (C := RZoneFiles) (T := TZoneFiles) (N := 9) hx hb hts in_ZoneFiles hown hK hP 0 rfl rfl 7 (by decide) (hts (.fieldLink "ZoneFiles" 49 "ZoneFiles" "foundCount" "I") m_2_124) (fun _ h9 => h9) rfl d_ZF_keepFound_6 ?_
  refine lv_iconst (v := 1) hx hb d_ZF_keepFound_9 (by decide) ?_
  refine lv_isub hx hb d_ZF_keepFound_10 ?_
  refine lv_istore (lv' := [(4, .int (w0_7 - 1)), (3, .int w0_7), (0, .ref h0), (1, .long x1)]) hx hb d_ZF_keepFound_11 hl (by decide) rfl (fun ls hl => ?_)
  exact k_ZF_keepFound_13 C0 hST hA hE nf hf hK hP hD hS (lv_sub hl [0, 1, 2, 3] rfl)
end
set_option maxHeartbeats 400000 in
set_option maxRecDepth 100000 in
theorem c_ZF_keepFound (l : Launch) (dC : Nat → ClassId) (dI : Nat → Nat → Nat) (h0 : Nat) (zfTp : Nat) (zfWr : Nat) (zfZs : Nat) (zfSp : Nat) (zfLt : Nat) (zfSt : Nat) (zfFd : Nat) (cAzfFd : ClassId) (sz : Nat) (nf : Nat) (p0 : Int64) (zfFc : Int32) (zfFp : Int32) (fdA : Nat → Int64) {v0_7 : Int32} {v1_a : Nat → Int64} (hf : f_ZF_keepFound nf p0 zfFc fdA = some (v0_7, v1_a)) : Met l y_ZF_keepFound (wd y_ZF_keepFound b_ZF_keepFound 5 none) ({ frames := 0, cells := 0, slots := 0, locals := 0 }) (MU dC dI [(h0, .inr (9, [.ref zfTp, .ref zfWr, .ref zfZs, .ref zfSp, .ref zfLt, .ref zfSt, .ref zfFd, .int zfFc, .int zfFp])), (zfFd, .inl (cAzfFd, 42, .inr (.inl fdA)))] [(cAzfFd, .long)] sz [.ref h0, .long p0]) (MV none (fun t => va_P (dC, dI) classes [(h0, .inr (9, [.ref zfTp, .ref zfWr, .ref zfZs, .ref zfSp, .ref zfLt, .ref zfSt, .ref zfFd, .int v0_7, .int zfFp])), (zfFd, .inl (cAzfFd, 42, .inr (.inl v1_a)))] t.heap ∧ va_K (dC, dI) classes [(cAzfFd, .long)] t ∧ va_D (va_A [(h0, .inr (9, [.ref zfTp, .ref zfWr, .ref zfZs, .ref zfSp, .ref zfLt, .ref zfSt, .ref zfFd, .int zfFc, .int zfFp])), (zfFd, .inl (cAzfFd, 42, .inr (.inl fdA)))] sz) [(h0, .inr (9, [.ref zfTp, .ref zfWr, .ref zfZs, .ref zfSp, .ref zfLt, .ref zfSt, .ref zfFd, .int v0_7, .int zfFp])), (zfFd, .inl (cAzfFd, 42, .inr (.inl v1_a)))]) (va_A [(h0, .inr (9, [.ref zfTp, .ref zfWr, .ref zfZs, .ref zfSp, .ref zfLt, .ref zfSt, .ref zfFd, .int zfFc, .int zfFp])), (zfFd, .inl (cAzfFd, 42, .inr (.inl fdA)))] sz)) 0 0 (va_A [(h0, .inr (9, [.ref zfTp, .ref zfWr, .ref zfZs, .ref zfSp, .ref zfLt, .ref zfSt, .ref zfFd, .int zfFc, .int zfFp])), (zfFd, .inl (cAzfFd, 42, .inr (.inl fdA)))] sz) :=
  met_M (plainFor_of_name (by decide)) (Nat.le_of_ble_eq_true rfl) (fun p e R s m args below meth c ls hRc hRs hsz hin C0 hST hK hP hD hl => by
    obtain ⟨hx, hb, hr, hml, hown, hts, hlocks, hRf, hRl⟩ := id C0
    subst hsz
    have hA : ∀ q : Nat, s.heap.size ≤ q → va_A [(h0, .inr (9, [.ref zfTp, .ref zfWr, .ref zfZs, .ref zfSp, .ref zfLt, .ref zfSt, .ref zfFd, .int zfFc, .int zfFp])), (zfFd, .inl (cAzfFd, 42, .inr (.inl fdA)))] s.heap.size q := fun q h => Or.inr h
    have hS : va_S (va_A [(h0, .inr (9, [.ref zfTp, .ref zfWr, .ref zfZs, .ref zfSp, .ref zfLt, .ref zfSt, .ref zfFd, .int zfFc, .int zfFp])), (zfFd, .inl (cAzfFd, 42, .inr (.inl fdA)))] s.heap.size) s.heap s.heap [] := va_S.rf
    unfold f_ZF_keepFound at hf
    exact k_ZF_keepFound_0 C0 hST hA (fun pc ls H locs hd hP hD hS hK => W.vret hx hb hr (fun t ht hW => ⟨⟨rfl, ⟨by rw [ht]; exact hP, va_K.moved hW.alike hK, hD⟩⟩, hS.F ht⟩) hS.2.2 hd) hf hK hP hD hS (lv_sub hl [0, 1] rfl))
-- ZoneFiles.feed(IJ)I
def f_ZF_feed_11 (nf : Nat) (w1_1 : Int32) (w2_n : Nat) (w2_a : Nat → Int32) : Option ((Int32 × Int32 × Nat × (Nat → Int32)) × Nat × Nat) :=
  none
def f_ZF_feed_49 (nf : Nat) : Nat → Int32 → Int32 → Int64 → Int32 → Nat → (Nat → Int32) → Option ((Int32 × Int32 × Nat × (Nat → Int32)) × Nat × Nat)
  | 0, _, _, _, _, _, _ => none
  | n + 1, x4, x1, x2, w1_1, w2_n, w2_a =>
    if x1 ≤ x4 then
    some ((w1_1, w1_1, w2_n, w2_a), 0, 0)
    else
    (f_By_put nf (((x2.toUInt64 >>> ((8 * x4).toInt64.toUInt64 &&& Int64.toUInt64 63)).toInt64).toInt32) w1_1 w2_n w2_a).bind fun ((z_5, z_6, z_7), kc_10, ks_11) =>
      ad kc_10 ks_11 (f_ZF_feed_49 nf n (x4 + 1) x1 x2 z_5 z_6 z_7)
def f_ZF_feed_0 (nf : Nat) (x1 : Int32) (x2 : Int64) (w1_1 : Int32) (w2_n : Nat) (w2_a : Nat → Int32) : Option ((Int32 × Int32 × Nat × (Nat → Int32)) × Nat × Nat) :=
  if x1 < (1 : Int32) then
  f_ZF_feed_11 nf w1_1 w2_n w2_a
  else
  if x1 ≤ (8 : Int32) then
    if (w1_1 + x1) ≤ (6000 : Int32) then
      f_ZF_feed_49 nf nf 0 x1 x2 w1_1 w2_n w2_a
      else
      none
    else
    f_ZF_feed_11 nf w1_1 w2_n w2_a
def f_ZF_feed (nf : Nat) (p0 : Int32) (p1 : Int64) (tpS : Int32) (tpN : Nat) (tpA : Nat → Int32) : Option ((Int32 × Int32 × Nat × (Nat → Int32)) × Nat × Nat) :=
  f_ZF_feed_0 nf p0 p1 tpS tpN tpA
section
variable {p : Program} {l : Launch} {e : Env} {R : Room} {s : State} {m : MethodId} {args : Array Value} {below : List Frame} {meth : Method} {c : Code} {Q : State → Prop} {dC : Nat → ClassId} {dI : Nat → Nat → Nat} {nf : Nat} {A : Nat → Prop}
variable {h0 : Nat} {zfTp : Nat} {zfWr : Nat} {zfZs : Nat} {zfSp : Nat} {zfLt : Nat} {zfSt : Nat} {zfFd : Nat} {tpR : Nat} {cAtpR : ClassId} {zfFc : Int32} {zfFp : Int32} {tpS : Int32} {tpN : Nat} {tpA : Nat → Int32} {r0 : Int32} {v1_1 : Int32} {v2_n : Nat} {v2_a : Nat → Int32}
set_option maxHeartbeats 400000 in
set_option maxRecDepth 100000 in
theorem k_ZF_feed_11 (C0 : Cx p s m meth c args R b_ZF_feed "ZoneFiles" 5 (some .int) 3 62) (hST : ST A s s.heap) (hA : ∀ q, s.heap.size ≤ q → A q) (hE : ∀ (pc : Nat) (ls : Array Slot) {q2 : Nat} {nA2 : ClassId} (H : Heap) (locs : List Loc), decode b_ZF_feed pc = .ok (.ireturn, 1) → narrow .int (.int r0) = .int r0 → va_P (dC, dI) classes [(h0, .inr (9, [.ref zfTp, .ref zfWr, .ref zfZs, .ref zfSp, .ref zfLt, .ref zfSt, .ref zfFd, .int zfFc, .int zfFp])), (zfTp, .inr (0, [.ref q2, .int v1_1])), (q2, .inl (nA2, v2_n, .inl v2_a))] H → va_D A [(h0, .inr (9, [.ref zfTp, .ref zfWr, .ref zfZs, .ref zfSp, .ref zfLt, .ref zfSt, .ref zfFd, .int zfFc, .int zfFp])), (zfTp, .inr (0, [.ref q2, .int v1_1])), (q2, .inl (nA2, v2_n, .inl v2_a))] → va_S A s.heap H locs → va_K (dC, dI) classes [(nA2, .byte)] s → W p l e R s m args below meth c H locs R.cells R.slots Q (F0 m pc ls [.int r0])) {w1_1 : Int32} {w2_n : Nat} {w2_a : Nat → Int32} {kc ks : Nat} (hf : f_ZF_feed_11 nf w1_1 w2_n w2_a = some ((r0, v1_1, v2_n, v2_a), kc, ks)) {q2 : Nat} {nA2 : ClassId} {cells slots : Nat} {H : Heap} {locs : List Loc} {ls : Array Slot} (hK : va_K (dC, dI) classes [(nA2, .byte)] s) (hP : va_P (dC, dI) classes [(h0, .inr (9, [.ref zfTp, .ref zfWr, .ref zfZs, .ref zfSp, .ref zfLt, .ref zfSt, .ref zfFd, .int zfFc, .int zfFp])), (zfTp, .inr (0, [.ref q2, .int w1_1])), (q2, .inl (nA2, w2_n, .inl w2_a))] H) (hD : va_D A [(h0, .inr (9, [.ref zfTp, .ref zfWr, .ref zfZs, .ref zfSp, .ref zfLt, .ref zfSt, .ref zfFd, .int zfFc, .int zfFp])), (zfTp, .inr (0, [.ref q2, .int w1_1])), (q2, .inl (nA2, w2_n, .inl w2_a))]) (hS : va_S A s.heap H locs) (hkc : cells + kc = R.cells) (hks : slots + ks = R.slots) (hl : lv_has ls 5 []) : W p l e R s m args below meth c H locs cells slots Q (F0 m 11 ls []) := by
  obtain ⟨hx, hb, hr, hml, hown, hts, hlocks, hRf, hRl⟩ := id C0
  obtain ⟨tms, hZms, hTms, tmg, hZmg, hTmg, hNW⟩ := id hST
  unfold f_ZF_feed_11 at hf
  exact absurd hf (by simp)
set_option maxHeartbeats 400000 in
set_option maxRecDepth 100000 in
theorem k_ZF_feed_49 (C0 : Cx p s m meth c args R b_ZF_feed "ZoneFiles" 5 (some .int) 3 62) (hST : ST A s s.heap) (hA : ∀ q, s.heap.size ≤ q → A q) (hE : ∀ (pc : Nat) (ls : Array Slot) {q2 : Nat} {nA2 : ClassId} (H : Heap) (locs : List Loc), decode b_ZF_feed pc = .ok (.ireturn, 1) → narrow .int (.int r0) = .int r0 → va_P (dC, dI) classes [(h0, .inr (9, [.ref zfTp, .ref zfWr, .ref zfZs, .ref zfSp, .ref zfLt, .ref zfSt, .ref zfFd, .int zfFc, .int zfFp])), (zfTp, .inr (0, [.ref q2, .int v1_1])), (q2, .inl (nA2, v2_n, .inl v2_a))] H → va_D A [(h0, .inr (9, [.ref zfTp, .ref zfWr, .ref zfZs, .ref zfSp, .ref zfLt, .ref zfSt, .ref zfFd, .int zfFc, .int zfFp])), (zfTp, .inr (0, [.ref q2, .int v1_1])), (q2, .inl (nA2, v2_n, .inl v2_a))] → va_S A s.heap H locs → va_K (dC, dI) classes [(nA2, .byte)] s → W p l e R s m args below meth c H locs R.cells R.slots Q (F0 m pc ls [.int r0])) : ∀ (n : Nat) {x4 : Int32} {x1 : Int32} {x2 : Int64} {w1_1 : Int32} {w2_n : Nat} {w2_a : Nat → Int32} {kc ks : Nat}, f_ZF_feed_49 nf n x4 x1 x2 w1_1 w2_n w2_a = some ((r0, v1_1, v2_n, v2_a), kc, ks) → ∀ {q2 : Nat} {nA2 : ClassId} {cells slots : Nat} {H : Heap} {locs : List Loc} {ls : Array Slot}, va_K (dC, dI) classes [(nA2, .byte)] s → va_P (dC, dI) classes [(h0, .inr (9, [.ref zfTp, .ref zfWr, .ref zfZs, .ref zfSp, .ref zfLt, .ref zfSt, .ref zfFd, .int zfFc, .int zfFp])), (zfTp, .inr (0, [.ref q2, .int w1_1])), (q2, .inl (nA2, w2_n, .inl w2_a))] H → va_D A [(h0, .inr (9, [.ref zfTp, .ref zfWr, .ref zfZs, .ref zfSp, .ref zfLt, .ref zfSt, .ref zfFd, .int zfFc, .int zfFp])), (zfTp, .inr (0, [.ref q2, .int w1_1])), (q2, .inl (nA2, w2_n, .inl w2_a))] → va_S A s.heap H locs → cells + kc = R.cells → slots + ks = R.slots → lv_has ls 5 [(4, .int x4), (0, .ref h0), (1, .int x1), (2, .long x2)] → W p l e R s m args below meth c H locs cells slots Q (F0 m 49 ls []) := by
  obtain ⟨hx, hb, hr, hml, hown, hts, hlocks, hRf, hRl⟩ := id C0
  obtain ⟨tms, hZms, hTms, tmg, hZmg, hTmg, hNW⟩ := id hST
  intro n
  induction n with
  | zero =>
    intro x4 x1 x2 w1_1 w2_n w2_a kc ks hf
    exact absurd hf (by simp [f_ZF_feed_49])
  | succ n ih =>
    intro x4 x1 x2 w1_1 w2_n w2_a kc ks hf q2 nA2 cells slots H locs ls hK hP hD hS hkc hks hl
    unfold f_ZF_feed_49 at hf
    refine lv_iload hx hb d_ZF_feed_49 (lv_at hl 0 rfl) ?_
    refine lv_iload_n hx hb d_ZF_feed_51 rfl (lv_at hl 2 rfl) ?_
    refine lv_icmp_ge (tgt := 76) hx hb d_ZF_feed_52 (by decide) (fun c_4 => ?_) (fun c_4 => ?_)
    · have hf := it_t c_4 hf
      refine lv_aload_n hx hb d_ZF_feed_76 rfl (lv_at hl 1 rfl) ?_
      refine va_get (D := (dC, dI)) (ci := 9) (v := .ref zfTp) (C := RZoneFiles) (T := TZoneFiles) (N := 9) hx hb hts in_ZoneFiles hown hK hP 0 rfl rfl 0 (by decide) (hts (.fieldLink "ZoneFiles" 12 "ZoneFiles" "tape" "LZoneFiles$Bytes;") m_2_117) (fun _ h9 => h9) rfl d_ZF_feed_77 ?_
      refine va_get (D := (dC, dI)) (ci := 0) (v := .int w1_1) (C := RBytes) (T := TBytes) (N := 2) hx hb hts in_Bytes hown hK hP 1 rfl rfl 1 (by decide) (hts (.fieldLink "ZoneFiles" 63 "ZoneFiles$Bytes" "size" "I") m_1_39) (fun _ h9 => h9) rfl d_ZF_feed_80 ?_
      cases rs hf
      have hkc : cells = R.cells := hkc
      have hks : slots = R.slots := hks
      subst hkc; subst hks
      exact hE _ _ _ _ d_ZF_feed_83 rfl hP hD hS hK
    · have hf := it_f c_4 hf
      refine lv_aload_n hx hb d_ZF_feed_55 rfl (lv_at hl 1 rfl) ?_
      refine va_get (D := (dC, dI)) (ci := 9) (v := .ref zfTp) (C := RZoneFiles) (T := TZoneFiles) (N := 9) hx hb hts in_ZoneFiles hown hK hP 0 rfl rfl 0 (by decide) (hts (.fieldLink "ZoneFiles" 12 "ZoneFiles" "tape" "LZoneFiles$Bytes;") m_2_117) (fun _ h9 => h9) rfl d_ZF_feed_56 ?_
      refine lv_lload_n hx hb d_ZF_feed_59 rfl (lv_at hl 3 rfl) ?_
      refine lv_bipush (v := 8) hx hb d_ZF_feed_60 (by decide) ?_
      refine lv_iload hx hb d_ZF_feed_62 (lv_at hl 0 rfl) ?_
      refine lv_imul hx hb d_ZF_feed_64 ?_
      refine lv_lushr hx hb d_ZF_feed_65 rfl ?_
      refine lv_l2i hx hb d_ZF_feed_66 rfl ?_
      obtain ⟨⟨⟨z_5, z_6, z_7⟩, kc_10, ks_11⟩, hc, hf⟩ := ob hf
      obtain ⟨kc, ks, hf, ekc, eks⟩ := oa hf
      have hPc := hP.sub (ws' := [(zfTp, .inr (0, [.ref q2, .int w1_1])), (q2, .inl (nA2, w2_n, .inl w2_a))]) [1, 2] rfl
      have hDc := hD.sub (ws' := [(zfTp, .inr (0, [.ref q2, .int w1_1])), (q2, .inl (nA2, w2_n, .inl w2_a))]) [1, 2] (by decide) rfl
      have hKc := hK.sub (tys' := [(nA2, .byte)]) [0] rfl
      have hFc := va_free (wc := [(zfTp, .inr (0, [.ref q2, .int w1_1])), (q2, .inl (nA2, w2_n, .inl w2_a))]) hD hS hA [1, 2] rfl
      refine cl_M (v := none) (st1 := []) (va_runV (As := [.int (((x2.toUInt64 >>> ((8 * x4).toInt64.toUInt64 &&& Int64.toUInt64 63)).toInt64).toInt32)]) (rest := []) ⟨hx, hb, hml, hown, hts⟩ (c_By_put l dC dI zfTp q2 nA2 H.size nf (((x2.toUInt64 >>> ((8 * x4).toInt64.toUInt64 &&& Int64.toUInt64 63)).toInt64).toInt32) w1_1 w2_n w2_a hc) (cwV 1 hts (gdV m_3_122 m_2_38 m_2_39 m_1_2 m_2_40) rfl rfl rfl (by decide +kernel) ⟨Nat.le_trans (Nat.le_of_ble_eq_true rfl) hRf, Nat.le_trans (Nat.le_of_ble_eq_true rfl) hRl⟩) ((MU.pre hPc hKc hDc (hST.mu hS hFc)).vir (va_recv hKc hPc (ci := 0) (q0 := 0) rfl rfl)) rfl rfl hl.1 rfl (lv_room (Nat.le_of_ble_eq_true rfl)) d_ZF_feed_67 ⟨cb hkc ekc, cb hks eks⟩) rfl hS (fun q _ h => hFc q h) hFc (fun t H1 locs ht hvm hB hz1 hk1 hS => ?_)
      obtain ⟨q_8, cq_9, hP1, hK1, hD1⟩ := hB
      rw [ht] at hP1
      have hK1 := va_K.moved hvm.symm hK1
      obtain ⟨hP, hD⟩ := va_join (wr := [(h0, .inr (9, [.ref zfTp, .ref zfWr, .ref zfZs, .ref zfSp, .ref zfLt, .ref zfSt, .ref zfFd, .int zfFc, .int zfFp]))]) (w1 := [(zfTp, .inr (0, [.ref q_8, .int z_5])), (q_8, .inl (cq_9, z_6, .inl z_7))]) hP hD [1, 2] [0] rfl rfl (by decide) (by decide) hk1 hFc hP1 hD1
      have hK := (hK.sub (tys' := []) [] rfl).app hK1
      generalize H1 = H at hP hS ⊢
      have hP := hP.sub (ws' := [(h0, .inr (9, [.ref zfTp, .ref zfWr, .ref zfZs, .ref zfSp, .ref zfLt, .ref zfSt, .ref zfFd, .int zfFc, .int zfFp])), (zfTp, .inr (0, [.ref q_8, .int z_5])), (q_8, .inl (cq_9, z_6, .inl z_7))]) [0, 1, 2] rfl
      have hD := hD.sub (ws' := [(h0, .inr (9, [.ref zfTp, .ref zfWr, .ref zfZs, .ref zfSp, .ref zfLt, .ref zfSt, .ref zfFd, .int zfFc, .int zfFp])), (zfTp, .inr (0, [.ref q_8, .int z_5])), (q_8, .inl (cq_9, z_6, .inl z_7))]) [0, 1, 2] (by decide) rfl
      have hK := hK.sub (tys' := [(cq_9, .byte)]) [0] rfl
      have hkc := ck hkc ekc
      have hks := ck hks eks
      generalize cells + kc_10 = cells at hkc ⊢
      generalize slots + ks_11 = slots at hks ⊢
      refine lv_iinc (v := x4 + 1) (lv' := [(4, .int (x4 + 1)), (0, .ref h0), (1, .int x1), (2, .long x2)]) hx hb d_ZF_feed_70 hl (k := 0) rfl rfl (by decide) rfl (fun ls hl => ?_)
      refine lv_goto (tgt := 49) hx hb d_ZF_feed_73 (by decide) ?_
      exact ih hf hK hP hD hS hkc hks (lv_sub hl [0, 1, 2, 3] rfl)
set_option maxHeartbeats 400000 in
set_option maxRecDepth 100000 in
theorem k_ZF_feed_0 (C0 : Cx p s m meth c args R b_ZF_feed "ZoneFiles" 5 (some .int) 3 62) (hST : ST A s s.heap) (hA : ∀ q, s.heap.size ≤ q → A q) (hE : ∀ (pc : Nat) (ls : Array Slot) {q2 : Nat} {nA2 : ClassId} (H : Heap) (locs : List Loc), decode b_ZF_feed pc = .ok (.ireturn, 1) → narrow .int (.int r0) = .int r0 → va_P (dC, dI) classes [(h0, .inr (9, [.ref zfTp, .ref zfWr, .ref zfZs, .ref zfSp, .ref zfLt, .ref zfSt, .ref zfFd, .int zfFc, .int zfFp])), (zfTp, .inr (0, [.ref q2, .int v1_1])), (q2, .inl (nA2, v2_n, .inl v2_a))] H → va_D A [(h0, .inr (9, [.ref zfTp, .ref zfWr, .ref zfZs, .ref zfSp, .ref zfLt, .ref zfSt, .ref zfFd, .int zfFc, .int zfFp])), (zfTp, .inr (0, [.ref q2, .int v1_1])), (q2, .inl (nA2, v2_n, .inl v2_a))] → va_S A s.heap H locs → va_K (dC, dI) classes [(nA2, .byte)] s → W p l e R s m args below meth c H locs R.cells R.slots Q (F0 m pc ls [.int r0])) {x1 : Int32} {x2 : Int64} {w1_1 : Int32} {w2_n : Nat} {w2_a : Nat → Int32} {kc ks : Nat} (hf : f_ZF_feed_0 nf x1 x2 w1_1 w2_n w2_a = some ((r0, v1_1, v2_n, v2_a), kc, ks)) {q2 : Nat} {nA2 : ClassId} {cells slots : Nat} {H : Heap} {locs : List Loc} {ls : Array Slot} (hK : va_K (dC, dI) classes [(nA2, .byte)] s) (hP : va_P (dC, dI) classes [(h0, .inr (9, [.ref zfTp, .ref zfWr, .ref zfZs, .ref zfSp, .ref zfLt, .ref zfSt, .ref zfFd, .int zfFc, .int zfFp])), (zfTp, .inr (0, [.ref q2, .int w1_1])), (q2, .inl (nA2, w2_n, .inl w2_a))] H) (hD : va_D A [(h0, .inr (9, [.ref zfTp, .ref zfWr, .ref zfZs, .ref zfSp, .ref zfLt, .ref zfSt, .ref zfFd, .int zfFc, .int zfFp])), (zfTp, .inr (0, [.ref q2, .int w1_1])), (q2, .inl (nA2, w2_n, .inl w2_a))]) (hS : va_S A s.heap H locs) (hkc : cells + kc = R.cells) (hks : slots + ks = R.slots) (hl : lv_has ls 5 [(0, .ref h0), (1, .int x1), (2, .long x2)]) : W p l e R s m args below meth c H locs cells slots Q (F0 m 0 ls []) := by
  obtain ⟨hx, hb, hr, hml, hown, hts, hlocks, hRf, hRl⟩ := id C0
  obtain ⟨tms, hZms, hTms, tmg, hZmg, hTmg, hNW⟩ := id hST
  unfold f_ZF_feed_0 at hf
  refine lv_iload_n hx hb d_ZF_feed_0 rfl (lv_at hl 1 rfl) ?_
  refine lv_iconst (v := 1) hx hb d_ZF_feed_1 (by decide) ?_
  refine lv_icmp_lt (tgt := 11) hx hb d_ZF_feed_2 (by decide) (fun c_1 => ?_) (fun c_1 => ?_)
  · have hf := it_t c_1 hf
    exact k_ZF_feed_11 C0 hST hA hE hf hK hP hD hS hkc hks (lv_sub hl [] rfl)
  · have hf := it_f c_1 hf
    refine lv_iload_n hx hb d_ZF_feed_5 rfl (lv_at hl 1 rfl) ?_
    refine lv_bipush (v := 8) hx hb d_ZF_feed_6 (by decide) ?_
    refine lv_icmp_le (tgt := 21) hx hb d_ZF_feed_8 (by decide) (fun c_2 => ?_) (fun c_2 => ?_)
    · have hf := it_t c_2 hf
      refine lv_aload_n hx hb d_ZF_feed_21 rfl (lv_at hl 0 rfl) ?_
      refine va_get (D := (dC, dI)) (ci := 9) (v := .ref zfTp) (C := RZoneFiles) (T := TZoneFiles) (N := 9) hx hb hts in_ZoneFiles hown hK hP 0 rfl rfl 0 (by decide) (hts (.fieldLink "ZoneFiles" 12 "ZoneFiles" "tape" "LZoneFiles$Bytes;") m_2_117) (fun _ h9 => h9) rfl d_ZF_feed_22 ?_
      refine va_get (D := (dC, dI)) (ci := 0) (v := .int w1_1) (C := RBytes) (T := TBytes) (N := 2) hx hb hts in_Bytes hown hK hP 1 rfl rfl 1 (by decide) (hts (.fieldLink "ZoneFiles" 63 "ZoneFiles$Bytes" "size" "I") m_1_39) (fun _ h9 => h9) rfl d_ZF_feed_25 ?_
      refine lv_iload_n hx hb d_ZF_feed_28 rfl (lv_at hl 1 rfl) ?_
      refine lv_iadd hx hb d_ZF_feed_29 ?_
      refine lv_sipush (v := 6000) hx hb d_ZF_feed_30 (by decide) ?_
      refine lv_icmp_le (tgt := 46) hx hb d_ZF_feed_33 (by decide) (fun c_3 => ?_) (fun c_3 => ?_)
      · have hf := it_t c_3 hf
        refine lv_iconst (v := 0) hx hb d_ZF_feed_46 (by decide) ?_
        refine lv_istore (lv' := [(4, .int 0), (0, .ref h0), (1, .int x1), (2, .long x2)]) hx hb d_ZF_feed_47 hl (by decide) rfl (fun ls hl => ?_)
        exact k_ZF_feed_49 C0 hST hA hE nf hf hK hP hD hS hkc hks (lv_sub hl [0, 1, 2, 3] rfl)
      · have hf := it_f c_3 hf
        exact absurd hf (by simp)
    · have hf := it_f c_2 hf
      exact k_ZF_feed_11 C0 hST hA hE hf hK hP hD hS hkc hks (lv_sub hl [] rfl)
end
set_option maxHeartbeats 400000 in
set_option maxRecDepth 100000 in
theorem c_ZF_feed (l : Launch) (dC : Nat → ClassId) (dI : Nat → Nat → Nat) (h0 : Nat) (zfTp : Nat) (zfWr : Nat) (zfZs : Nat) (zfSp : Nat) (zfLt : Nat) (zfSt : Nat) (zfFd : Nat) (tpR : Nat) (cAtpR : ClassId) (sz : Nat) (nf : Nat) (p0 : Int32) (p1 : Int64) (zfFc : Int32) (zfFp : Int32) (tpS : Int32) (tpN : Nat) (tpA : Nat → Int32) {r0 : Int32} {v1_1 : Int32} {v2_n : Nat} {v2_a : Nat → Int32} {kc ks : Nat} (hf : f_ZF_feed nf p0 p1 tpS tpN tpA = some ((r0, v1_1, v2_n, v2_a), kc, ks)) : Met l y_ZF_feed (wd y_ZF_feed b_ZF_feed 5 (some .int)) ({ frames := 3, cells := kc, slots := ks, locals := 62 }) (MU dC dI [(h0, .inr (9, [.ref zfTp, .ref zfWr, .ref zfZs, .ref zfSp, .ref zfLt, .ref zfSt, .ref zfFd, .int zfFc, .int zfFp])), (zfTp, .inr (0, [.ref tpR, .int tpS])), (tpR, .inl (cAtpR, tpN, .inl tpA))] [(cAtpR, .byte)] sz [.ref h0, .int p0, .long p1]) (MV (some (.int r0)) (fun t => ∃ (q2 : Nat) (nA2 : ClassId), va_P (dC, dI) classes [(h0, .inr (9, [.ref zfTp, .ref zfWr, .ref zfZs, .ref zfSp, .ref zfLt, .ref zfSt, .ref zfFd, .int zfFc, .int zfFp])), (zfTp, .inr (0, [.ref q2, .int v1_1])), (q2, .inl (nA2, v2_n, .inl v2_a))] t.heap ∧ va_K (dC, dI) classes [(nA2, .byte)] t ∧ va_D (va_A [(h0, .inr (9, [.ref zfTp, .ref zfWr, .ref zfZs, .ref zfSp, .ref zfLt, .ref zfSt, .ref zfFd, .int zfFc, .int zfFp])), (zfTp, .inr (0, [.ref tpR, .int tpS])), (tpR, .inl (cAtpR, tpN, .inl tpA))] sz) [(h0, .inr (9, [.ref zfTp, .ref zfWr, .ref zfZs, .ref zfSp, .ref zfLt, .ref zfSt, .ref zfFd, .int zfFc, .int zfFp])), (zfTp, .inr (0, [.ref q2, .int v1_1])), (q2, .inl (nA2, v2_n, .inl v2_a))]) (va_A [(h0, .inr (9, [.ref zfTp, .ref zfWr, .ref zfZs, .ref zfSp, .ref zfLt, .ref zfSt, .ref zfFd, .int zfFc, .int zfFp])), (zfTp, .inr (0, [.ref tpR, .int tpS])), (tpR, .inl (cAtpR, tpN, .inl tpA))] sz)) kc ks (va_A [(h0, .inr (9, [.ref zfTp, .ref zfWr, .ref zfZs, .ref zfSp, .ref zfLt, .ref zfSt, .ref zfFd, .int zfFc, .int zfFp])), (zfTp, .inr (0, [.ref tpR, .int tpS])), (tpR, .inl (cAtpR, tpN, .inl tpA))] sz) :=
  met_M (plainFor_of_name (by decide)) (Nat.le_of_ble_eq_true rfl) (fun p e R s m args below meth c ls hRc hRs hsz hin C0 hST hK hP hD hl => by
    obtain ⟨hx, hb, hr, hml, hown, hts, hlocks, hRf, hRl⟩ := id C0
    subst hRc; subst hRs
    subst hsz
    have hA : ∀ q : Nat, s.heap.size ≤ q → va_A [(h0, .inr (9, [.ref zfTp, .ref zfWr, .ref zfZs, .ref zfSp, .ref zfLt, .ref zfSt, .ref zfFd, .int zfFc, .int zfFp])), (zfTp, .inr (0, [.ref tpR, .int tpS])), (tpR, .inl (cAtpR, tpN, .inl tpA))] s.heap.size q := fun q h => Or.inr h
    have hS : va_S (va_A [(h0, .inr (9, [.ref zfTp, .ref zfWr, .ref zfZs, .ref zfSp, .ref zfLt, .ref zfSt, .ref zfFd, .int zfFc, .int zfFp])), (zfTp, .inr (0, [.ref tpR, .int tpS])), (tpR, .inl (cAtpR, tpN, .inl tpA))] s.heap.size) s.heap s.heap [] := va_S.rf
    have hkc := Nat.zero_add R.cells
    have hks := Nat.zero_add R.slots
    unfold f_ZF_feed at hf
    exact k_ZF_feed_0 C0 hST hA (fun pc ls {q2} {nA2} H locs hd hn hP hD hS hK => W.zret hx hb hr hn (fun t ht hW => ⟨⟨rfl, ⟨q2, nA2, by rw [ht]; exact hP, va_K.moved hW.alike hK, hD⟩⟩, hS.F ht⟩) hS.2.2 hd) hf hK hP hD hS hkc hks (lv_sub hl [0, 1, 2] rfl))
-- ZoneFiles.place()I
def f_ZF_place_0 (nf : Nat) (zfFp : Int32) : Option (Int32) :=
  some zfFp
def f_ZF_place (nf : Nat) (zfFp : Int32) : Option (Int32) :=
  f_ZF_place_0 nf zfFp
section
variable {p : Program} {l : Launch} {e : Env} {R : Room} {s : State} {m : MethodId} {args : Array Value} {below : List Frame} {meth : Method} {c : Code} {Q : State → Prop} {dC : Nat → ClassId} {dI : Nat → Nat → Nat} {nf : Nat}
variable {h0 : Nat} {zfTp : Nat} {zfWr : Nat} {zfZs : Nat} {zfSp : Nat} {zfLt : Nat} {zfSt : Nat} {zfFd : Nat} {zfFc : Int32} {zfFp : Int32} {r0 : Int32}
set_option maxHeartbeats 400000 in
set_option maxRecDepth 100000 in
theorem k_ZF_place_0 (C0 : Cx p s m meth c args R b_ZF_place "ZoneFiles" 1 (some .int) 0 0) (hST : ST (fun _ => False) s s.heap) (hK : va_K (dC, dI) classes [] s) (hP : va_P (dC, dI) classes [(h0, .inr (9, [.ref zfTp, .ref zfWr, .ref zfZs, .ref zfSp, .ref zfLt, .ref zfSt, .ref zfFd, .int zfFc, .int zfFp]))] s.heap) (hE : ∀ (pc : Nat) (ls : Array Slot), decode b_ZF_place pc = .ok (.ireturn, 1) → narrow .int (.int r0) = .int r0 → W p l e R s m args below meth c s.heap [] 0 0 Q (F0 m pc ls [.int r0])) (hf : f_ZF_place_0 nf zfFp = some r0) {ls : Array Slot} (hl : lv_has ls 1 [(0, .ref h0)]) : W p l e R s m args below meth c s.heap [] 0 0 Q (F0 m 0 ls []) := by
  obtain ⟨hx, hb, hr, hml, hown, hts, hlocks, hRf, hRl⟩ := id C0
  obtain ⟨tms, hZms, hTms, tmg, hZmg, hTmg, hNW⟩ := id hST
  unfold f_ZF_place_0 at hf
  refine lv_aload_n hx hb d_ZF_place_0 rfl (lv_at hl 0 rfl) ?_
  refine va_get (D := (dC, dI)) (ci := 9) (v := .int zfFp) (C := RZoneFiles) (T := TZoneFiles) (N := 9) hx hb hts in_ZoneFiles hown hK hP 0 rfl rfl 8 (by decide) (hts (.fieldLink "ZoneFiles" 53 "ZoneFiles" "faultPlace" "I") m_2_125) (fun _ h9 => h9) rfl d_ZF_place_1 ?_
  have e := rs hf
  subst e
  exact hE _ _ d_ZF_place_4 rfl
end
set_option maxHeartbeats 400000 in
set_option maxRecDepth 100000 in
theorem c_ZF_place (l : Launch) (dC : Nat → ClassId) (dI : Nat → Nat → Nat) (h0 : Nat) (zfTp : Nat) (zfWr : Nat) (zfZs : Nat) (zfSp : Nat) (zfLt : Nat) (zfSt : Nat) (zfFd : Nat) (nf : Nat) (zfFc : Int32) (zfFp : Int32) {r0 : Int32} (hf : f_ZF_place nf zfFp = some r0) : Met l y_ZF_place (wd y_ZF_place b_ZF_place 1 (some .int)) ({ frames := 0, cells := 0, slots := 0, locals := 0 }) (RO dC dI [(h0, .inr (9, [.ref zfTp, .ref zfWr, .ref zfZs, .ref zfSp, .ref zfLt, .ref zfSt, .ref zfFd, .int zfFc, .int zfFp]))] [] [.ref h0]) (SV (some (.int r0))) 0 0 (fun _ => False) :=
  met_S (plainFor_of_name (by decide)) (Nat.le_of_ble_eq_true rfl) (fun p e R s m args below meth c ls C0 hST hK hP hl => by
    obtain ⟨hx, hb, hr, hml, hown, hts, hlocks, hRf, hRl⟩ := id C0
    unfold f_ZF_place at hf
    exact k_ZF_place_0 C0 hST hK hP (fun pc ls hd hn => W.zret hx hb hr hn (fun t ht hW => ⟨rfl, ht⟩) (fun q h => by cases h) hd) hf (lv_sub hl [0] rfl))
-- ZoneFiles.clock(JI)J
def f_ZF_clock_0 (nf : Nat) (x1 : Int64) (x3 : Int32) : Option (Int64) :=
  (f_ZF_checkIndex nf x3 8).bind fun _u =>
  (f_ZF_checkInstant nf x1).bind fun _u =>
  (f_Math_floorDiv nf x1 86400).bind fun r_1 =>
  if x3 = 3 then
  some ((((x1 - (r_1 * 86400)).toInt32) / 3600).toInt64)
  else
  if x3 = 4 then
    some (((((x1 - (r_1 * 86400)).toInt32) / 60) - (((x1 - (r_1 * 86400)).toInt32) / 60) / 60 * 60).toInt64)
    else
    if x3 = 5 then
      some ((((x1 - (r_1 * 86400)).toInt32) - ((x1 - (r_1 * 86400)).toInt32) / 60 * 60).toInt64)
      else
      if x3 = 6 then
        (f_Cal_weekday nf r_1).bind fun r_6 =>
          some r_6.toInt64
        else
        (f_ZF_dateOf nf r_1 x3).bind fun r_7 =>
          some r_7
def f_ZF_clock (nf : Nat) (p0 : Int64) (p1 : Int32) : Option (Int64) :=
  f_ZF_clock_0 nf p0 p1
section
variable {p : Program} {l : Launch} {e : Env} {R : Room} {s : State} {m : MethodId} {args : Array Value} {below : List Frame} {meth : Method} {c : Code} {Q : State → Prop} {dC : Nat → ClassId} {dI : Nat → Nat → Nat} {nf : Nat}
variable {h0 : Nat} {r0 : Int64}
set_option maxHeartbeats 400000 in
set_option maxRecDepth 100000 in
theorem k_ZF_clock_0 (C0 : Cx p s m meth c args R b_ZF_clock "ZoneFiles" 7 (some .long) 4 104) (hST : ST (fun _ => False) s s.heap) (hK : va_K (dC, dI) classes [] s) (hE : ∀ (pc : Nat) (ls : Array Slot), decode b_ZF_clock pc = .ok (.lreturn, 1) → W p l e R s m args below meth c s.heap [] 0 0 Q (F0 m pc ls [.long r0])) {x1 : Int64} {x3 : Int32} (hf : f_ZF_clock_0 nf x1 x3 = some r0) {ls : Array Slot} (hl : lv_has ls 7 [(1, .long x1), (3, .int x3)]) : W p l e R s m args below meth c s.heap [] 0 0 Q (F0 m 0 ls []) := by
  obtain ⟨hx, hb, hr, hml, hown, hts, hlocks, hRf, hRl⟩ := id C0
  obtain ⟨tms, hZms, hTms, tmg, hZmg, hTmg, hNW⟩ := id hST
  unfold f_ZF_clock_0 at hf
  refine lv_iload_n hx hb d_ZF_clock_0 rfl (lv_at hl 1 rfl) ?_
  refine lv_bipush (v := 8) hx hb d_ZF_clock_1 (by decide) ?_
  obtain ⟨_u, hc, hf⟩ := ob hf
  refine cl_S (v := none) (st1 := []) (va_runS (As := [.int x3, .int 8]) (rest := []) ⟨hx, hb, hml, hown, hts⟩ (c_ZF_checkIndex l dC dI nf x3 8 hc) (va_cwS 2 hts (gdS m_4_234 m_4_235 m_1_1 m_4_236) rfl rfl rfl (by decide +kernel) ⟨Nat.le_trans (Nat.le_of_ble_eq_true rfl) hRf, Nat.le_trans (Nat.le_of_ble_eq_true rfl) hRl⟩) (RO.pre0 hK hST).sta rfl rfl hl.1 rfl (lv_room (Nat.le_of_ble_eq_true rfl)) d_ZF_clock_3 ⟨Nat.zero_le _, Nat.zero_le _⟩) rfl ?_
  refine lv_lload_n hx hb d_ZF_clock_6 rfl (lv_at hl 0 rfl) ?_
  obtain ⟨_u, hc, hf⟩ := ob hf
  refine cl_S (v := none) (st1 := []) (va_runS (As := [.long x1]) (rest := []) ⟨hx, hb, hml, hown, hts⟩ (c_ZF_checkInstant l dC dI nf x1 hc) (va_cwS 1 hts (gdS m_5_36 m_5_37 m_1_1 m_5_38) rfl rfl rfl (by decide +kernel) ⟨Nat.le_trans (Nat.le_of_ble_eq_true rfl) hRf, Nat.le_trans (Nat.le_of_ble_eq_true rfl) hRl⟩) (RO.pre0 hK hST).sta rfl rfl hl.1 rfl (lv_room (Nat.le_of_ble_eq_true rfl)) d_ZF_clock_7 ⟨Nat.zero_le _, Nat.zero_le _⟩) rfl ?_
  refine lv_lload_n hx hb d_ZF_clock_10 rfl (lv_at hl 0 rfl) ?_
  refine lv_ldc2 (v := 86400) hx hb hown (hts (.constantLong "ZoneFiles" 229 86400) m_5_77) d_ZF_clock_11 ?_
  obtain ⟨r_1, hc, hf⟩ := ob hf
  refine cl_S (v := (some (.long r_1))) (st1 := [.long r_1]) (va_runS (As := [.long x1, .long 86400]) (rest := []) ⟨hx, hb, hml, hown, hts⟩ (c_Math_floorDiv l dC dI nf x1 86400 hc) (va_cwS 2 hts (gdS m_5_78 m_4_160 m_1_7 m_4_161) rfl rfl rfl (by decide +kernel) ⟨Nat.le_trans (Nat.le_of_ble_eq_true rfl) hRf, Nat.le_trans (Nat.le_of_ble_eq_true rfl) hRl⟩) (RO.pre0 hK hST).sta rfl rfl hl.1 rfl (lv_room (Nat.le_of_ble_eq_true rfl)) d_ZF_clock_14 ⟨Nat.zero_le _, Nat.zero_le _⟩) rfl ?_
  refine lv_lstore (lv' := [(4, .long r_1), (1, .long x1), (3, .int x3)]) hx hb d_ZF_clock_17 hl (by decide) rfl (fun ls hl => ?_)
  refine lv_lload_n hx hb d_ZF_clock_19 rfl (lv_at hl 1 rfl) ?_
  refine lv_lload hx hb d_ZF_clock_20 (lv_at hl 0 rfl) ?_
  refine lv_ldc2 (v := 86400) hx hb hown (hts (.constantLong "ZoneFiles" 229 86400) m_5_77) d_ZF_clock_22 ?_
  refine lv_lmul hx hb d_ZF_clock_25 ?_
  refine lv_lsub hx hb d_ZF_clock_26 ?_
  refine lv_l2i hx hb d_ZF_clock_27 rfl ?_
  refine lv_istore (lv' := [(6, .int ((x1 - (r_1 * 86400)).toInt32)), (4, .long r_1), (1, .long x1), (3, .int x3)]) hx hb d_ZF_clock_28 hl (by decide) rfl (fun ls hl => ?_)
  refine lv_iload_n hx hb d_ZF_clock_30 rfl (lv_at hl 3 rfl) ?_
  by_cases c_2 : x3 = 3
  · have hf := it_t c_2 hf
    refine lv_tableIn (tgt := 60) hx hb d_ZF_clock_31 (by rw [c_2]; decide) (by rw [c_2]; decide) (by rw [c_2]; rfl) (by decide) ?_
    refine lv_iload hx hb d_ZF_clock_60 (lv_at hl 0 rfl) ?_
    refine lv_sipush (v := 3600) hx hb d_ZF_clock_62 (by decide) ?_
    refine lv_idiv hx hb d_ZF_clock_65 (by decide) ?_
    refine lv_i2l hx hb d_ZF_clock_66 rfl ?_
    have e := rs hf
    subst e
    exact hE _ _ d_ZF_clock_67
  · have hf := it_f c_2 hf
    by_cases c_3 : x3 = 4
    · have hf := it_t c_3 hf
      refine lv_tableIn (tgt := 68) hx hb d_ZF_clock_31 (by rw [c_3]; decide) (by rw [c_3]; decide) (by rw [c_3]; rfl) (by decide) ?_
      refine lv_iload hx hb d_ZF_clock_68 (lv_at hl 0 rfl) ?_
      refine lv_bipush (v := 60) hx hb d_ZF_clock_70 (by decide) ?_
      refine lv_idiv hx hb d_ZF_clock_72 (by decide) ?_
      refine lv_bipush (v := 60) hx hb d_ZF_clock_73 (by decide) ?_
      refine lv_irem hx hb d_ZF_clock_75 (by decide) ?_
      refine lv_i2l hx hb d_ZF_clock_76 rfl ?_
      have e := rs hf
      subst e
      exact hE _ _ d_ZF_clock_77
    · have hf := it_f c_3 hf
      by_cases c_4 : x3 = 5
      · have hf := it_t c_4 hf
        refine lv_tableIn (tgt := 78) hx hb d_ZF_clock_31 (by rw [c_4]; decide) (by rw [c_4]; decide) (by rw [c_4]; rfl) (by decide) ?_
        refine lv_iload hx hb d_ZF_clock_78 (lv_at hl 0 rfl) ?_
        refine lv_bipush (v := 60) hx hb d_ZF_clock_80 (by decide) ?_
        refine lv_irem hx hb d_ZF_clock_82 (by decide) ?_
        refine lv_i2l hx hb d_ZF_clock_83 rfl ?_
        have e := rs hf
        subst e
        exact hE _ _ d_ZF_clock_84
      · have hf := it_f c_4 hf
        by_cases c_5 : x3 = 6
        · have hf := it_t c_5 hf
          refine lv_tableIn (tgt := 85) hx hb d_ZF_clock_31 (by rw [c_5]; decide) (by rw [c_5]; decide) (by rw [c_5]; rfl) (by decide) ?_
          refine lv_lload hx hb d_ZF_clock_85 (lv_at hl 1 rfl) ?_
          obtain ⟨r_6, hc, hf⟩ := ob hf
          refine cl_S (v := (some (.int r_6))) (st1 := [.int r_6]) (va_runS (As := [.long r_1]) (rest := []) ⟨hx, hb, hml, hown, hts⟩ (c_Cal_weekday l dC dI nf r_1 hc) (va_cwS 1 hts (gdS m_5_79 m_5_80 m_1_18 m_5_81) rfl rfl rfl (by decide +kernel) ⟨Nat.le_trans (Nat.le_of_ble_eq_true rfl) hRf, Nat.le_trans (Nat.le_of_ble_eq_true rfl) hRl⟩) (RO.pre0 hK hST).sta rfl rfl hl.1 rfl (lv_room (Nat.le_of_ble_eq_true rfl)) d_ZF_clock_87 ⟨Nat.zero_le _, Nat.zero_le _⟩) rfl ?_
          refine lv_i2l hx hb d_ZF_clock_90 rfl ?_
          have e := rs hf
          subst e
          exact hE _ _ d_ZF_clock_91
        · have hf := it_f c_5 hf
          have hsw : x3.toInt < 3 ∨ 6 < x3.toInt := by
            have hsw0 := lv_neT c_2 (a := 3) rfl
            have hsw1 := lv_neT c_3 (a := 4) rfl
            have hsw2 := lv_neT c_4 (a := 5) rfl
            have hsw3 := lv_neT c_5 (a := 6) rfl
            omega
          refine lv_tableOut (tgt := 92) hx hb d_ZF_clock_31 hsw (by decide) ?_
          refine lv_lload hx hb d_ZF_clock_92 (lv_at hl 1 rfl) ?_
          refine lv_iload_n hx hb d_ZF_clock_94 rfl (lv_at hl 3 rfl) ?_
          obtain ⟨r_7, hc, hf⟩ := ob hf
          refine cl_S (v := (some (.long r_7))) (st1 := [.long r_7]) (va_runS (As := [.long r_1, .int x3]) (rest := []) ⟨hx, hb, hml, hown, hts⟩ (c_ZF_dateOf l dC dI nf r_1 x3 hc) (va_cwS 2 hts (gdS m_5_84 m_5_85 m_1_1 m_5_86) rfl rfl rfl (by decide +kernel) ⟨Nat.le_trans (Nat.le_of_ble_eq_true rfl) hRf, Nat.le_trans (Nat.le_of_ble_eq_true rfl) hRl⟩) (RO.pre0 hK hST).sta rfl rfl hl.1 rfl (lv_room (Nat.le_of_ble_eq_true rfl)) d_ZF_clock_95 ⟨Nat.zero_le _, Nat.zero_le _⟩) rfl ?_
          have e := rs hf
          subst e
          exact hE _ _ d_ZF_clock_98
end
set_option maxHeartbeats 400000 in
set_option maxRecDepth 100000 in
theorem c_ZF_clock (l : Launch) (dC : Nat → ClassId) (dI : Nat → Nat → Nat) (h0 : Nat) (nf : Nat) (p0 : Int64) (p1 : Int32) {r0 : Int64} (hf : f_ZF_clock nf p0 p1 = some r0) : Met l y_ZF_clock (wd y_ZF_clock b_ZF_clock 7 (some .long)) ({ frames := 4, cells := 0, slots := 0, locals := 104 }) (RO dC dI [] [] [.ref h0, .long p0, .int p1]) (SV (some (.long r0))) 0 0 (fun _ => False) :=
  met_S (plainFor_of_name (by decide)) (Nat.le_of_ble_eq_true rfl) (fun p e R s m args below meth c ls C0 hST hK hP hl => by
    obtain ⟨hx, hb, hr, hml, hown, hts, hlocks, hRf, hRl⟩ := id C0
    unfold f_ZF_clock at hf
    exact k_ZF_clock_0 C0 hST hK (fun pc ls hd => W.lret hx hb hr (fun t ht hW => ⟨rfl, ht⟩) (fun q h => by cases h) hd) hf (lv_sub hl [1, 2] rfl))
-- ZoneFiles.seconds(JIII)J
def f_ZF_seconds_16 (nf : Nat) : Option (Int64) :=
  none
def f_ZF_seconds_37 (nf : Nat) : Option (Int64) :=
  none
def f_ZF_seconds_70 (nf : Nat) : Option (Int64) :=
  none
def f_ZF_seconds_96 (nf : Nat) : Option (Int64) :=
  none
def f_ZF_seconds_0 (nf : Nat) (x1 : Int64) (x3 : Int32) (x4 : Int32) (x5 : Int32) : Option (Int64) :=
  if x1 < (-30000000000 : Int64) then
  f_ZF_seconds_16 nf
  else
  if x1 ≤ (30000000000 : Int64) then
    if x3 < (1 : Int32) then
      f_ZF_seconds_37 nf
      else
      if x3 ≤ (12 : Int32) then
        (f_Cal_isLongYear nf x1).bind fun r_5 =>
          if x4 < (1 : Int32) then
          f_ZF_seconds_70 nf
          else
          (f_Cal_monthSize nf x3 r_5).bind fun r_7 =>
            if x4 ≤ r_7 then
            if x5 < 0 then
              f_ZF_seconds_96 nf
              else
              if x5.toInt64 < (86400 : Int64) then
                (f_Cal_yearStart nf x1).bind fun r_11 =>
                  (f_Cal_monthStart nf x3 r_5).bind fun r_12 =>
                  some (((((r_11 + r_12.toInt64) + x4.toInt64) - 1) * 86400) + x5.toInt64)
                else
                f_ZF_seconds_96 nf
            else
            f_ZF_seconds_70 nf
        else
        f_ZF_seconds_37 nf
    else
    f_ZF_seconds_16 nf
def f_ZF_seconds (nf : Nat) (p0 : Int64) (p1 : Int32) (p2 : Int32) (p3 : Int32) : Option (Int64) :=
  f_ZF_seconds_0 nf p0 p1 p2 p3
section
variable {p : Program} {l : Launch} {e : Env} {R : Room} {s : State} {m : MethodId} {args : Array Value} {below : List Frame} {meth : Method} {c : Code} {Q : State → Prop} {dC : Nat → ClassId} {dI : Nat → Nat → Nat} {nf : Nat}
variable {h0 : Nat} {r0 : Int64}
set_option maxHeartbeats 400000 in
set_option maxRecDepth 100000 in
theorem k_ZF_seconds_16 (C0 : Cx p s m meth c args R b_ZF_seconds "ZoneFiles" 9 (some .long) 2 50) (hST : ST (fun _ => False) s s.heap) (hK : va_K (dC, dI) classes [] s) (hE : ∀ (pc : Nat) (ls : Array Slot), decode b_ZF_seconds pc = .ok (.lreturn, 1) → W p l e R s m args below meth c s.heap [] 0 0 Q (F0 m pc ls [.long r0])) (hf : f_ZF_seconds_16 nf = some r0) {ls : Array Slot} (hl : lv_has ls 9 []) : W p l e R s m args below meth c s.heap [] 0 0 Q (F0 m 16 ls []) := by
  obtain ⟨hx, hb, hr, hml, hown, hts, hlocks, hRf, hRl⟩ := id C0
  obtain ⟨tms, hZms, hTms, tmg, hZmg, hTmg, hNW⟩ := id hST
  unfold f_ZF_seconds_16 at hf
  exact absurd hf (by simp)
set_option maxHeartbeats 400000 in
set_option maxRecDepth 100000 in
theorem k_ZF_seconds_37 (C0 : Cx p s m meth c args R b_ZF_seconds "ZoneFiles" 9 (some .long) 2 50) (hST : ST (fun _ => False) s s.heap) (hK : va_K (dC, dI) classes [] s) (hE : ∀ (pc : Nat) (ls : Array Slot), decode b_ZF_seconds pc = .ok (.lreturn, 1) → W p l e R s m args below meth c s.heap [] 0 0 Q (F0 m pc ls [.long r0])) (hf : f_ZF_seconds_37 nf = some r0) {ls : Array Slot} (hl : lv_has ls 9 []) : W p l e R s m args below meth c s.heap [] 0 0 Q (F0 m 37 ls []) := by
  obtain ⟨hx, hb, hr, hml, hown, hts, hlocks, hRf, hRl⟩ := id C0
  obtain ⟨tms, hZms, hTms, tmg, hZmg, hTmg, hNW⟩ := id hST
  unfold f_ZF_seconds_37 at hf
  exact absurd hf (by simp)
set_option maxHeartbeats 400000 in
set_option maxRecDepth 100000 in
theorem k_ZF_seconds_70 (C0 : Cx p s m meth c args R b_ZF_seconds "ZoneFiles" 9 (some .long) 2 50) (hST : ST (fun _ => False) s s.heap) (hK : va_K (dC, dI) classes [] s) (hE : ∀ (pc : Nat) (ls : Array Slot), decode b_ZF_seconds pc = .ok (.lreturn, 1) → W p l e R s m args below meth c s.heap [] 0 0 Q (F0 m pc ls [.long r0])) (hf : f_ZF_seconds_70 nf = some r0) {ls : Array Slot} (hl : lv_has ls 9 []) : W p l e R s m args below meth c s.heap [] 0 0 Q (F0 m 70 ls []) := by
  obtain ⟨hx, hb, hr, hml, hown, hts, hlocks, hRf, hRl⟩ := id C0
  obtain ⟨tms, hZms, hTms, tmg, hZmg, hTmg, hNW⟩ := id hST
  unfold f_ZF_seconds_70 at hf
  exact absurd hf (by simp)
set_option maxHeartbeats 400000 in
set_option maxRecDepth 100000 in
theorem k_ZF_seconds_96 (C0 : Cx p s m meth c args R b_ZF_seconds "ZoneFiles" 9 (some .long) 2 50) (hST : ST (fun _ => False) s s.heap) (hK : va_K (dC, dI) classes [] s) (hE : ∀ (pc : Nat) (ls : Array Slot), decode b_ZF_seconds pc = .ok (.lreturn, 1) → W p l e R s m args below meth c s.heap [] 0 0 Q (F0 m pc ls [.long r0])) (hf : f_ZF_seconds_96 nf = some r0) {ls : Array Slot} (hl : lv_has ls 9 []) : W p l e R s m args below meth c s.heap [] 0 0 Q (F0 m 96 ls []) := by
  obtain ⟨hx, hb, hr, hml, hown, hts, hlocks, hRf, hRl⟩ := id C0
  obtain ⟨tms, hZms, hTms, tmg, hZmg, hTmg, hNW⟩ := id hST
  unfold f_ZF_seconds_96 at hf
  exact absurd hf (by simp)
set_option maxHeartbeats 400000 in
set_option maxRecDepth 100000 in
theorem k_ZF_seconds_0 (C0 : Cx p s m meth c args R b_ZF_seconds "ZoneFiles" 9 (some .long) 2 50) (hST : ST (fun _ => False) s s.heap) (hK : va_K (dC, dI) classes [] s) (hE : ∀ (pc : Nat) (ls : Array Slot), decode b_ZF_seconds pc = .ok (.lreturn, 1) → W p l e R s m args below meth c s.heap [] 0 0 Q (F0 m pc ls [.long r0])) {x1 : Int64} {x3 : Int32} {x4 : Int32} {x5 : Int32} (hf : f_ZF_seconds_0 nf x1 x3 x4 x5 = some r0) {ls : Array Slot} (hl : lv_has ls 9 [(1, .long x1), (3, .int x3), (4, .int x4), (5, .int x5)]) : W p l e R s m args below meth c s.heap [] 0 0 Q (F0 m 0 ls []) := by
  obtain ⟨hx, hb, hr, hml, hown, hts, hlocks, hRf, hRl⟩ := id C0
  obtain ⟨tms, hZms, hTms, tmg, hZmg, hTmg, hNW⟩ := id hST
  unfold f_ZF_seconds_0 at hf
  refine lv_lload_n hx hb d_ZF_seconds_0 rfl (lv_at hl 0 rfl) ?_
  refine lv_ldc2 (v := (-30000000000)) hx hb hown (hts (.constantLong "ZoneFiles" 246 (-30000000000)) m_5_102) d_ZF_seconds_1 ?_
  refine lc_lt (tgt := 16) hx hb d_ZF_seconds_4 d_ZF_seconds_5 (by decide) (fun c_1 => ?_) (fun c_1 => ?_)
  · have hf := it_t c_1 hf
    exact k_ZF_seconds_16 C0 hST hK hE hf (lv_sub hl [] rfl)
  · have hf := it_f c_1 hf
    refine lv_lload_n hx hb d_ZF_seconds_8 rfl (lv_at hl 0 rfl) ?_
    refine lv_ldc2 (v := 30000000000) hx hb hown (hts (.constantLong "ZoneFiles" 248 30000000000) m_5_103) d_ZF_seconds_9 ?_
    refine lc_le (tgt := 26) hx hb d_ZF_seconds_12 d_ZF_seconds_13 (by decide) (fun c_2 => ?_) (fun c_2 => ?_)
    · have hf := it_t c_2 hf
      refine lv_iload_n hx hb d_ZF_seconds_26 rfl (lv_at hl 1 rfl) ?_
      refine lv_iconst (v := 1) hx hb d_ZF_seconds_27 (by decide) ?_
      refine lv_icmp_lt (tgt := 37) hx hb d_ZF_seconds_28 (by decide) (fun c_3 => ?_) (fun c_3 => ?_)
      · have hf := it_t c_3 hf
        exact k_ZF_seconds_37 C0 hST hK hE hf (lv_sub hl [] rfl)
      · have hf := it_f c_3 hf
        refine lv_iload_n hx hb d_ZF_seconds_31 rfl (lv_at hl 1 rfl) ?_
        refine lv_bipush (v := 12) hx hb d_ZF_seconds_32 (by decide) ?_
        refine lv_icmp_le (tgt := 47) hx hb d_ZF_seconds_34 (by decide) (fun c_4 => ?_) (fun c_4 => ?_)
        · have hf := it_t c_4 hf
          refine lv_lload_n hx hb d_ZF_seconds_47 rfl (lv_at hl 0 rfl) ?_
          obtain ⟨r_5, hc, hf⟩ := ob hf
          refine cl_S (v := (some (.int r_5))) (st1 := [.int r_5]) (va_runS (As := [.long x1]) (rest := []) ⟨hx, hb, hml, hown, hts⟩ (c_Cal_isLongYear l dC dI nf x1 hc) (va_cwS 1 hts (gdS m_5_89 m_4_187 m_1_18 m_4_188) rfl rfl rfl (by decide +kernel) ⟨Nat.le_trans (Nat.le_of_ble_eq_true rfl) hRf, Nat.le_trans (Nat.le_of_ble_eq_true rfl) hRl⟩) (RO.pre0 hK hST).sta rfl rfl hl.1 rfl (lv_room (Nat.le_of_ble_eq_true rfl)) d_ZF_seconds_48 ⟨Nat.zero_le _, Nat.zero_le _⟩) rfl ?_
          refine lv_istore (lv' := [(6, .int r_5), (1, .long x1), (3, .int x3), (4, .int x4), (5, .int x5)]) hx hb d_ZF_seconds_51 hl (by decide) rfl (fun ls hl => ?_)
          refine lv_iload hx hb d_ZF_seconds_53 (lv_at hl 3 rfl) ?_
          refine lv_iconst (v := 1) hx hb d_ZF_seconds_55 (by decide) ?_
          refine lv_icmp_lt (tgt := 70) hx hb d_ZF_seconds_56 (by decide) (fun c_6 => ?_) (fun c_6 => ?_)
          · have hf := it_t c_6 hf
            exact k_ZF_seconds_70 C0 hST hK hE hf (lv_sub hl [] rfl)
          · have hf := it_f c_6 hf
            refine lv_iload hx hb d_ZF_seconds_59 (lv_at hl 3 rfl) ?_
            refine lv_iload_n hx hb d_ZF_seconds_61 rfl (lv_at hl 2 rfl) ?_
            refine lv_iload hx hb d_ZF_seconds_62 (lv_at hl 0 rfl) ?_
            obtain ⟨r_7, hc, hf⟩ := ob hf
            refine cl_S (v := (some (.int r_7))) (st1 := [.int r_7, .int x4]) (va_runS (As := [.int x3, .int r_5]) (rest := [.int x4]) ⟨hx, hb, hml, hown, hts⟩ (c_Cal_monthSize l dC dI nf x3 r_5 hc) (va_cwS 2 hts (gdS m_5_106 m_5_107 m_1_18 m_5_108) rfl rfl rfl (by decide +kernel) ⟨Nat.le_trans (Nat.le_of_ble_eq_true rfl) hRf, Nat.le_trans (Nat.le_of_ble_eq_true rfl) hRl⟩) (RO.pre0 hK hST).sta rfl rfl hl.1 rfl (lv_room (Nat.le_of_ble_eq_true rfl)) d_ZF_seconds_64 ⟨Nat.zero_le _, Nat.zero_le _⟩) rfl ?_
            refine lv_icmp_le (tgt := 81) hx hb d_ZF_seconds_67 (by decide) (fun c_8 => ?_) (fun c_8 => ?_)
            · have hf := it_t c_8 hf
              refine lv_iload hx hb d_ZF_seconds_81 (lv_at hl 4 rfl) ?_
              refine lv_if_lt (tgt := 96) hx hb d_ZF_seconds_83 (by decide) (fun c_9 => ?_) (fun c_9 => ?_)
              · have hf := it_t c_9 hf
                exact k_ZF_seconds_96 C0 hST hK hE hf (lv_sub hl [] rfl)
              · have hf := it_f c_9 hf
                refine lv_iload hx hb d_ZF_seconds_86 (lv_at hl 4 rfl) ?_
                refine lv_i2l hx hb d_ZF_seconds_88 rfl ?_
                refine lv_ldc2 (v := 86400) hx hb hown (hts (.constantLong "ZoneFiles" 229 86400) m_5_77) d_ZF_seconds_89 ?_
                refine lc_lt (tgt := 107) hx hb d_ZF_seconds_92 d_ZF_seconds_93 (by decide) (fun c_10 => ?_) (fun c_10 => ?_)
                · have hf := it_t c_10 hf
                  refine lv_lload_n hx hb d_ZF_seconds_107 rfl (lv_at hl 1 rfl) ?_
                  obtain ⟨r_11, hc, hf⟩ := ob hf
                  refine cl_S (v := (some (.long r_11))) (st1 := [.long r_11]) (va_runS (As := [.long x1]) (rest := []) ⟨hx, hb, hml, hown, hts⟩ (c_Cal_yearStart l dC dI nf x1 hc) (va_cwS 1 hts (gdS m_5_88 m_4_171 m_1_18 m_4_172) rfl rfl rfl (by decide +kernel) ⟨Nat.le_trans (Nat.le_of_ble_eq_true rfl) hRf, Nat.le_trans (Nat.le_of_ble_eq_true rfl) hRl⟩) (RO.pre0 hK hST).sta rfl rfl hl.1 rfl (lv_room (Nat.le_of_ble_eq_true rfl)) d_ZF_seconds_108 ⟨Nat.zero_le _, Nat.zero_le _⟩) rfl ?_
                  refine lv_iload_n hx hb d_ZF_seconds_111 rfl (lv_at hl 2 rfl) ?_
                  refine lv_iload hx hb d_ZF_seconds_112 (lv_at hl 0 rfl) ?_
                  obtain ⟨r_12, hc, hf⟩ := ob hf
                  refine cl_S (v := (some (.int r_12))) (st1 := [.int r_12, .long r_11]) (va_runS (As := [.int x3, .int r_5]) (rest := [.long r_11]) ⟨hx, hb, hml, hown, hts⟩ (c_Cal_monthStart l dC dI nf x3 r_5 hc) (va_cwS 2 hts (gdS m_5_94 m_4_190 m_1_18 m_4_191) rfl rfl rfl (by decide +kernel) ⟨Nat.le_trans (Nat.le_of_ble_eq_true rfl) hRf, Nat.le_trans (Nat.le_of_ble_eq_true rfl) hRl⟩) (RO.pre0 hK hST).sta rfl rfl hl.1 rfl (lv_room (Nat.le_of_ble_eq_true rfl)) d_ZF_seconds_114 ⟨Nat.zero_le _, Nat.zero_le _⟩) rfl ?_
                  refine lv_i2l hx hb d_ZF_seconds_117 rfl ?_
                  refine lv_ladd hx hb d_ZF_seconds_118 ?_
                  refine lv_iload hx hb d_ZF_seconds_119 (lv_at hl 3 rfl) ?_
                  refine lv_i2l hx hb d_ZF_seconds_121 rfl ?_
                  refine lv_ladd hx hb d_ZF_seconds_122 ?_
                  refine lv_lconst (v := 1) hx hb d_ZF_seconds_123 (by decide) ?_
                  refine lv_lsub hx hb d_ZF_seconds_124 ?_
                  refine lv_lstore (lv' := [(7, .long (((r_11 + r_12.toInt64) + x4.toInt64) - 1)), (6, .int r_5), (1, .long x1), (3, .int x3), (4, .int x4), (5, .int x5)]) hx hb d_ZF_seconds_125 hl (by decide) rfl (fun ls hl => ?_)
                  refine lv_lload hx hb d_ZF_seconds_127 (lv_at hl 0 rfl) ?_
                  refine lv_ldc2 (v := 86400) hx hb hown (hts (.constantLong "ZoneFiles" 229 86400) m_5_77) d_ZF_seconds_129 ?_
                  refine lv_lmul hx hb d_ZF_seconds_132 ?_
                  refine lv_iload hx hb d_ZF_seconds_133 (lv_at hl 5 rfl) ?_
                  refine lv_i2l hx hb d_ZF_seconds_135 rfl ?_
                  refine lv_ladd hx hb d_ZF_seconds_136 ?_
                  have e := rs hf
                  subst e
                  exact hE _ _ d_ZF_seconds_137
                · have hf := it_f c_10 hf
                  exact k_ZF_seconds_96 C0 hST hK hE hf (lv_sub hl [] rfl)
            · have hf := it_f c_8 hf
              exact k_ZF_seconds_70 C0 hST hK hE hf (lv_sub hl [] rfl)
        · have hf := it_f c_4 hf
          exact k_ZF_seconds_37 C0 hST hK hE hf (lv_sub hl [] rfl)
    · have hf := it_f c_2 hf
      exact k_ZF_seconds_16 C0 hST hK hE hf (lv_sub hl [] rfl)
end
set_option maxHeartbeats 400000 in
set_option maxRecDepth 100000 in
theorem c_ZF_seconds (l : Launch) (dC : Nat → ClassId) (dI : Nat → Nat → Nat) (h0 : Nat) (nf : Nat) (p0 : Int64) (p1 : Int32) (p2 : Int32) (p3 : Int32) {r0 : Int64} (hf : f_ZF_seconds nf p0 p1 p2 p3 = some r0) : Met l y_ZF_seconds (wd y_ZF_seconds b_ZF_seconds 9 (some .long)) ({ frames := 2, cells := 0, slots := 0, locals := 50 }) (RO dC dI [] [] [.ref h0, .long p0, .int p1, .int p2, .int p3]) (SV (some (.long r0))) 0 0 (fun _ => False) :=
  met_S (plainFor_of_name (by decide)) (Nat.le_of_ble_eq_true rfl) (fun p e R s m args below meth c ls C0 hST hK hP hl => by
    obtain ⟨hx, hb, hr, hml, hown, hts, hlocks, hRf, hRl⟩ := id C0
    unfold f_ZF_seconds at hf
    exact k_ZF_seconds_0 C0 hST hK (fun pc ls hd => W.lret hx hb hr (fun t ht hW => ⟨rfl, ht⟩) (fun q h => by cases h) hd) hf (lv_sub hl [1, 2, 3, 4] rfl))
-- ZoneFiles.found(I)J
def f_ZF_found_0 (nf : Nat) (zfFc : Int32) (fdA : Nat → Int64) (x1 : Int32) : Option (Int64) :=
  (f_ZF_checkIndex nf x1 zfFc).bind fun _u =>
  if x1 < 0 ∨ 42 ≤ x1.toNatClampNeg then none else
  some (fdA x1.toNatClampNeg)
def f_ZF_found (nf : Nat) (p0 : Int32) (zfFc : Int32) (fdA : Nat → Int64) : Option (Int64) :=
  f_ZF_found_0 nf zfFc fdA p0
section
variable {p : Program} {l : Launch} {e : Env} {R : Room} {s : State} {m : MethodId} {args : Array Value} {below : List Frame} {meth : Method} {c : Code} {Q : State → Prop} {dC : Nat → ClassId} {dI : Nat → Nat → Nat} {nf : Nat}
variable {h0 : Nat} {zfTp : Nat} {zfWr : Nat} {zfZs : Nat} {zfSp : Nat} {zfLt : Nat} {zfSt : Nat} {zfFd : Nat} {cAzfFd : ClassId} {zfFc : Int32} {zfFp : Int32} {fdA : Nat → Int64} {r0 : Int64}
set_option maxHeartbeats 400000 in
set_option maxRecDepth 100000 in
theorem k_ZF_found_0 (C0 : Cx p s m meth c args R b_ZF_found "ZoneFiles" 2 (some .long) 1 21) (hST : ST (fun _ => False) s s.heap) (hK : va_K (dC, dI) classes [(cAzfFd, .long)] s) (hP : va_P (dC, dI) classes [(h0, .inr (9, [.ref zfTp, .ref zfWr, .ref zfZs, .ref zfSp, .ref zfLt, .ref zfSt, .ref zfFd, .int zfFc, .int zfFp])), (zfFd, .inl (cAzfFd, 42, .inr (.inl fdA)))] s.heap) (hE : ∀ (pc : Nat) (ls : Array Slot), decode b_ZF_found pc = .ok (.lreturn, 1) → W p l e R s m args below meth c s.heap [] 0 0 Q (F0 m pc ls [.long r0])) {x1 : Int32} (hf : f_ZF_found_0 nf zfFc fdA x1 = some r0) {ls : Array Slot} (hl : lv_has ls 2 [(0, .ref h0), (1, .int x1)]) : W p l e R s m args below meth c s.heap [] 0 0 Q (F0 m 0 ls []) := by
  obtain ⟨hx, hb, hr, hml, hown, hts, hlocks, hRf, hRl⟩ := id C0
  obtain ⟨tms, hZms, hTms, tmg, hZmg, hTmg, hNW⟩ := id hST
  unfold f_ZF_found_0 at hf
  refine lv_iload_n hx hb d_ZF_found_0 rfl (lv_at hl 1 rfl) ?_
  refine lv_aload_n hx hb d_ZF_found_1 rfl (lv_at hl 0 rfl) ?_
  refine va_get (D := (dC, dI)) (ci := 9) (v := .int zfFc) (C := RZoneFiles) (T := TZoneFiles) (N := 9) hx hb hts in_ZoneFiles hown hK hP 0 rfl rfl 7 (by decide) (hts (.fieldLink "ZoneFiles" 49 "ZoneFiles" "foundCount" "I") m_2_124) (fun _ h9 => h9) rfl d_ZF_found_2 ?_
  obtain ⟨_u, hc, hf⟩ := ob hf
  refine cl_S (v := none) (st1 := []) (va_runS (As := [.int x1, .int zfFc]) (rest := []) ⟨hx, hb, hml, hown, hts⟩ (c_ZF_checkIndex l dC dI nf x1 zfFc hc) (va_cwS 2 hts (gdS m_4_234 m_4_235 m_1_1 m_4_236) rfl rfl rfl (by decide +kernel) ⟨Nat.le_trans (Nat.le_of_ble_eq_true rfl) hRf, Nat.le_trans (Nat.le_of_ble_eq_true rfl) hRl⟩) (RO.pre0 hK hST).sta rfl rfl hl.1 rfl (lv_room (Nat.le_of_ble_eq_true rfl)) d_ZF_found_5 ⟨Nat.zero_le _, Nat.zero_le _⟩) rfl ?_
  refine lv_aload_n hx hb d_ZF_found_8 rfl (lv_at hl 0 rfl) ?_
  refine va_get (D := (dC, dI)) (ci := 9) (v := .ref zfFd) (C := RZoneFiles) (T := TZoneFiles) (N := 9) hx hb hts in_ZoneFiles hown hK hP 0 rfl rfl 6 (by decide) (hts (.fieldLink "ZoneFiles" 45 "ZoneFiles" "foundInstants" "[J") m_2_123) (fun _ h9 => h9) rfl d_ZF_found_9 ?_
  refine lv_iload_n hx hb d_ZF_found_12 rfl (lv_at hl 1 rfl) ?_
  obtain ⟨c_1, hf⟩ := it_n hf
  refine va_lald hx hb hK hP 1 0 rfl rfl c_1 d_ZF_found_13 ?_
  have e := rs hf
  subst e
  exact hE _ _ d_ZF_found_14
end
set_option maxHeartbeats 400000 in
set_option maxRecDepth 100000 in
theorem c_ZF_found (l : Launch) (dC : Nat → ClassId) (dI : Nat → Nat → Nat) (h0 : Nat) (zfTp : Nat) (zfWr : Nat) (zfZs : Nat) (zfSp : Nat) (zfLt : Nat) (zfSt : Nat) (zfFd : Nat) (cAzfFd : ClassId) (nf : Nat) (p0 : Int32) (zfFc : Int32) (zfFp : Int32) (fdA : Nat → Int64) {r0 : Int64} (hf : f_ZF_found nf p0 zfFc fdA = some r0) : Met l y_ZF_found (wd y_ZF_found b_ZF_found 2 (some .long)) ({ frames := 1, cells := 0, slots := 0, locals := 21 }) (RO dC dI [(h0, .inr (9, [.ref zfTp, .ref zfWr, .ref zfZs, .ref zfSp, .ref zfLt, .ref zfSt, .ref zfFd, .int zfFc, .int zfFp])), (zfFd, .inl (cAzfFd, 42, .inr (.inl fdA)))] [(cAzfFd, .long)] [.ref h0, .int p0]) (SV (some (.long r0))) 0 0 (fun _ => False) :=
  met_S (plainFor_of_name (by decide)) (Nat.le_of_ble_eq_true rfl) (fun p e R s m args below meth c ls C0 hST hK hP hl => by
    obtain ⟨hx, hb, hr, hml, hown, hts, hlocks, hRf, hRl⟩ := id C0
    unfold f_ZF_found at hf
    exact k_ZF_found_0 C0 hST hK hP (fun pc ls hd => W.lret hx hb hr (fun t ht hW => ⟨rfl, ht⟩) (fun q h => by cases h) hd) hf (lv_sub hl [0, 1] rfl))
-- ZoneFiles.out(I)I
def f_ZF_out_0 (nf : Nat) (wrS : Int32) (wrN : Nat) (wrA : Nat → Int32) (x1 : Int32) : Option (Int32) :=
  (f_ZF_checkIndex nf x1 wrS).bind fun _u =>
  (f_By_get nf x1 wrS wrN wrA).bind fun r_1 =>
  some r_1
def f_ZF_out (nf : Nat) (p0 : Int32) (wrS : Int32) (wrN : Nat) (wrA : Nat → Int32) : Option (Int32) :=
  f_ZF_out_0 nf wrS wrN wrA p0
section
variable {p : Program} {l : Launch} {e : Env} {R : Room} {s : State} {m : MethodId} {args : Array Value} {below : List Frame} {meth : Method} {c : Code} {Q : State → Prop} {dC : Nat → ClassId} {dI : Nat → Nat → Nat} {nf : Nat}
variable {h0 : Nat} {zfTp : Nat} {zfWr : Nat} {zfZs : Nat} {zfSp : Nat} {zfLt : Nat} {zfSt : Nat} {zfFd : Nat} {wrR : Nat} {cAwrR : ClassId} {zfFc : Int32} {zfFp : Int32} {wrS : Int32} {wrN : Nat} {wrA : Nat → Int32} {r0 : Int32}
set_option maxHeartbeats 400000 in
set_option maxRecDepth 100000 in
theorem k_ZF_out_0 (C0 : Cx p s m meth c args R b_ZF_out "ZoneFiles" 2 (some .int) 1 21) (hST : ST (fun _ => False) s s.heap) (hK : va_K (dC, dI) classes [(cAwrR, .byte)] s) (hP : va_P (dC, dI) classes [(h0, .inr (9, [.ref zfTp, .ref zfWr, .ref zfZs, .ref zfSp, .ref zfLt, .ref zfSt, .ref zfFd, .int zfFc, .int zfFp])), (zfWr, .inr (0, [.ref wrR, .int wrS])), (wrR, .inl (cAwrR, wrN, .inl wrA))] s.heap) (hE : ∀ (pc : Nat) (ls : Array Slot), decode b_ZF_out pc = .ok (.ireturn, 1) → narrow .int (.int r0) = .int r0 → W p l e R s m args below meth c s.heap [] 0 0 Q (F0 m pc ls [.int r0])) {x1 : Int32} (hf : f_ZF_out_0 nf wrS wrN wrA x1 = some r0) {ls : Array Slot} (hl : lv_has ls 2 [(0, .ref h0), (1, .int x1)]) : W p l e R s m args below meth c s.heap [] 0 0 Q (F0 m 0 ls []) := by
  obtain ⟨hx, hb, hr, hml, hown, hts, hlocks, hRf, hRl⟩ := id C0
  obtain ⟨tms, hZms, hTms, tmg, hZmg, hTmg, hNW⟩ := id hST
  unfold f_ZF_out_0 at hf
  refine lv_iload_n hx hb d_ZF_out_0 rfl (lv_at hl 1 rfl) ?_
  refine lv_aload_n hx hb d_ZF_out_1 rfl (lv_at hl 0 rfl) ?_
  refine va_get (D := (dC, dI)) (ci := 9) (v := .ref zfWr) (C := RZoneFiles) (T := TZoneFiles) (N := 9) hx hb hts in_ZoneFiles hown hK hP 0 rfl rfl 1 (by decide) (hts (.fieldLink "ZoneFiles" 18 "ZoneFiles" "written" "LZoneFiles$Bytes;") m_2_118) (fun _ h9 => h9) rfl d_ZF_out_2 ?_
  refine va_get (D := (dC, dI)) (ci := 0) (v := .int wrS) (C := RBytes) (T := TBytes) (N := 2) hx hb hts in_Bytes hown hK hP 1 rfl rfl 1 (by decide) (hts (.fieldLink "ZoneFiles" 63 "ZoneFiles$Bytes" "size" "I") m_1_39) (fun _ h9 => h9) rfl d_ZF_out_5 ?_
  obtain ⟨_u, hc, hf⟩ := ob hf
  refine cl_S (v := none) (st1 := []) (va_runS (As := [.int x1, .int wrS]) (rest := []) ⟨hx, hb, hml, hown, hts⟩ (c_ZF_checkIndex l dC dI nf x1 wrS hc) (va_cwS 2 hts (gdS m_4_234 m_4_235 m_1_1 m_4_236) rfl rfl rfl (by decide +kernel) ⟨Nat.le_trans (Nat.le_of_ble_eq_true rfl) hRf, Nat.le_trans (Nat.le_of_ble_eq_true rfl) hRl⟩) (RO.pre0 hK hST).sta rfl rfl hl.1 rfl (lv_room (Nat.le_of_ble_eq_true rfl)) d_ZF_out_8 ⟨Nat.zero_le _, Nat.zero_le _⟩) rfl ?_
  refine lv_aload_n hx hb d_ZF_out_11 rfl (lv_at hl 0 rfl) ?_
  refine va_get (D := (dC, dI)) (ci := 9) (v := .ref zfWr) (C := RZoneFiles) (T := TZoneFiles) (N := 9) hx hb hts in_ZoneFiles hown hK hP 0 rfl rfl 1 (by decide) (hts (.fieldLink "ZoneFiles" 18 "ZoneFiles" "written" "LZoneFiles$Bytes;") m_2_118) (fun _ h9 => h9) rfl d_ZF_out_12 ?_
  refine lv_iload_n hx hb d_ZF_out_15 rfl (lv_at hl 1 rfl) ?_
  obtain ⟨r_1, hc, hf⟩ := ob hf
  refine cl_S (v := (some (.int r_1))) (st1 := [.int r_1]) (va_runV (As := [.int x1]) (rest := []) ⟨hx, hb, hml, hown, hts⟩ (c_By_get l dC dI zfWr wrR cAwrR nf x1 wrS wrN wrA hc) (cwV 1 hts (gdV m_5_21 m_2_71 m_2_72 m_1_2 m_2_73) rfl rfl rfl (by decide +kernel) ⟨Nat.le_trans (Nat.le_of_ble_eq_true rfl) hRf, Nat.le_trans (Nat.le_of_ble_eq_true rfl) hRl⟩) ((RO.pre (hP.sub (ws' := [(zfWr, .inr (0, [.ref wrR, .int wrS])), (wrR, .inl (cAwrR, wrN, .inl wrA))]) [1, 2] rfl) (hK.sub (tys' := [(cAwrR, .byte)]) [0] rfl) hST).vir (va_recv (hK.sub (tys' := [(cAwrR, .byte)]) [0] rfl) (hP.sub (ws' := [(zfWr, .inr (0, [.ref wrR, .int wrS])), (wrR, .inl (cAwrR, wrN, .inl wrA))]) [1, 2] rfl) (ci := 0) (q0 := 0) rfl rfl)) rfl rfl hl.1 rfl (lv_room (Nat.le_of_ble_eq_true rfl)) d_ZF_out_16 ⟨Nat.zero_le _, Nat.zero_le _⟩) rfl ?_
  have e := rs hf
  subst e
  exact hE _ _ d_ZF_out_19 rfl
end
set_option maxHeartbeats 400000 in
set_option maxRecDepth 100000 in
theorem c_ZF_out (l : Launch) (dC : Nat → ClassId) (dI : Nat → Nat → Nat) (h0 : Nat) (zfTp : Nat) (zfWr : Nat) (zfZs : Nat) (zfSp : Nat) (zfLt : Nat) (zfSt : Nat) (zfFd : Nat) (wrR : Nat) (cAwrR : ClassId) (nf : Nat) (p0 : Int32) (zfFc : Int32) (zfFp : Int32) (wrS : Int32) (wrN : Nat) (wrA : Nat → Int32) {r0 : Int32} (hf : f_ZF_out nf p0 wrS wrN wrA = some r0) : Met l y_ZF_out (wd y_ZF_out b_ZF_out 2 (some .int)) ({ frames := 1, cells := 0, slots := 0, locals := 21 }) (RO dC dI [(h0, .inr (9, [.ref zfTp, .ref zfWr, .ref zfZs, .ref zfSp, .ref zfLt, .ref zfSt, .ref zfFd, .int zfFc, .int zfFp])), (zfWr, .inr (0, [.ref wrR, .int wrS])), (wrR, .inl (cAwrR, wrN, .inl wrA))] [(cAwrR, .byte)] [.ref h0, .int p0]) (SV (some (.int r0))) 0 0 (fun _ => False) :=
  met_S (plainFor_of_name (by decide)) (Nat.le_of_ble_eq_true rfl) (fun p e R s m args below meth c ls C0 hST hK hP hl => by
    obtain ⟨hx, hb, hr, hml, hown, hts, hlocks, hRf, hRl⟩ := id C0
    unfold f_ZF_out at hf
    exact k_ZF_out_0 C0 hST hK hP (fun pc ls hd hn => W.zret hx hb hr hn (fun t ht hW => ⟨rfl, ht⟩) (fun q h => by cases h) hd) hf (lv_sub hl [0, 1] rfl))
-- ZoneFiles.again()I
def f_ZF_again_0 (nf : Nat) (wrS : Int32) (wrN : Nat) (wrA : Nat → Int32) (w1_1 : Int32) (w2_n : Nat) (w2_a : Nat → Int32) : Option ((Int32 × Int32 × Nat × (Nat → Int32)) × Nat × Nat) :=
  (f_By_clear nf w1_1).bind fun z_1 =>
  (f_By_putAll nf 0 wrS z_1 w2_n w2_a wrS wrN wrA).bind fun ((z_2, z_3, z_4), kc_9, ks_10) =>
  ad kc_9 ks_10 (some ((z_2, z_2, z_3, z_4), 0, 0))
def f_ZF_again (nf : Nat) (tpS : Int32) (tpN : Nat) (tpA : Nat → Int32) (wrS : Int32) (wrN : Nat) (wrA : Nat → Int32) : Option ((Int32 × Int32 × Nat × (Nat → Int32)) × Nat × Nat) :=
  f_ZF_again_0 nf wrS wrN wrA tpS tpN tpA
section
variable {p : Program} {l : Launch} {e : Env} {R : Room} {s : State} {m : MethodId} {args : Array Value} {below : List Frame} {meth : Method} {c : Code} {Q : State → Prop} {dC : Nat → ClassId} {dI : Nat → Nat → Nat} {nf : Nat} {A : Nat → Prop}
variable {h0 : Nat} {zfTp : Nat} {zfWr : Nat} {zfZs : Nat} {zfSp : Nat} {zfLt : Nat} {zfSt : Nat} {zfFd : Nat} {tpR : Nat} {wrR : Nat} {cAtpR : ClassId} {cAwrR : ClassId} {zfFc : Int32} {zfFp : Int32} {tpS : Int32} {tpN : Nat} {tpA : Nat → Int32} {wrS : Int32} {wrN : Nat} {wrA : Nat → Int32} {r0 : Int32} {v1_1 : Int32} {v2_n : Nat} {v2_a : Nat → Int32}
set_option maxHeartbeats 400000 in
set_option maxRecDepth 100000 in
theorem k_ZF_again_0 (C0 : Cx p s m meth c args R b_ZF_again "ZoneFiles" 1 (some .int) 4 86) (hST : ST A s s.heap) (hA : ∀ q, s.heap.size ≤ q → A q) (hE : ∀ (pc : Nat) (ls : Array Slot) {q2 : Nat} {q4 : Nat} {nA2 : ClassId} {nA4 : ClassId} (H : Heap) (locs : List Loc), decode b_ZF_again pc = .ok (.ireturn, 1) → narrow .int (.int r0) = .int r0 → va_P (dC, dI) classes [(h0, .inr (9, [.ref zfTp, .ref zfWr, .ref zfZs, .ref zfSp, .ref zfLt, .ref zfSt, .ref zfFd, .int zfFc, .int zfFp])), (zfTp, .inr (0, [.ref q2, .int v1_1])), (q2, .inl (nA2, v2_n, .inl v2_a)), (zfWr, .inr (0, [.ref q4, .int wrS])), (q4, .inl (nA4, wrN, .inl wrA))] H → va_D A [(h0, .inr (9, [.ref zfTp, .ref zfWr, .ref zfZs, .ref zfSp, .ref zfLt, .ref zfSt, .ref zfFd, .int zfFc, .int zfFp])), (zfTp, .inr (0, [.ref q2, .int v1_1])), (q2, .inl (nA2, v2_n, .inl v2_a)), (zfWr, .inr (0, [.ref q4, .int wrS])), (q4, .inl (nA4, wrN, .inl wrA))] → va_S A s.heap H locs → va_K (dC, dI) classes [(nA2, .byte), (nA4, .byte)] s → W p l e R s m args below meth c H locs R.cells R.slots Q (F0 m pc ls [.int r0])) {w1_1 : Int32} {w2_n : Nat} {w2_a : Nat → Int32} {kc ks : Nat} (hf : f_ZF_again_0 nf wrS wrN wrA w1_1 w2_n w2_a = some ((r0, v1_1, v2_n, v2_a), kc, ks)) {q2 : Nat} {nA2 : ClassId} {q4 : Nat} {nA4 : ClassId} {cells slots : Nat} {H : Heap} {locs : List Loc} {ls : Array Slot} (hK : va_K (dC, dI) classes [(nA2, .byte), (nA4, .byte)] s) (hP : va_P (dC, dI) classes [(h0, .inr (9, [.ref zfTp, .ref zfWr, .ref zfZs, .ref zfSp, .ref zfLt, .ref zfSt, .ref zfFd, .int zfFc, .int zfFp])), (zfTp, .inr (0, [.ref q2, .int w1_1])), (q2, .inl (nA2, w2_n, .inl w2_a)), (zfWr, .inr (0, [.ref q4, .int wrS])), (q4, .inl (nA4, wrN, .inl wrA))] H) (hD : va_D A [(h0, .inr (9, [.ref zfTp, .ref zfWr, .ref zfZs, .ref zfSp, .ref zfLt, .ref zfSt, .ref zfFd, .int zfFc, .int zfFp])), (zfTp, .inr (0, [.ref q2, .int w1_1])), (q2, .inl (nA2, w2_n, .inl w2_a)), (zfWr, .inr (0, [.ref q4, .int wrS])), (q4, .inl (nA4, wrN, .inl wrA))]) (hS : va_S A s.heap H locs) (hkc : cells + kc = R.cells) (hks : slots + ks = R.slots) (hl : lv_has ls 1 [(0, .ref h0)]) : W p l e R s m args below meth c H locs cells slots Q (F0 m 0 ls []) := by
  obtain ⟨hx, hb, hr, hml, hown, hts, hlocks, hRf, hRl⟩ := id C0
  obtain ⟨tms, hZms, hTms, tmg, hZmg, hTmg, hNW⟩ := id hST
  unfold f_ZF_again_0 at hf
  refine lv_aload_n hx hb d_ZF_again_0 rfl (lv_at hl 0 rfl) ?_
  refine va_get (D := (dC, dI)) (ci := 9) (v := .ref zfTp) (C := RZoneFiles) (T := TZoneFiles) (N := 9) hx hb hts in_ZoneFiles hown hK hP 0 rfl rfl 0 (by decide) (hts (.fieldLink "ZoneFiles" 12 "ZoneFiles" "tape" "LZoneFiles$Bytes;") m_2_117) (fun _ h9 => h9) rfl d_ZF_again_1 ?_
  obtain ⟨z_1, hc, hf⟩ := ob hf
  have hPc := hP.sub (ws' := [(zfTp, .inr (0, [.ref q2, .int w1_1]))]) [1] rfl
  have hDc := hD.sub (ws' := [(zfTp, .inr (0, [.ref q2, .int w1_1]))]) [1] (by decide) rfl
  have hKc := hK.sub (tys' := []) [] rfl
  have hFc := va_free (wc := [(zfTp, .inr (0, [.ref q2, .int w1_1]))]) hD hS hA [1] rfl
  refine cl_M (v := none) (st1 := []) (va_runV (As := []) (rest := []) ⟨hx, hb, hml, hown, hts⟩ (c_By_clear l dC dI zfTp q2 H.size nf w1_1 hc) (cwV 0 hts (gdV m_2_234 m_2_34 m_2_35 m_1_2 m_2_36) rfl rfl rfl (by decide +kernel) ⟨Nat.le_trans (Nat.le_of_ble_eq_true rfl) hRf, Nat.le_trans (Nat.le_of_ble_eq_true rfl) hRl⟩) ((MU.pre hPc hKc hDc (hST.mu hS hFc)).vir (va_recv hKc hPc (ci := 0) (q0 := 0) rfl rfl)) rfl rfl hl.1 rfl (lv_room (Nat.le_of_ble_eq_true rfl)) d_ZF_again_4 ⟨c0 hkc, c0 hks⟩) rfl hS (fun q _ h => hFc q h) hFc (fun t H1 locs ht hvm hB hz1 hk1 hS => ?_)
  obtain ⟨hP1, hK1, hD1⟩ := hB
  rw [ht] at hP1
  have hK1 := va_K.moved hvm.symm hK1
  obtain ⟨hP, hD⟩ := va_join (wr := [(h0, .inr (9, [.ref zfTp, .ref zfWr, .ref zfZs, .ref zfSp, .ref zfLt, .ref zfSt, .ref zfFd, .int zfFc, .int zfFp])), (q2, .inl (nA2, w2_n, .inl w2_a)), (zfWr, .inr (0, [.ref q4, .int wrS])), (q4, .inl (nA4, wrN, .inl wrA))]) (w1 := [(zfTp, .inr (0, [.ref q2, .int z_1]))]) hP hD [1] [0, 2, 3, 4] rfl rfl (by decide) (by decide) hk1 hFc hP1 hD1
  have hK := (hK.sub (tys' := [(nA2, .byte), (nA4, .byte)]) [0, 1] rfl).app hK1
  generalize H1 = H at hP hS ⊢
  have hP := hP.sub (ws' := [(h0, .inr (9, [.ref zfTp, .ref zfWr, .ref zfZs, .ref zfSp, .ref zfLt, .ref zfSt, .ref zfFd, .int zfFc, .int zfFp])), (zfTp, .inr (0, [.ref q2, .int z_1])), (q2, .inl (nA2, w2_n, .inl w2_a)), (zfWr, .inr (0, [.ref q4, .int wrS])), (q4, .inl (nA4, wrN, .inl wrA))]) [0, 4, 1, 2, 3] rfl
  have hD := hD.sub (ws' := [(h0, .inr (9, [.ref zfTp, .ref zfWr, .ref zfZs, .ref zfSp, .ref zfLt, .ref zfSt, .ref zfFd, .int zfFc, .int zfFp])), (zfTp, .inr (0, [.ref q2, .int z_1])), (q2, .inl (nA2, w2_n, .inl w2_a)), (zfWr, .inr (0, [.ref q4, .int wrS])), (q4, .inl (nA4, wrN, .inl wrA))]) [0, 4, 1, 2, 3] (by decide) rfl
  have hK := hK.sub (tys' := [(nA2, .byte), (nA4, .byte)]) [0, 1] rfl
  refine lv_aload_n hx hb d_ZF_again_7 rfl (lv_at hl 0 rfl) ?_
  refine va_get (D := (dC, dI)) (ci := 9) (v := .ref zfTp) (C := RZoneFiles) (T := TZoneFiles) (N := 9) hx hb hts in_ZoneFiles hown hK hP 0 rfl rfl 0 (by decide) (hts (.fieldLink "ZoneFiles" 12 "ZoneFiles" "tape" "LZoneFiles$Bytes;") m_2_117) (fun _ h9 => h9) rfl d_ZF_again_8 ?_
  refine lv_aload_n hx hb d_ZF_again_11 rfl (lv_at hl 0 rfl) ?_
  refine va_get (D := (dC, dI)) (ci := 9) (v := .ref zfWr) (C := RZoneFiles) (T := TZoneFiles) (N := 9) hx hb hts in_ZoneFiles hown hK hP 0 rfl rfl 1 (by decide) (hts (.fieldLink "ZoneFiles" 18 "ZoneFiles" "written" "LZoneFiles$Bytes;") m_2_118) (fun _ h9 => h9) rfl d_ZF_again_12 ?_
  refine lv_iconst (v := 0) hx hb d_ZF_again_15 (by decide) ?_
  refine lv_aload_n hx hb d_ZF_again_16 rfl (lv_at hl 0 rfl) ?_
  refine va_get (D := (dC, dI)) (ci := 9) (v := .ref zfWr) (C := RZoneFiles) (T := TZoneFiles) (N := 9) hx hb hts in_ZoneFiles hown hK hP 0 rfl rfl 1 (by decide) (hts (.fieldLink "ZoneFiles" 18 "ZoneFiles" "written" "LZoneFiles$Bytes;") m_2_118) (fun _ h9 => h9) rfl d_ZF_again_17 ?_
  refine va_get (D := (dC, dI)) (ci := 0) (v := .int wrS) (C := RBytes) (T := TBytes) (N := 2) hx hb hts in_Bytes hown hK hP 3 rfl rfl 1 (by decide) (hts (.fieldLink "ZoneFiles" 63 "ZoneFiles$Bytes" "size" "I") m_1_39) (fun _ h9 => h9) rfl d_ZF_again_20 ?_
  obtain ⟨⟨⟨z_2, z_3, z_4⟩, kc_9, ks_10⟩, hc, hf⟩ := ob hf
  obtain ⟨kc, ks, hf, ekc, eks⟩ := oa hf
  have hPc := hP.sub (ws' := [(zfTp, .inr (0, [.ref q2, .int z_1])), (q2, .inl (nA2, w2_n, .inl w2_a)), (zfWr, .inr (0, [.ref q4, .int wrS])), (q4, .inl (nA4, wrN, .inl wrA))]) [1, 2, 3, 4] rfl
  have hDc := hD.sub (ws' := [(zfTp, .inr (0, [.ref q2, .int z_1])), (q2, .inl (nA2, w2_n, .inl w2_a)), (zfWr, .inr (0, [.ref q4, .int wrS])), (q4, .inl (nA4, wrN, .inl wrA))]) [1, 2, 3, 4] (by decide) rfl
  have hKc := hK.sub (tys' := [(nA2, .byte), (nA4, .byte)]) [0, 1] rfl
  have hFc := va_free (wc := [(zfTp, .inr (0, [.ref q2, .int z_1])), (q2, .inl (nA2, w2_n, .inl w2_a)), (zfWr, .inr (0, [.ref q4, .int wrS])), (q4, .inl (nA4, wrN, .inl wrA))]) hD hS hA [1, 2, 3, 4] rfl
  refine cl_M (v := none) (st1 := []) (va_runV (As := [.ref zfWr, .int 0, .int wrS]) (rest := []) ⟨hx, hb, hml, hown, hts⟩ (c_By_putAll l dC dI zfTp zfWr q2 q4 nA2 nA4 H.size nf 0 wrS z_1 w2_n w2_a wrS wrN wrA hc) (cwV 3 hts (gdV m_3_7 m_3_8 m_3_9 m_1_2 m_3_10) rfl rfl rfl (by decide +kernel) ⟨Nat.le_trans (Nat.le_of_ble_eq_true rfl) hRf, Nat.le_trans (Nat.le_of_ble_eq_true rfl) hRl⟩) ((MU.pre hPc hKc hDc (hST.mu hS hFc)).vir (va_recv hKc hPc (ci := 0) (q0 := 0) rfl rfl)) rfl rfl hl.1 rfl (lv_room (Nat.le_of_ble_eq_true rfl)) d_ZF_again_23 ⟨cb hkc ekc, cb hks eks⟩) rfl hS (fun q _ h => hFc q h) hFc (fun t H1 locs ht hvm hB hz1 hk1 hS => ?_)
  obtain ⟨q_5, q_6, cq_7, cq_8, hP1, hK1, hD1⟩ := hB
  rw [ht] at hP1
  have hK1 := va_K.moved hvm.symm hK1
  obtain ⟨hP, hD⟩ := va_join (wr := [(h0, .inr (9, [.ref zfTp, .ref zfWr, .ref zfZs, .ref zfSp, .ref zfLt, .ref zfSt, .ref zfFd, .int zfFc, .int zfFp]))]) (w1 := [(zfTp, .inr (0, [.ref q_5, .int z_2])), (q_5, .inl (cq_7, z_3, .inl z_4)), (zfWr, .inr (0, [.ref q_6, .int wrS])), (q_6, .inl (cq_8, wrN, .inl wrA))]) hP hD [1, 2, 3, 4] [0] rfl rfl (by decide) (by decide) hk1 hFc hP1 hD1
  have hK := (hK.sub (tys' := []) [] rfl).app hK1
  generalize H1 = H at hP hS ⊢
  have hP := hP.sub (ws' := [(h0, .inr (9, [.ref zfTp, .ref zfWr, .ref zfZs, .ref zfSp, .ref zfLt, .ref zfSt, .ref zfFd, .int zfFc, .int zfFp])), (zfTp, .inr (0, [.ref q_5, .int z_2])), (q_5, .inl (cq_7, z_3, .inl z_4)), (zfWr, .inr (0, [.ref q_6, .int wrS])), (q_6, .inl (cq_8, wrN, .inl wrA))]) [0, 1, 2, 3, 4] rfl
  have hD := hD.sub (ws' := [(h0, .inr (9, [.ref zfTp, .ref zfWr, .ref zfZs, .ref zfSp, .ref zfLt, .ref zfSt, .ref zfFd, .int zfFc, .int zfFp])), (zfTp, .inr (0, [.ref q_5, .int z_2])), (q_5, .inl (cq_7, z_3, .inl z_4)), (zfWr, .inr (0, [.ref q_6, .int wrS])), (q_6, .inl (cq_8, wrN, .inl wrA))]) [0, 1, 2, 3, 4] (by decide) rfl
  have hK := hK.sub (tys' := [(cq_7, .byte), (cq_8, .byte)]) [0, 1] rfl
  have hkc := ck hkc ekc
  have hks := ck hks eks
  generalize cells + kc_9 = cells at hkc ⊢
  generalize slots + ks_10 = slots at hks ⊢
  refine lv_aload_n hx hb d_ZF_again_26 rfl (lv_at hl 0 rfl) ?_
  refine va_get (D := (dC, dI)) (ci := 9) (v := .ref zfTp) (C := RZoneFiles) (T := TZoneFiles) (N := 9) hx hb hts in_ZoneFiles hown hK hP 0 rfl rfl 0 (by decide) (hts (.fieldLink "ZoneFiles" 12 "ZoneFiles" "tape" "LZoneFiles$Bytes;") m_2_117) (fun _ h9 => h9) rfl d_ZF_again_27 ?_
  refine va_get (D := (dC, dI)) (ci := 0) (v := .int z_2) (C := RBytes) (T := TBytes) (N := 2) hx hb hts in_Bytes hown hK hP 1 rfl rfl 1 (by decide) (hts (.fieldLink "ZoneFiles" 63 "ZoneFiles$Bytes" "size" "I") m_1_39) (fun _ h9 => h9) rfl d_ZF_again_30 ?_
  cases rs hf
  have hkc : cells = R.cells := hkc
  have hks : slots = R.slots := hks
  subst hkc; subst hks
  exact hE _ _ _ _ d_ZF_again_33 rfl hP hD hS hK
end
set_option maxHeartbeats 400000 in
set_option maxRecDepth 100000 in
theorem c_ZF_again (l : Launch) (dC : Nat → ClassId) (dI : Nat → Nat → Nat) (h0 : Nat) (zfTp : Nat) (zfWr : Nat) (zfZs : Nat) (zfSp : Nat) (zfLt : Nat) (zfSt : Nat) (zfFd : Nat) (tpR : Nat) (wrR : Nat) (cAtpR : ClassId) (cAwrR : ClassId) (sz : Nat) (nf : Nat) (zfFc : Int32) (zfFp : Int32) (tpS : Int32) (tpN : Nat) (tpA : Nat → Int32) (wrS : Int32) (wrN : Nat) (wrA : Nat → Int32) {r0 : Int32} {v1_1 : Int32} {v2_n : Nat} {v2_a : Nat → Int32} {kc ks : Nat} (hf : f_ZF_again nf tpS tpN tpA wrS wrN wrA = some ((r0, v1_1, v2_n, v2_a), kc, ks)) : Met l y_ZF_again (wd y_ZF_again b_ZF_again 1 (some .int)) ({ frames := 4, cells := kc, slots := ks, locals := 86 }) (MU dC dI [(h0, .inr (9, [.ref zfTp, .ref zfWr, .ref zfZs, .ref zfSp, .ref zfLt, .ref zfSt, .ref zfFd, .int zfFc, .int zfFp])), (zfTp, .inr (0, [.ref tpR, .int tpS])), (tpR, .inl (cAtpR, tpN, .inl tpA)), (zfWr, .inr (0, [.ref wrR, .int wrS])), (wrR, .inl (cAwrR, wrN, .inl wrA))] [(cAtpR, .byte), (cAwrR, .byte)] sz [.ref h0]) (MV (some (.int r0)) (fun t => ∃ (q2 : Nat) (q4 : Nat) (nA2 : ClassId) (nA4 : ClassId), va_P (dC, dI) classes [(h0, .inr (9, [.ref zfTp, .ref zfWr, .ref zfZs, .ref zfSp, .ref zfLt, .ref zfSt, .ref zfFd, .int zfFc, .int zfFp])), (zfTp, .inr (0, [.ref q2, .int v1_1])), (q2, .inl (nA2, v2_n, .inl v2_a)), (zfWr, .inr (0, [.ref q4, .int wrS])), (q4, .inl (nA4, wrN, .inl wrA))] t.heap ∧ va_K (dC, dI) classes [(nA2, .byte), (nA4, .byte)] t ∧ va_D (va_A [(h0, .inr (9, [.ref zfTp, .ref zfWr, .ref zfZs, .ref zfSp, .ref zfLt, .ref zfSt, .ref zfFd, .int zfFc, .int zfFp])), (zfTp, .inr (0, [.ref tpR, .int tpS])), (tpR, .inl (cAtpR, tpN, .inl tpA)), (zfWr, .inr (0, [.ref wrR, .int wrS])), (wrR, .inl (cAwrR, wrN, .inl wrA))] sz) [(h0, .inr (9, [.ref zfTp, .ref zfWr, .ref zfZs, .ref zfSp, .ref zfLt, .ref zfSt, .ref zfFd, .int zfFc, .int zfFp])), (zfTp, .inr (0, [.ref q2, .int v1_1])), (q2, .inl (nA2, v2_n, .inl v2_a)), (zfWr, .inr (0, [.ref q4, .int wrS])), (q4, .inl (nA4, wrN, .inl wrA))]) (va_A [(h0, .inr (9, [.ref zfTp, .ref zfWr, .ref zfZs, .ref zfSp, .ref zfLt, .ref zfSt, .ref zfFd, .int zfFc, .int zfFp])), (zfTp, .inr (0, [.ref tpR, .int tpS])), (tpR, .inl (cAtpR, tpN, .inl tpA)), (zfWr, .inr (0, [.ref wrR, .int wrS])), (wrR, .inl (cAwrR, wrN, .inl wrA))] sz)) kc ks (va_A [(h0, .inr (9, [.ref zfTp, .ref zfWr, .ref zfZs, .ref zfSp, .ref zfLt, .ref zfSt, .ref zfFd, .int zfFc, .int zfFp])), (zfTp, .inr (0, [.ref tpR, .int tpS])), (tpR, .inl (cAtpR, tpN, .inl tpA)), (zfWr, .inr (0, [.ref wrR, .int wrS])), (wrR, .inl (cAwrR, wrN, .inl wrA))] sz) :=
  met_M (plainFor_of_name (by decide)) (Nat.le_of_ble_eq_true rfl) (fun p e R s m args below meth c ls hRc hRs hsz hin C0 hST hK hP hD hl => by
    obtain ⟨hx, hb, hr, hml, hown, hts, hlocks, hRf, hRl⟩ := id C0
    subst hRc; subst hRs
    subst hsz
    have hA : ∀ q : Nat, s.heap.size ≤ q → va_A [(h0, .inr (9, [.ref zfTp, .ref zfWr, .ref zfZs, .ref zfSp, .ref zfLt, .ref zfSt, .ref zfFd, .int zfFc, .int zfFp])), (zfTp, .inr (0, [.ref tpR, .int tpS])), (tpR, .inl (cAtpR, tpN, .inl tpA)), (zfWr, .inr (0, [.ref wrR, .int wrS])), (wrR, .inl (cAwrR, wrN, .inl wrA))] s.heap.size q := fun q h => Or.inr h
    have hS : va_S (va_A [(h0, .inr (9, [.ref zfTp, .ref zfWr, .ref zfZs, .ref zfSp, .ref zfLt, .ref zfSt, .ref zfFd, .int zfFc, .int zfFp])), (zfTp, .inr (0, [.ref tpR, .int tpS])), (tpR, .inl (cAtpR, tpN, .inl tpA)), (zfWr, .inr (0, [.ref wrR, .int wrS])), (wrR, .inl (cAwrR, wrN, .inl wrA))] s.heap.size) s.heap s.heap [] := va_S.rf
    have hkc := Nat.zero_add R.cells
    have hks := Nat.zero_add R.slots
    unfold f_ZF_again at hf
    exact k_ZF_again_0 C0 hST hA (fun pc ls {q2} {q4} {nA2} {nA4} H locs hd hn hP hD hS hK => W.zret hx hb hr hn (fun t ht hW => ⟨⟨rfl, ⟨q2, q4, nA2, nA4, by rw [ht]; exact hP, va_K.moved hW.alike hK, hD⟩⟩, hS.F ht⟩) hS.2.2 hd) hf hK hP hD hS hkc hks (lv_sub hl [0] rfl))
-- ZoneFiles.told(I)J
def f_ZF_told_48 (nf : Nat) (s0 : Int64) : Option (Int64) :=
  some s0
def f_ZF_told_0 (nf : Nat) (lCount : Int32) (lExp : Int64) (x1 : Int32) : Option (Int64) :=
  (f_ZF_checkIndex nf x1 2).bind fun _u =>
  if lCount = 0 then
  none
  else
  if x1 = 0 then
    f_ZF_told_48 nf lCount.toInt64
    else
    f_ZF_told_48 nf lExp
def f_ZF_told (nf : Nat) (p0 : Int32) (lCount : Int32) (lExp : Int64) : Option (Int64) :=
  f_ZF_told_0 nf lCount lExp p0
section
variable {p : Program} {l : Launch} {e : Env} {R : Room} {s : State} {m : MethodId} {args : Array Value} {below : List Frame} {meth : Method} {c : Code} {Q : State → Prop} {dC : Nat → ClassId} {dI : Nat → Nat → Nat} {nf : Nat}
variable {h0 : Nat} {zfTp : Nat} {zfWr : Nat} {zfZs : Nat} {zfSp : Nat} {zfLt : Nat} {zfSt : Nat} {zfFd : Nat} {lTi : Nat} {lAh : Nat} {zfFc : Int32} {zfFp : Int32} {lCount : Int32} {lExp : Int64} {r0 : Int64}
set_option maxHeartbeats 400000 in
set_option maxRecDepth 100000 in
theorem k_ZF_told_48 (C0 : Cx p s m meth c args R b_ZF_told "ZoneFiles" 2 (some .long) 1 21) (hST : ST (fun _ => False) s s.heap) (hK : va_K (dC, dI) classes [] s) (hP : va_P (dC, dI) classes [(h0, .inr (9, [.ref zfTp, .ref zfWr, .ref zfZs, .ref zfSp, .ref zfLt, .ref zfSt, .ref zfFd, .int zfFc, .int zfFp])), (zfLt, .inr (4, [.int lCount, .ref lTi, .ref lAh, .long lExp]))] s.heap) (hE : ∀ (pc : Nat) (ls : Array Slot), decode b_ZF_told pc = .ok (.lreturn, 1) → W p l e R s m args below meth c s.heap [] 0 0 Q (F0 m pc ls [.long r0])) {s0 : Int64} (hf : f_ZF_told_48 nf s0 = some r0) {ls : Array Slot} (hl : lv_has ls 2 []) : W p l e R s m args below meth c s.heap [] 0 0 Q (F0 m 48 ls [.long s0]) := by
  obtain ⟨hx, hb, hr, hml, hown, hts, hlocks, hRf, hRl⟩ := id C0
  obtain ⟨tms, hZms, hTms, tmg, hZmg, hTmg, hNW⟩ := id hST
  unfold f_ZF_told_48 at hf
  have e := rs hf
  subst e
  exact hE _ _ d_ZF_told_48
set_option maxHeartbeats 400000 in
set_option maxRecDepth 100000 in
theorem k_ZF_told_0 (C0 : Cx p s m meth c args R b_ZF_told "ZoneFiles" 2 (some .long) 1 21) (hST : ST (fun _ => False) s s.heap) (hK : va_K (dC, dI) classes [] s) (hP : va_P (dC, dI) classes [(h0, .inr (9, [.ref zfTp, .ref zfWr, .ref zfZs, .ref zfSp, .ref zfLt, .ref zfSt, .ref zfFd, .int zfFc, .int zfFp])), (zfLt, .inr (4, [.int lCount, .ref lTi, .ref lAh, .long lExp]))] s.heap) (hE : ∀ (pc : Nat) (ls : Array Slot), decode b_ZF_told pc = .ok (.lreturn, 1) → W p l e R s m args below meth c s.heap [] 0 0 Q (F0 m pc ls [.long r0])) {x1 : Int32} (hf : f_ZF_told_0 nf lCount lExp x1 = some r0) {ls : Array Slot} (hl : lv_has ls 2 [(0, .ref h0), (1, .int x1)]) : W p l e R s m args below meth c s.heap [] 0 0 Q (F0 m 0 ls []) := by
  obtain ⟨hx, hb, hr, hml, hown, hts, hlocks, hRf, hRl⟩ := id C0
  obtain ⟨tms, hZms, hTms, tmg, hZmg, hTmg, hNW⟩ := id hST
  unfold f_ZF_told_0 at hf
  refine lv_iload_n hx hb d_ZF_told_0 rfl (lv_at hl 1 rfl) ?_
  refine lv_iconst (v := 2) hx hb d_ZF_told_1 (by decide) ?_
  obtain ⟨_u, hc, hf⟩ := ob hf
  refine cl_S (v := none) (st1 := []) (va_runS (As := [.int x1, .int 2]) (rest := []) ⟨hx, hb, hml, hown, hts⟩ (c_ZF_checkIndex l dC dI nf x1 2 hc) (va_cwS 2 hts (gdS m_4_234 m_4_235 m_1_1 m_4_236) rfl rfl rfl (by decide +kernel) ⟨Nat.le_trans (Nat.le_of_ble_eq_true rfl) hRf, Nat.le_trans (Nat.le_of_ble_eq_true rfl) hRl⟩) (RO.pre0 hK hST).sta rfl rfl hl.1 rfl (lv_room (Nat.le_of_ble_eq_true rfl)) d_ZF_told_2 ⟨Nat.zero_le _, Nat.zero_le _⟩) rfl ?_
  refine lv_aload_n hx hb d_ZF_told_5 rfl (lv_at hl 0 rfl) ?_
  refine va_get (D := (dC, dI)) (ci := 9) (v := .ref zfLt) (C := RZoneFiles) (T := TZoneFiles) (N := 9) hx hb hts in_ZoneFiles hown hK hP 0 rfl rfl 4 (by decide) (hts (.fieldLink "ZoneFiles" 38 "ZoneFiles" "leapTable" "LZoneFiles$LeapTable;") m_2_121) (fun _ h9 => h9) rfl d_ZF_told_6 ?_
  refine va_get (D := (dC, dI)) (ci := 4) (v := .int lCount) (C := RLeapTable) (T := TLeapTable) (N := 4) hx hb hts in_LeapTable hown hK hP 1 rfl rfl 0 (by decide) (hts (.fieldLink "ZoneFiles" 318 "ZoneFiles$LeapTable" "count" "I") m_2_98) (fun _ h9 => h9) rfl d_ZF_told_9 ?_
  refine lv_if_ne (tgt := 26) hx hb d_ZF_told_12 (by decide) (fun c_1 => ?_) (fun c_1 => ?_)
  · have hf := it_f c_1 hf
    refine lv_iload_n hx hb d_ZF_told_26 rfl (lv_at hl 1 rfl) ?_
    refine lv_if_ne (tgt := 41) hx hb d_ZF_told_27 (by decide) (fun c_2 => ?_) (fun c_2 => ?_)
    · have hf := it_f c_2 hf
      refine lv_aload_n hx hb d_ZF_told_41 rfl (lv_at hl 0 rfl) ?_
      refine va_get (D := (dC, dI)) (ci := 9) (v := .ref zfLt) (C := RZoneFiles) (T := TZoneFiles) (N := 9) hx hb hts in_ZoneFiles hown hK hP 0 rfl rfl 4 (by decide) (hts (.fieldLink "ZoneFiles" 38 "ZoneFiles" "leapTable" "LZoneFiles$LeapTable;") m_2_121) (fun _ h9 => h9) rfl d_ZF_told_42 ?_
      refine va_get (D := (dC, dI)) (ci := 4) (v := .long lExp) (C := RLeapTable) (T := TLeapTable) (N := 4) hx hb hts in_LeapTable hown hK hP 1 rfl rfl 3 (by decide) (hts (.fieldLink "ZoneFiles" 323 "ZoneFiles$LeapTable" "expires" "J") m_2_107) (fun _ h9 => h9) rfl d_ZF_told_45 ?_
      exact k_ZF_told_48 C0 hST hK hP hE hf (lv_sub hl [] rfl)
    · have hf := it_t c_2 hf
      refine lv_aload_n hx hb d_ZF_told_30 rfl (lv_at hl 0 rfl) ?_
      refine va_get (D := (dC, dI)) (ci := 9) (v := .ref zfLt) (C := RZoneFiles) (T := TZoneFiles) (N := 9) hx hb hts in_ZoneFiles hown hK hP 0 rfl rfl 4 (by decide) (hts (.fieldLink "ZoneFiles" 38 "ZoneFiles" "leapTable" "LZoneFiles$LeapTable;") m_2_121) (fun _ h9 => h9) rfl d_ZF_told_31 ?_
      refine va_get (D := (dC, dI)) (ci := 4) (v := .int lCount) (C := RLeapTable) (T := TLeapTable) (N := 4) hx hb hts in_LeapTable hown hK hP 1 rfl rfl 0 (by decide) (hts (.fieldLink "ZoneFiles" 318 "ZoneFiles$LeapTable" "count" "I") m_2_98) (fun _ h9 => h9) rfl d_ZF_told_34 ?_
      refine lv_i2l hx hb d_ZF_told_37 rfl ?_
      refine lv_goto (tgt := 48) hx hb d_ZF_told_38 (by decide) ?_
      exact k_ZF_told_48 C0 hST hK hP hE hf (lv_sub hl [] rfl)
  · have hf := it_t c_1 hf
    exact absurd hf (by simp)
end
set_option maxHeartbeats 400000 in
set_option maxRecDepth 100000 in
theorem c_ZF_told (l : Launch) (dC : Nat → ClassId) (dI : Nat → Nat → Nat) (h0 : Nat) (zfTp : Nat) (zfWr : Nat) (zfZs : Nat) (zfSp : Nat) (zfLt : Nat) (zfSt : Nat) (zfFd : Nat) (lTi : Nat) (lAh : Nat) (nf : Nat) (p0 : Int32) (zfFc : Int32) (zfFp : Int32) (lCount : Int32) (lExp : Int64) {r0 : Int64} (hf : f_ZF_told nf p0 lCount lExp = some r0) : Met l y_ZF_told (wd y_ZF_told b_ZF_told 2 (some .long)) ({ frames := 1, cells := 0, slots := 0, locals := 21 }) (RO dC dI [(h0, .inr (9, [.ref zfTp, .ref zfWr, .ref zfZs, .ref zfSp, .ref zfLt, .ref zfSt, .ref zfFd, .int zfFc, .int zfFp])), (zfLt, .inr (4, [.int lCount, .ref lTi, .ref lAh, .long lExp]))] [] [.ref h0, .int p0]) (SV (some (.long r0))) 0 0 (fun _ => False) :=
  met_S (plainFor_of_name (by decide)) (Nat.le_of_ble_eq_true rfl) (fun p e R s m args below meth c ls C0 hST hK hP hl => by
    obtain ⟨hx, hb, hr, hml, hown, hts, hlocks, hRf, hRl⟩ := id C0
    unfold f_ZF_told at hf
    exact k_ZF_told_0 C0 hST hK hP (fun pc ls hd => W.lret hx hb hr (fun t ht hW => ⟨rfl, ht⟩) (fun q h => by cases h) hd) hf (lv_sub hl [0, 1] rfl))
-- ZoneFiles.row(II)J
def f_ZF_row_41 (nf : Nat) (s0 : Int64) : Option (Int64) :=
  some s0
def f_ZF_row_0 (nf : Nat) (lCount : Int32) (lTiA : Nat → Int64) (lAhA : Nat → Int64) (x1 : Int32) (x2 : Int32) : Option (Int64) :=
  (f_ZF_checkIndex nf x1 lCount).bind fun _u =>
  (f_ZF_checkIndex nf x2 2).bind fun _u =>
  if x2 = 0 then
  if x1 < 0 ∨ 60 ≤ x1.toNatClampNeg then none else
    f_ZF_row_41 nf (lTiA x1.toNatClampNeg)
  else
  if x1 < 0 ∨ 60 ≤ x1.toNatClampNeg then none else
    f_ZF_row_41 nf (lAhA x1.toNatClampNeg)
def f_ZF_row (nf : Nat) (p0 : Int32) (p1 : Int32) (lCount : Int32) (lTiA : Nat → Int64) (lAhA : Nat → Int64) : Option (Int64) :=
  f_ZF_row_0 nf lCount lTiA lAhA p0 p1
section
variable {p : Program} {l : Launch} {e : Env} {R : Room} {s : State} {m : MethodId} {args : Array Value} {below : List Frame} {meth : Method} {c : Code} {Q : State → Prop} {dC : Nat → ClassId} {dI : Nat → Nat → Nat} {nf : Nat}
variable {h0 : Nat} {zfTp : Nat} {zfWr : Nat} {zfZs : Nat} {zfSp : Nat} {zfLt : Nat} {zfSt : Nat} {zfFd : Nat} {lTi : Nat} {lAh : Nat} {cAlTi : ClassId} {cAlAh : ClassId} {zfFc : Int32} {zfFp : Int32} {lCount : Int32} {lExp : Int64} {lTiA : Nat → Int64} {lAhA : Nat → Int64} {r0 : Int64}
set_option maxHeartbeats 400000 in
set_option maxRecDepth 100000 in
theorem k_ZF_row_41 (C0 : Cx p s m meth c args R b_ZF_row "ZoneFiles" 3 (some .long) 1 21) (hST : ST (fun _ => False) s s.heap) (hK : va_K (dC, dI) classes [(cAlTi, .long), (cAlAh, .long)] s) (hP : va_P (dC, dI) classes [(h0, .inr (9, [.ref zfTp, .ref zfWr, .ref zfZs, .ref zfSp, .ref zfLt, .ref zfSt, .ref zfFd, .int zfFc, .int zfFp])), (zfLt, .inr (4, [.int lCount, .ref lTi, .ref lAh, .long lExp])), (lTi, .inl (cAlTi, 60, .inr (.inl lTiA))), (lAh, .inl (cAlAh, 60, .inr (.inl lAhA)))] s.heap) (hE : ∀ (pc : Nat) (ls : Array Slot), decode b_ZF_row pc = .ok (.lreturn, 1) → W p l e R s m args below meth c s.heap [] 0 0 Q (F0 m pc ls [.long r0])) {s0 : Int64} (hf : f_ZF_row_41 nf s0 = some r0) {ls : Array Slot} (hl : lv_has ls 3 []) : W p l e R s m args below meth c s.heap [] 0 0 Q (F0 m 41 ls [.long s0]) := by
  obtain ⟨hx, hb, hr, hml, hown, hts, hlocks, hRf, hRl⟩ := id C0
  obtain ⟨tms, hZms, hTms, tmg, hZmg, hTmg, hNW⟩ := id hST
  unfold f_ZF_row_41 at hf
  have e := rs hf
  subst e
  exact hE _ _ d_ZF_row_41
set_option maxHeartbeats 400000 in
set_option maxRecDepth 100000 in
theorem k_ZF_row_0 (C0 : Cx p s m meth c args R b_ZF_row "ZoneFiles" 3 (some .long) 1 21) (hST : ST (fun _ => False) s s.heap) (hK : va_K (dC, dI) classes [(cAlTi, .long), (cAlAh, .long)] s) (hP : va_P (dC, dI) classes [(h0, .inr (9, [.ref zfTp, .ref zfWr, .ref zfZs, .ref zfSp, .ref zfLt, .ref zfSt, .ref zfFd, .int zfFc, .int zfFp])), (zfLt, .inr (4, [.int lCount, .ref lTi, .ref lAh, .long lExp])), (lTi, .inl (cAlTi, 60, .inr (.inl lTiA))), (lAh, .inl (cAlAh, 60, .inr (.inl lAhA)))] s.heap) (hE : ∀ (pc : Nat) (ls : Array Slot), decode b_ZF_row pc = .ok (.lreturn, 1) → W p l e R s m args below meth c s.heap [] 0 0 Q (F0 m pc ls [.long r0])) {x1 : Int32} {x2 : Int32} (hf : f_ZF_row_0 nf lCount lTiA lAhA x1 x2 = some r0) {ls : Array Slot} (hl : lv_has ls 3 [(0, .ref h0), (1, .int x1), (2, .int x2)]) : W p l e R s m args below meth c s.heap [] 0 0 Q (F0 m 0 ls []) := by
  obtain ⟨hx, hb, hr, hml, hown, hts, hlocks, hRf, hRl⟩ := id C0
  obtain ⟨tms, hZms, hTms, tmg, hZmg, hTmg, hNW⟩ := id hST
  unfold f_ZF_row_0 at hf
  refine lv_iload_n hx hb d_ZF_row_0 rfl (lv_at hl 1 rfl) ?_
  refine lv_aload_n hx hb d_ZF_row_1 rfl (lv_at hl 0 rfl) ?_
  refine va_get (D := (dC, dI)) (ci := 9) (v := .ref zfLt) (C := RZoneFiles) (T := TZoneFiles) (N := 9) hx hb hts in_ZoneFiles hown hK hP 0 rfl rfl 4 (by decide) (hts (.fieldLink "ZoneFiles" 38 "ZoneFiles" "leapTable" "LZoneFiles$LeapTable;") m_2_121) (fun _ h9 => h9) rfl d_ZF_row_2 ?_
  refine va_get (D := (dC, dI)) (ci := 4) (v := .int lCount) (C := RLeapTable) (T := TLeapTable) (N := 4) hx hb hts in_LeapTable hown hK hP 1 rfl rfl 0 (by decide) (hts (.fieldLink "ZoneFiles" 318 "ZoneFiles$LeapTable" "count" "I") m_2_98) (fun _ h9 => h9) rfl d_ZF_row_5 ?_
  obtain ⟨_u, hc, hf⟩ := ob hf
  refine cl_S (v := none) (st1 := []) (va_runS (As := [.int x1, .int lCount]) (rest := []) ⟨hx, hb, hml, hown, hts⟩ (c_ZF_checkIndex l dC dI nf x1 lCount hc) (va_cwS 2 hts (gdS m_4_234 m_4_235 m_1_1 m_4_236) rfl rfl rfl (by decide +kernel) ⟨Nat.le_trans (Nat.le_of_ble_eq_true rfl) hRf, Nat.le_trans (Nat.le_of_ble_eq_true rfl) hRl⟩) (RO.pre0 hK hST).sta rfl rfl hl.1 rfl (lv_room (Nat.le_of_ble_eq_true rfl)) d_ZF_row_8 ⟨Nat.zero_le _, Nat.zero_le _⟩) rfl ?_
  refine lv_iload_n hx hb d_ZF_row_11 rfl (lv_at hl 2 rfl) ?_
  refine lv_iconst (v := 2) hx hb d_ZF_row_12 (by decide) ?_
  obtain ⟨_u, hc, hf⟩ := ob hf
  refine cl_S (v := none) (st1 := []) (va_runS (As := [.int x2, .int 2]) (rest := []) ⟨hx, hb, hml, hown, hts⟩ (c_ZF_checkIndex l dC dI nf x2 2 hc) (va_cwS 2 hts (gdS m_4_234 m_4_235 m_1_1 m_4_236) rfl rfl rfl (by decide +kernel) ⟨Nat.le_trans (Nat.le_of_ble_eq_true rfl) hRf, Nat.le_trans (Nat.le_of_ble_eq_true rfl) hRl⟩) (RO.pre0 hK hST).sta rfl rfl hl.1 rfl (lv_room (Nat.le_of_ble_eq_true rfl)) d_ZF_row_13 ⟨Nat.zero_le _, Nat.zero_le _⟩) rfl ?_
  refine lv_iload_n hx hb d_ZF_row_16 rfl (lv_at hl 2 rfl) ?_
  refine lv_if_ne (tgt := 32) hx hb d_ZF_row_17 (by decide) (fun c_1 => ?_) (fun c_1 => ?_)
  · have hf := it_f c_1 hf
    refine lv_aload_n hx hb d_ZF_row_32 rfl (lv_at hl 0 rfl) ?_
    refine va_get (D := (dC, dI)) (ci := 9) (v := .ref zfLt) (C := RZoneFiles) (T := TZoneFiles) (N := 9) hx hb hts in_ZoneFiles hown hK hP 0 rfl rfl 4 (by decide) (hts (.fieldLink "ZoneFiles" 38 "ZoneFiles" "leapTable" "LZoneFiles$LeapTable;") m_2_121) (fun _ h9 => h9) rfl d_ZF_row_33 ?_
    refine va_get (D := (dC, dI)) (ci := 4) (v := .ref lAh) (C := RLeapTable) (T := TLeapTable) (N := 4) hx hb hts in_LeapTable hown hK hP 1 rfl rfl 2 (by decide) (hts (.fieldLink "ZoneFiles" 328 "ZoneFiles$LeapTable" "aheads" "[J") m_2_104) (fun _ h9 => h9) rfl d_ZF_row_36 ?_
    refine lv_iload_n hx hb d_ZF_row_39 rfl (lv_at hl 1 rfl) ?_
    obtain ⟨c_2, hf⟩ := it_n hf
    refine va_lald hx hb hK hP 3 1 rfl rfl c_2 d_ZF_row_40 ?_
    exact k_ZF_row_41 C0 hST hK hP hE hf (lv_sub hl [] rfl)
  · have hf := it_t c_1 hf
    refine lv_aload_n hx hb d_ZF_row_20 rfl (lv_at hl 0 rfl) ?_
    refine va_get (D := (dC, dI)) (ci := 9) (v := .ref zfLt) (C := RZoneFiles) (T := TZoneFiles) (N := 9) hx hb hts in_ZoneFiles hown hK hP 0 rfl rfl 4 (by decide) (hts (.fieldLink "ZoneFiles" 38 "ZoneFiles" "leapTable" "LZoneFiles$LeapTable;") m_2_121) (fun _ h9 => h9) rfl d_ZF_row_21 ?_
    refine va_get (D := (dC, dI)) (ci := 4) (v := .ref lTi) (C := RLeapTable) (T := TLeapTable) (N := 4) hx hb hts in_LeapTable hown hK hP 1 rfl rfl 1 (by decide) (hts (.fieldLink "ZoneFiles" 327 "ZoneFiles$LeapTable" "times" "[J") m_2_101) (fun _ h9 => h9) rfl d_ZF_row_24 ?_
    refine lv_iload_n hx hb d_ZF_row_27 rfl (lv_at hl 1 rfl) ?_
    obtain ⟨c_3, hf⟩ := it_n hf
    refine va_lald hx hb hK hP 2 0 rfl rfl c_3 d_ZF_row_28 ?_
    refine lv_goto (tgt := 41) hx hb d_ZF_row_29 (by decide) ?_
    exact k_ZF_row_41 C0 hST hK hP hE hf (lv_sub hl [] rfl)
end
set_option maxHeartbeats 400000 in
set_option maxRecDepth 100000 in
theorem c_ZF_row (l : Launch) (dC : Nat → ClassId) (dI : Nat → Nat → Nat) (h0 : Nat) (zfTp : Nat) (zfWr : Nat) (zfZs : Nat) (zfSp : Nat) (zfLt : Nat) (zfSt : Nat) (zfFd : Nat) (lTi : Nat) (lAh : Nat) (cAlTi : ClassId) (cAlAh : ClassId) (nf : Nat) (p0 : Int32) (p1 : Int32) (zfFc : Int32) (zfFp : Int32) (lCount : Int32) (lExp : Int64) (lTiA : Nat → Int64) (lAhA : Nat → Int64) {r0 : Int64} (hf : f_ZF_row nf p0 p1 lCount lTiA lAhA = some r0) : Met l y_ZF_row (wd y_ZF_row b_ZF_row 3 (some .long)) ({ frames := 1, cells := 0, slots := 0, locals := 21 }) (RO dC dI [(h0, .inr (9, [.ref zfTp, .ref zfWr, .ref zfZs, .ref zfSp, .ref zfLt, .ref zfSt, .ref zfFd, .int zfFc, .int zfFp])), (zfLt, .inr (4, [.int lCount, .ref lTi, .ref lAh, .long lExp])), (lTi, .inl (cAlTi, 60, .inr (.inl lTiA))), (lAh, .inl (cAlAh, 60, .inr (.inl lAhA)))] [(cAlTi, .long), (cAlAh, .long)] [.ref h0, .int p0, .int p1]) (SV (some (.long r0))) 0 0 (fun _ => False) :=
  met_S (plainFor_of_name (by decide)) (Nat.le_of_ble_eq_true rfl) (fun p e R s m args below meth c ls C0 hST hK hP hl => by
    obtain ⟨hx, hb, hr, hml, hown, hts, hlocks, hRf, hRl⟩ := id C0
    unfold f_ZF_row at hf
    exact k_ZF_row_0 C0 hST hK hP (fun pc ls hd => W.lret hx hb hr (fun t ht hW => ⟨rfl, ht⟩) (fun q h => by cases h) hd) hf (lv_sub hl [0, 1, 2] rfl))
-- ZoneFiles.atomic(J)J
def f_ZF_atomic_0 (nf : Nat) (lCount : Int32) (lExp : Int64) (lTiA : Nat → Int64) (lAhA : Nat → Int64) (x1 : Int64) : Option (Int64) :=
  (f_LT_atomicOf nf x1 lCount lExp lTiA lAhA).bind fun r_1 =>
  some r_1
def f_ZF_atomic (nf : Nat) (p0 : Int64) (lCount : Int32) (lExp : Int64) (lTiA : Nat → Int64) (lAhA : Nat → Int64) : Option (Int64) :=
  f_ZF_atomic_0 nf lCount lExp lTiA lAhA p0
section
variable {p : Program} {l : Launch} {e : Env} {R : Room} {s : State} {m : MethodId} {args : Array Value} {below : List Frame} {meth : Method} {c : Code} {Q : State → Prop} {dC : Nat → ClassId} {dI : Nat → Nat → Nat} {nf : Nat}
variable {h0 : Nat} {zfTp : Nat} {zfWr : Nat} {zfZs : Nat} {zfSp : Nat} {zfLt : Nat} {zfSt : Nat} {zfFd : Nat} {lTi : Nat} {lAh : Nat} {cAlTi : ClassId} {cAlAh : ClassId} {zfFc : Int32} {zfFp : Int32} {lCount : Int32} {lExp : Int64} {lTiA : Nat → Int64} {lAhA : Nat → Int64} {r0 : Int64}
set_option maxHeartbeats 400000 in
set_option maxRecDepth 100000 in
theorem k_ZF_atomic_0 (C0 : Cx p s m meth c args R b_ZF_atomic "ZoneFiles" 3 (some .long) 1 24) (hST : ST (fun _ => False) s s.heap) (hK : va_K (dC, dI) classes [(cAlTi, .long), (cAlAh, .long)] s) (hP : va_P (dC, dI) classes [(h0, .inr (9, [.ref zfTp, .ref zfWr, .ref zfZs, .ref zfSp, .ref zfLt, .ref zfSt, .ref zfFd, .int zfFc, .int zfFp])), (zfLt, .inr (4, [.int lCount, .ref lTi, .ref lAh, .long lExp])), (lTi, .inl (cAlTi, 60, .inr (.inl lTiA))), (lAh, .inl (cAlAh, 60, .inr (.inl lAhA)))] s.heap) (hE : ∀ (pc : Nat) (ls : Array Slot), decode b_ZF_atomic pc = .ok (.lreturn, 1) → W p l e R s m args below meth c s.heap [] 0 0 Q (F0 m pc ls [.long r0])) {x1 : Int64} (hf : f_ZF_atomic_0 nf lCount lExp lTiA lAhA x1 = some r0) {ls : Array Slot} (hl : lv_has ls 3 [(0, .ref h0), (1, .long x1)]) : W p l e R s m args below meth c s.heap [] 0 0 Q (F0 m 0 ls []) := by
  obtain ⟨hx, hb, hr, hml, hown, hts, hlocks, hRf, hRl⟩ := id C0
  obtain ⟨tms, hZms, hTms, tmg, hZmg, hTmg, hNW⟩ := id hST
  unfold f_ZF_atomic_0 at hf
  refine lv_aload_n hx hb d_ZF_atomic_0 rfl (lv_at hl 0 rfl) ?_
  refine va_get (D := (dC, dI)) (ci := 9) (v := .ref zfLt) (C := RZoneFiles) (T := TZoneFiles) (N := 9) hx hb hts in_ZoneFiles hown hK hP 0 rfl rfl 4 (by decide) (hts (.fieldLink "ZoneFiles" 38 "ZoneFiles" "leapTable" "LZoneFiles$LeapTable;") m_2_121) (fun _ h9 => h9) rfl d_ZF_atomic_1 ?_
  refine lv_lload_n hx hb d_ZF_atomic_4 rfl (lv_at hl 1 rfl) ?_
  obtain ⟨r_1, hc, hf⟩ := ob hf
  refine cl_S (v := (some (.long r_1))) (st1 := [.long r_1]) (va_runV (As := [.long x1]) (rest := []) ⟨hx, hb, hml, hown, hts⟩ (c_LT_atomicOf l dC dI zfLt lTi lAh cAlTi cAlAh nf x1 lCount lExp lTiA lAhA hc) (cwV 1 hts (gdV m_3_17 m_3_18 m_3_19 m_1_9 m_3_20) rfl rfl rfl (by decide +kernel) ⟨Nat.le_trans (Nat.le_of_ble_eq_true rfl) hRf, Nat.le_trans (Nat.le_of_ble_eq_true rfl) hRl⟩) ((RO.pre (hP.sub (ws' := [(zfLt, .inr (4, [.int lCount, .ref lTi, .ref lAh, .long lExp])), (lTi, .inl (cAlTi, 60, .inr (.inl lTiA))), (lAh, .inl (cAlAh, 60, .inr (.inl lAhA)))]) [1, 2, 3] rfl) (hK.sub (tys' := [(cAlTi, .long), (cAlAh, .long)]) [0, 1] rfl) hST).vir (va_recv (hK.sub (tys' := [(cAlTi, .long), (cAlAh, .long)]) [0, 1] rfl) (hP.sub (ws' := [(zfLt, .inr (4, [.int lCount, .ref lTi, .ref lAh, .long lExp])), (lTi, .inl (cAlTi, 60, .inr (.inl lTiA))), (lAh, .inl (cAlAh, 60, .inr (.inl lAhA)))]) [1, 2, 3] rfl) (ci := 4) (q0 := 0) rfl rfl)) rfl rfl hl.1 rfl (lv_room (Nat.le_of_ble_eq_true rfl)) d_ZF_atomic_5 ⟨Nat.zero_le _, Nat.zero_le _⟩) rfl ?_
  have e := rs hf
  subst e
  exact hE _ _ d_ZF_atomic_8
end
set_option maxHeartbeats 400000 in
set_option maxRecDepth 100000 in
theorem c_ZF_atomic (l : Launch) (dC : Nat → ClassId) (dI : Nat → Nat → Nat) (h0 : Nat) (zfTp : Nat) (zfWr : Nat) (zfZs : Nat) (zfSp : Nat) (zfLt : Nat) (zfSt : Nat) (zfFd : Nat) (lTi : Nat) (lAh : Nat) (cAlTi : ClassId) (cAlAh : ClassId) (nf : Nat) (p0 : Int64) (zfFc : Int32) (zfFp : Int32) (lCount : Int32) (lExp : Int64) (lTiA : Nat → Int64) (lAhA : Nat → Int64) {r0 : Int64} (hf : f_ZF_atomic nf p0 lCount lExp lTiA lAhA = some r0) : Met l y_ZF_atomic (wd y_ZF_atomic b_ZF_atomic 3 (some .long)) ({ frames := 1, cells := 0, slots := 0, locals := 24 }) (RO dC dI [(h0, .inr (9, [.ref zfTp, .ref zfWr, .ref zfZs, .ref zfSp, .ref zfLt, .ref zfSt, .ref zfFd, .int zfFc, .int zfFp])), (zfLt, .inr (4, [.int lCount, .ref lTi, .ref lAh, .long lExp])), (lTi, .inl (cAlTi, 60, .inr (.inl lTiA))), (lAh, .inl (cAlAh, 60, .inr (.inl lAhA)))] [(cAlTi, .long), (cAlAh, .long)] [.ref h0, .long p0]) (SV (some (.long r0))) 0 0 (fun _ => False) :=
  met_S (plainFor_of_name (by decide)) (Nat.le_of_ble_eq_true rfl) (fun p e R s m args below meth c ls C0 hST hK hP hl => by
    obtain ⟨hx, hb, hr, hml, hown, hts, hlocks, hRf, hRl⟩ := id C0
    unfold f_ZF_atomic at hf
    exact k_ZF_atomic_0 C0 hST hK hP (fun pc ls hd => W.lret hx hb hr (fun t ht hW => ⟨rfl, ht⟩) (fun q h => by cases h) hd) hf (lv_sub hl [0, 1] rfl))
-- ZoneFiles.instant(J)J
def f_ZF_instant_0 (nf : Nat) (lCount : Int32) (lExp : Int64) (lTiA : Nat → Int64) (lAhA : Nat → Int64) (x1 : Int64) : Option (Int64) :=
  (f_LT_instantOf nf x1 lCount lExp lTiA lAhA).bind fun r_1 =>
  some r_1
def f_ZF_instant (nf : Nat) (p0 : Int64) (lCount : Int32) (lExp : Int64) (lTiA : Nat → Int64) (lAhA : Nat → Int64) : Option (Int64) :=
  f_ZF_instant_0 nf lCount lExp lTiA lAhA p0
section
variable {p : Program} {l : Launch} {e : Env} {R : Room} {s : State} {m : MethodId} {args : Array Value} {below : List Frame} {meth : Method} {c : Code} {Q : State → Prop} {dC : Nat → ClassId} {dI : Nat → Nat → Nat} {nf : Nat}
variable {h0 : Nat} {zfTp : Nat} {zfWr : Nat} {zfZs : Nat} {zfSp : Nat} {zfLt : Nat} {zfSt : Nat} {zfFd : Nat} {lTi : Nat} {lAh : Nat} {cAlTi : ClassId} {cAlAh : ClassId} {zfFc : Int32} {zfFp : Int32} {lCount : Int32} {lExp : Int64} {lTiA : Nat → Int64} {lAhA : Nat → Int64} {r0 : Int64}
set_option maxHeartbeats 400000 in
set_option maxRecDepth 100000 in
theorem k_ZF_instant_0 (C0 : Cx p s m meth c args R b_ZF_instant "ZoneFiles" 3 (some .long) 2 48) (hST : ST (fun _ => False) s s.heap) (hK : va_K (dC, dI) classes [(cAlTi, .long), (cAlAh, .long)] s) (hP : va_P (dC, dI) classes [(h0, .inr (9, [.ref zfTp, .ref zfWr, .ref zfZs, .ref zfSp, .ref zfLt, .ref zfSt, .ref zfFd, .int zfFc, .int zfFp])), (zfLt, .inr (4, [.int lCount, .ref lTi, .ref lAh, .long lExp])), (lTi, .inl (cAlTi, 60, .inr (.inl lTiA))), (lAh, .inl (cAlAh, 60, .inr (.inl lAhA)))] s.heap) (hE : ∀ (pc : Nat) (ls : Array Slot), decode b_ZF_instant pc = .ok (.lreturn, 1) → W p l e R s m args below meth c s.heap [] 0 0 Q (F0 m pc ls [.long r0])) {x1 : Int64} (hf : f_ZF_instant_0 nf lCount lExp lTiA lAhA x1 = some r0) {ls : Array Slot} (hl : lv_has ls 3 [(0, .ref h0), (1, .long x1)]) : W p l e R s m args below meth c s.heap [] 0 0 Q (F0 m 0 ls []) := by
  obtain ⟨hx, hb, hr, hml, hown, hts, hlocks, hRf, hRl⟩ := id C0
  obtain ⟨tms, hZms, hTms, tmg, hZmg, hTmg, hNW⟩ := id hST
  unfold f_ZF_instant_0 at hf
  refine lv_aload_n hx hb d_ZF_instant_0 rfl (lv_at hl 0 rfl) ?_
  refine va_get (D := (dC, dI)) (ci := 9) (v := .ref zfLt) (C := RZoneFiles) (T := TZoneFiles) (N := 9) hx hb hts in_ZoneFiles hown hK hP 0 rfl rfl 4 (by decide) (hts (.fieldLink "ZoneFiles" 38 "ZoneFiles" "leapTable" "LZoneFiles$LeapTable;") m_2_121) (fun _ h9 => h9) rfl d_ZF_instant_1 ?_
  refine lv_lload_n hx hb d_ZF_instant_4 rfl (lv_at hl 1 rfl) ?_
  obtain ⟨r_1, hc, hf⟩ := ob hf
  refine cl_S (v := (some (.long r_1))) (st1 := [.long r_1]) (va_runV (As := [.long x1]) (rest := []) ⟨hx, hb, hml, hown, hts⟩ (c_LT_instantOf l dC dI zfLt lTi lAh cAlTi cAlAh nf x1 lCount lExp lTiA lAhA hc) (cwV 1 hts (gdV m_3_26 m_3_27 m_3_28 m_1_9 m_3_29) rfl rfl rfl (by decide +kernel) ⟨Nat.le_trans (Nat.le_of_ble_eq_true rfl) hRf, Nat.le_trans (Nat.le_of_ble_eq_true rfl) hRl⟩) ((RO.pre (hP.sub (ws' := [(zfLt, .inr (4, [.int lCount, .ref lTi, .ref lAh, .long lExp])), (lTi, .inl (cAlTi, 60, .inr (.inl lTiA))), (lAh, .inl (cAlAh, 60, .inr (.inl lAhA)))]) [1, 2, 3] rfl) (hK.sub (tys' := [(cAlTi, .long), (cAlAh, .long)]) [0, 1] rfl) hST).vir (va_recv (hK.sub (tys' := [(cAlTi, .long), (cAlAh, .long)]) [0, 1] rfl) (hP.sub (ws' := [(zfLt, .inr (4, [.int lCount, .ref lTi, .ref lAh, .long lExp])), (lTi, .inl (cAlTi, 60, .inr (.inl lTiA))), (lAh, .inl (cAlAh, 60, .inr (.inl lAhA)))]) [1, 2, 3] rfl) (ci := 4) (q0 := 0) rfl rfl)) rfl rfl hl.1 rfl (lv_room (Nat.le_of_ble_eq_true rfl)) d_ZF_instant_5 ⟨Nat.zero_le _, Nat.zero_le _⟩) rfl ?_
  have e := rs hf
  subst e
  exact hE _ _ d_ZF_instant_8
end
set_option maxHeartbeats 400000 in
set_option maxRecDepth 100000 in
theorem c_ZF_instant (l : Launch) (dC : Nat → ClassId) (dI : Nat → Nat → Nat) (h0 : Nat) (zfTp : Nat) (zfWr : Nat) (zfZs : Nat) (zfSp : Nat) (zfLt : Nat) (zfSt : Nat) (zfFd : Nat) (lTi : Nat) (lAh : Nat) (cAlTi : ClassId) (cAlAh : ClassId) (nf : Nat) (p0 : Int64) (zfFc : Int32) (zfFp : Int32) (lCount : Int32) (lExp : Int64) (lTiA : Nat → Int64) (lAhA : Nat → Int64) {r0 : Int64} (hf : f_ZF_instant nf p0 lCount lExp lTiA lAhA = some r0) : Met l y_ZF_instant (wd y_ZF_instant b_ZF_instant 3 (some .long)) ({ frames := 2, cells := 0, slots := 0, locals := 48 }) (RO dC dI [(h0, .inr (9, [.ref zfTp, .ref zfWr, .ref zfZs, .ref zfSp, .ref zfLt, .ref zfSt, .ref zfFd, .int zfFc, .int zfFp])), (zfLt, .inr (4, [.int lCount, .ref lTi, .ref lAh, .long lExp])), (lTi, .inl (cAlTi, 60, .inr (.inl lTiA))), (lAh, .inl (cAlAh, 60, .inr (.inl lAhA)))] [(cAlTi, .long), (cAlAh, .long)] [.ref h0, .long p0]) (SV (some (.long r0))) 0 0 (fun _ => False) :=
  met_S (plainFor_of_name (by decide)) (Nat.le_of_ble_eq_true rfl) (fun p e R s m args below meth c ls C0 hST hK hP hl => by
    obtain ⟨hx, hb, hr, hml, hown, hts, hlocks, hRf, hRl⟩ := id C0
    unfold f_ZF_instant at hf
    exact k_ZF_instant_0 C0 hST hK hP (fun pc ls hd => W.lret hx hb hr (fun t ht hW => ⟨rfl, ht⟩) (fun q h => by cases h) hd) hf (lv_sub hl [0, 1] rfl))
-- ZoneFiles.isLeap(J)Z
def f_ZF_isLeap_0 (nf : Nat) (lCount : Int32) (lTiA : Nat → Int64) (lAhA : Nat → Int64) (x1 : Int64) : Option (Int32) :=
  (f_LT_hasLeapSecond nf x1 lCount lTiA lAhA).bind fun r_1 =>
  if r_1 = 0 ∨ r_1 = 1 then some r_1 else none
def f_ZF_isLeap (nf : Nat) (p0 : Int64) (lCount : Int32) (lTiA : Nat → Int64) (lAhA : Nat → Int64) : Option (Int32) :=
  f_ZF_isLeap_0 nf lCount lTiA lAhA p0
section
variable {p : Program} {l : Launch} {e : Env} {R : Room} {s : State} {m : MethodId} {args : Array Value} {below : List Frame} {meth : Method} {c : Code} {Q : State → Prop} {dC : Nat → ClassId} {dI : Nat → Nat → Nat} {nf : Nat}
variable {h0 : Nat} {zfTp : Nat} {zfWr : Nat} {zfZs : Nat} {zfSp : Nat} {zfLt : Nat} {zfSt : Nat} {zfFd : Nat} {lTi : Nat} {lAh : Nat} {cAlTi : ClassId} {cAlAh : ClassId} {zfFc : Int32} {zfFp : Int32} {lCount : Int32} {lExp : Int64} {lTiA : Nat → Int64} {lAhA : Nat → Int64} {r0 : Int32}
set_option maxHeartbeats 400000 in
set_option maxRecDepth 100000 in
theorem k_ZF_isLeap_0 (C0 : Cx p s m meth c args R b_ZF_isLeap "ZoneFiles" 3 (some .boolean) 2 46) (hST : ST (fun _ => False) s s.heap) (hK : va_K (dC, dI) classes [(cAlTi, .long), (cAlAh, .long)] s) (hP : va_P (dC, dI) classes [(h0, .inr (9, [.ref zfTp, .ref zfWr, .ref zfZs, .ref zfSp, .ref zfLt, .ref zfSt, .ref zfFd, .int zfFc, .int zfFp])), (zfLt, .inr (4, [.int lCount, .ref lTi, .ref lAh, .long lExp])), (lTi, .inl (cAlTi, 60, .inr (.inl lTiA))), (lAh, .inl (cAlAh, 60, .inr (.inl lAhA)))] s.heap) (hE : ∀ (pc : Nat) (ls : Array Slot), decode b_ZF_isLeap pc = .ok (.ireturn, 1) → narrow .boolean (.int r0) = .int r0 → W p l e R s m args below meth c s.heap [] 0 0 Q (F0 m pc ls [.int r0])) {x1 : Int64} (hf : f_ZF_isLeap_0 nf lCount lTiA lAhA x1 = some r0) {ls : Array Slot} (hl : lv_has ls 3 [(0, .ref h0), (1, .long x1)]) : W p l e R s m args below meth c s.heap [] 0 0 Q (F0 m 0 ls []) := by
  obtain ⟨hx, hb, hr, hml, hown, hts, hlocks, hRf, hRl⟩ := id C0
  obtain ⟨tms, hZms, hTms, tmg, hZmg, hTmg, hNW⟩ := id hST
  unfold f_ZF_isLeap_0 at hf
  refine lv_aload_n hx hb d_ZF_isLeap_0 rfl (lv_at hl 0 rfl) ?_
  refine va_get (D := (dC, dI)) (ci := 9) (v := .ref zfLt) (C := RZoneFiles) (T := TZoneFiles) (N := 9) hx hb hts in_ZoneFiles hown hK hP 0 rfl rfl 4 (by decide) (hts (.fieldLink "ZoneFiles" 38 "ZoneFiles" "leapTable" "LZoneFiles$LeapTable;") m_2_121) (fun _ h9 => h9) rfl d_ZF_isLeap_1 ?_
  refine lv_lload_n hx hb d_ZF_isLeap_4 rfl (lv_at hl 1 rfl) ?_
  obtain ⟨r_1, hc, hf⟩ := ob hf
  refine cl_S (v := (some (.int r_1))) (st1 := [.int r_1]) (va_runV (As := [.long x1]) (rest := []) ⟨hx, hb, hml, hown, hts⟩ (c_LT_hasLeapSecond l dC dI zfLt lTi lAh cAlTi cAlAh nf x1 lCount lExp lTiA lAhA hc) (cwV 1 hts (gdV m_3_42 m_3_43 m_3_44 m_1_9 m_3_45) rfl rfl rfl (by decide +kernel) ⟨Nat.le_trans (Nat.le_of_ble_eq_true rfl) hRf, Nat.le_trans (Nat.le_of_ble_eq_true rfl) hRl⟩) ((RO.pre (hP.sub (ws' := [(zfLt, .inr (4, [.int lCount, .ref lTi, .ref lAh, .long lExp])), (lTi, .inl (cAlTi, 60, .inr (.inl lTiA))), (lAh, .inl (cAlAh, 60, .inr (.inl lAhA)))]) [1, 2, 3] rfl) (hK.sub (tys' := [(cAlTi, .long), (cAlAh, .long)]) [0, 1] rfl) hST).vir (va_recv (hK.sub (tys' := [(cAlTi, .long), (cAlAh, .long)]) [0, 1] rfl) (hP.sub (ws' := [(zfLt, .inr (4, [.int lCount, .ref lTi, .ref lAh, .long lExp])), (lTi, .inl (cAlTi, 60, .inr (.inl lTiA))), (lAh, .inl (cAlAh, 60, .inr (.inl lAhA)))]) [1, 2, 3] rfl) (ci := 4) (q0 := 0) rfl rfl)) rfl rfl hl.1 rfl (lv_room (Nat.le_of_ble_eq_true rfl)) d_ZF_isLeap_5 ⟨Nat.zero_le _, Nat.zero_le _⟩) rfl ?_
  obtain ⟨c_2, hf⟩ := it_g hf
  have e := rs hf
  subst e
  exact hE _ _ d_ZF_isLeap_8 (nb_of c_2)
end
set_option maxHeartbeats 400000 in
set_option maxRecDepth 100000 in
theorem c_ZF_isLeap (l : Launch) (dC : Nat → ClassId) (dI : Nat → Nat → Nat) (h0 : Nat) (zfTp : Nat) (zfWr : Nat) (zfZs : Nat) (zfSp : Nat) (zfLt : Nat) (zfSt : Nat) (zfFd : Nat) (lTi : Nat) (lAh : Nat) (cAlTi : ClassId) (cAlAh : ClassId) (nf : Nat) (p0 : Int64) (zfFc : Int32) (zfFp : Int32) (lCount : Int32) (lExp : Int64) (lTiA : Nat → Int64) (lAhA : Nat → Int64) {r0 : Int32} (hf : f_ZF_isLeap nf p0 lCount lTiA lAhA = some r0) : Met l y_ZF_isLeap (wd y_ZF_isLeap b_ZF_isLeap 3 (some .boolean)) ({ frames := 2, cells := 0, slots := 0, locals := 46 }) (RO dC dI [(h0, .inr (9, [.ref zfTp, .ref zfWr, .ref zfZs, .ref zfSp, .ref zfLt, .ref zfSt, .ref zfFd, .int zfFc, .int zfFp])), (zfLt, .inr (4, [.int lCount, .ref lTi, .ref lAh, .long lExp])), (lTi, .inl (cAlTi, 60, .inr (.inl lTiA))), (lAh, .inl (cAlAh, 60, .inr (.inl lAhA)))] [(cAlTi, .long), (cAlAh, .long)] [.ref h0, .long p0]) (SV (some (.int r0))) 0 0 (fun _ => False) :=
  met_S (plainFor_of_name (by decide)) (Nat.le_of_ble_eq_true rfl) (fun p e R s m args below meth c ls C0 hST hK hP hl => by
    obtain ⟨hx, hb, hr, hml, hown, hts, hlocks, hRf, hRl⟩ := id C0
    unfold f_ZF_isLeap at hf
    exact k_ZF_isLeap_0 C0 hST hK hP (fun pc ls hd hn => W.zret hx hb hr hn (fun t ht hW => ⟨rfl, ht⟩) (fun q h => by cases h) hd) hf (lv_sub hl [0, 1] rfl))
