theorem m_3_48 : Cond.codeWith ⟨"ZoneFilesLaw", "feed", "(LZoneFiles;IJ[J)I"⟩ method_3_code 6 (some .int) [(0, 11, 14, 13)] ∈ T0 := tb_3 48 rfl rfl
theorem m_3_49 : Cond.classLink "ZoneFilesLaw" 13 "java/lang/IllegalArgumentException" ∈ T0 := tb_3 49 rfl rfl
theorem m_3_50 : Cond.methodLink "ZoneFilesLaw" 7 ⟨"ZoneFiles", "feed", "(IJ)I"⟩ ∈ T0 := tb_3 50 rfl rfl
theorem m_3_51 : Cond.instanceMethod ⟨"ZoneFiles", "feed", "(IJ)I"⟩ ∈ T0 := tb_3 51 rfl rfl
theorem m_3_52 : Cond.selects "ZoneFiles" ⟨"ZoneFiles", "feed", "(IJ)I"⟩ ⟨"ZoneFiles", "feed", "(IJ)I"⟩ ∈ T0 := tb_3 52 rfl rfl
theorem m_3_53 : Cond.code ⟨"ZoneFiles", "feed", "(IJ)I"⟩ prog_1_method_2_code 5 (some .int) ∈ T0 := tb_3 53 rfl rfl
theorem m_3_125 : Cond.codeWith ⟨"ZoneFilesLaw", "read", "(LZoneFiles;I[J)I"⟩ method_4_code 4 (some .int) [(0, 9, 12, 19)] ∈ T0 := tb_3 125 rfl rfl
theorem m_3_126 : Cond.classLink "ZoneFilesLaw" 19 "java/lang/IndexOutOfBoundsException" ∈ T0 := tb_3 126 rfl rfl
theorem m_3_127 : Cond.methodLink "ZoneFilesLaw" 15 ⟨"ZoneFiles", "read", "(I)I"⟩ ∈ T0 := tb_3 127 rfl rfl
theorem m_3_128 : Cond.instanceMethod ⟨"ZoneFiles", "read", "(I)I"⟩ ∈ T0 := tb_3 128 rfl rfl
theorem m_3_129 : Cond.selects "ZoneFiles" ⟨"ZoneFiles", "read", "(I)I"⟩ ⟨"ZoneFiles", "read", "(I)I"⟩ ∈ T0 := tb_3 129 rfl rfl
theorem m_3_130 : Cond.code ⟨"ZoneFiles", "read", "(I)I"⟩ prog_1_method_3_code 4 (some .int) ∈ T0 := tb_3 130 rfl rfl
theorem m_4_210 : Cond.codeWith ⟨"ZoneFilesLaw", "rule", "(LZoneFiles;IZ[J)I"⟩ method_5_code 5 (some .int) [(0, 10, 13, 19)] ∈ T0 := tb_4 210 rfl rfl
theorem m_4_211 : Cond.methodLink "ZoneFilesLaw" 21 ⟨"ZoneFiles", "rule", "(IZ)I"⟩ ∈ T0 := tb_4 211 rfl rfl
theorem m_4_212 : Cond.instanceMethod ⟨"ZoneFiles", "rule", "(IZ)I"⟩ ∈ T0 := tb_4 212 rfl rfl
theorem m_4_213 : Cond.selects "ZoneFiles" ⟨"ZoneFiles", "rule", "(IZ)I"⟩ ⟨"ZoneFiles", "rule", "(IZ)I"⟩ ∈ T0 := tb_4 213 rfl rfl
theorem m_4_214 : Cond.code ⟨"ZoneFiles", "rule", "(IZ)I"⟩ prog_1_method_4_code 5 (some .int) ∈ T0 := tb_4 214 rfl rfl
theorem m_4_221 : Cond.codeWith ⟨"ZoneFilesLaw", "zone", "(LZoneFiles;II[J)I"⟩ method_6_code 5 (some .int) [(0, 10, 13, 19)] ∈ T0 := tb_4 221 rfl rfl
theorem m_4_222 : Cond.methodLink "ZoneFilesLaw" 25 ⟨"ZoneFiles", "zone", "(II)I"⟩ ∈ T0 := tb_4 222 rfl rfl
theorem m_4_223 : Cond.instanceMethod ⟨"ZoneFiles", "zone", "(II)I"⟩ ∈ T0 := tb_4 223 rfl rfl
theorem m_4_224 : Cond.selects "ZoneFiles" ⟨"ZoneFiles", "zone", "(II)I"⟩ ⟨"ZoneFiles", "zone", "(II)I"⟩ ∈ T0 := tb_4 224 rfl rfl
theorem m_4_225 : Cond.code ⟨"ZoneFiles", "zone", "(II)I"⟩ prog_1_method_7_code 4 (some .int) ∈ T0 := tb_4 225 rfl rfl
theorem m_4_229 : Cond.codeWith ⟨"ZoneFilesLaw", "time", "(LZoneFiles;II[J)I"⟩ method_7_code 5 (some .int) [(0, 9, 12, 19)] ∈ T0 := tb_4 229 rfl rfl
theorem m_4_230 : Cond.methodLink "ZoneFilesLaw" 29 ⟨"ZoneFiles", "time", "(II)J"⟩ ∈ T0 := tb_4 230 rfl rfl
theorem m_4_231 : Cond.instanceMethod ⟨"ZoneFiles", "time", "(II)J"⟩ ∈ T0 := tb_4 231 rfl rfl
theorem m_4_232 : Cond.selects "ZoneFiles" ⟨"ZoneFiles", "time", "(II)J"⟩ ⟨"ZoneFiles", "time", "(II)J"⟩ ∈ T0 := tb_4 232 rfl rfl
theorem m_4_233 : Cond.code ⟨"ZoneFiles", "time", "(II)J"⟩ prog_1_method_8_code 3 (some .long) ∈ T0 := tb_4 233 rfl rfl
theorem m_5_0 : Cond.codeWith ⟨"ZoneFilesLaw", "typeAt", "(LZoneFiles;II[J)I"⟩ method_8_code 5 (some .int) [(0, 10, 13, 19)] ∈ T0 := tb_5 0 rfl rfl
theorem m_5_1 : Cond.methodLink "ZoneFilesLaw" 33 ⟨"ZoneFiles", "typeAt", "(II)I"⟩ ∈ T0 := tb_5 1 rfl rfl
theorem m_5_2 : Cond.instanceMethod ⟨"ZoneFiles", "typeAt", "(II)I"⟩ ∈ T0 := tb_5 2 rfl rfl
theorem m_5_3 : Cond.selects "ZoneFiles" ⟨"ZoneFiles", "typeAt", "(II)I"⟩ ⟨"ZoneFiles", "typeAt", "(II)I"⟩ ∈ T0 := tb_5 3 rfl rfl
theorem m_5_4 : Cond.code ⟨"ZoneFiles", "typeAt", "(II)I"⟩ prog_1_method_9_code 3 (some .int) ∈ T0 := tb_5 4 rfl rfl
theorem m_5_7 : Cond.codeWith ⟨"ZoneFilesLaw", "type", "(LZoneFiles;III[J)I"⟩ method_9_code 6 (some .int) [(0, 12, 15, 19)] ∈ T0 := tb_5 7 rfl rfl
theorem m_5_8 : Cond.methodLink "ZoneFilesLaw" 36 ⟨"ZoneFiles", "type", "(III)I"⟩ ∈ T0 := tb_5 8 rfl rfl
theorem m_5_9 : Cond.instanceMethod ⟨"ZoneFiles", "type", "(III)I"⟩ ∈ T0 := tb_5 9 rfl rfl
theorem m_5_10 : Cond.selects "ZoneFiles" ⟨"ZoneFiles", "type", "(III)I"⟩ ⟨"ZoneFiles", "type", "(III)I"⟩ ∈ T0 := tb_5 10 rfl rfl
theorem m_5_11 : Cond.code ⟨"ZoneFiles", "type", "(III)I"⟩ prog_1_method_10_code 5 (some .int) ∈ T0 := tb_5 11 rfl rfl
theorem m_5_16 : Cond.codeWith ⟨"ZoneFilesLaw", "letter", "(LZoneFiles;III[J)I"⟩ method_10_code 6 (some .int) [(0, 12, 15, 19)] ∈ T0 := tb_5 16 rfl rfl
theorem m_5_17 : Cond.methodLink "ZoneFilesLaw" 40 ⟨"ZoneFiles", "letter", "(III)I"⟩ ∈ T0 := tb_5 17 rfl rfl
theorem m_5_18 : Cond.instanceMethod ⟨"ZoneFiles", "letter", "(III)I"⟩ ∈ T0 := tb_5 18 rfl rfl
theorem m_5_19 : Cond.selects "ZoneFiles" ⟨"ZoneFiles", "letter", "(III)I"⟩ ⟨"ZoneFiles", "letter", "(III)I"⟩ ∈ T0 := tb_5 19 rfl rfl
theorem m_5_20 : Cond.code ⟨"ZoneFiles", "letter", "(III)I"⟩ prog_1_method_11_code 5 (some .int) ∈ T0 := tb_5 20 rfl rfl
theorem m_5_24 : Cond.codeWith ⟨"ZoneFilesLaw", "leap", "(LZoneFiles;III[J)I"⟩ method_11_code 6 (some .int) [(0, 11, 14, 19)] ∈ T0 := tb_5 24 rfl rfl
theorem m_5_25 : Cond.methodLink "ZoneFilesLaw" 43 ⟨"ZoneFiles", "leap", "(III)J"⟩ ∈ T0 := tb_5 25 rfl rfl
theorem m_5_26 : Cond.instanceMethod ⟨"ZoneFiles", "leap", "(III)J"⟩ ∈ T0 := tb_5 26 rfl rfl
theorem m_5_27 : Cond.selects "ZoneFiles" ⟨"ZoneFiles", "leap", "(III)J"⟩ ⟨"ZoneFiles", "leap", "(III)J"⟩ ∈ T0 := tb_5 27 rfl rfl
theorem m_5_28 : Cond.code ⟨"ZoneFiles", "leap", "(III)J"⟩ prog_1_method_12_code 4 (some .long) ∈ T0 := tb_5 28 rfl rfl
theorem m_5_31 : Cond.codeWith ⟨"ZoneFilesLaw", "at", "(LZoneFiles;IJI[J)I"⟩ method_12_code 7 (some .int) [(0, 13, 16, 19), (0, 13, 20, 13)] ∈ T0 := tb_5 31 rfl rfl
theorem m_5_32 : Cond.methodLink "ZoneFilesLaw" 47 ⟨"ZoneFiles", "at", "(IJI)I"⟩ ∈ T0 := tb_5 32 rfl rfl
theorem m_5_33 : Cond.instanceMethod ⟨"ZoneFiles", "at", "(IJI)I"⟩ ∈ T0 := tb_5 33 rfl rfl
theorem m_5_34 : Cond.selects "ZoneFiles" ⟨"ZoneFiles", "at", "(IJI)I"⟩ ⟨"ZoneFiles", "at", "(IJI)I"⟩ ∈ T0 := tb_5 34 rfl rfl
theorem m_5_35 : Cond.code ⟨"ZoneFiles", "at", "(IJI)I"⟩ prog_1_method_13_code 7 (some .int) ∈ T0 := tb_5 35 rfl rfl
theorem m_5_47 : Cond.codeWith ⟨"ZoneFilesLaw", "name", "(LZoneFiles;IJI[J)I"⟩ method_13_code 7 (some .int) [(0, 13, 16, 19), (0, 13, 20, 13), (0, 13, 24, 54)] ∈ T0 := tb_5 47 rfl rfl
theorem m_5_48 : Cond.classLink "ZoneFilesLaw" 54 "java/lang/IllegalStateException" ∈ T0 := tb_5 48 rfl rfl
theorem m_5_49 : Cond.methodLink "ZoneFilesLaw" 51 ⟨"ZoneFiles", "name", "(IJI)I"⟩ ∈ T0 := tb_5 49 rfl rfl
theorem m_5_50 : Cond.instanceMethod ⟨"ZoneFiles", "name", "(IJI)I"⟩ ∈ T0 := tb_5 50 rfl rfl
theorem m_5_51 : Cond.selects "ZoneFiles" ⟨"ZoneFiles", "name", "(IJI)I"⟩ ⟨"ZoneFiles", "name", "(IJI)I"⟩ ∈ T0 := tb_5 51 rfl rfl
theorem m_5_52 : Cond.code ⟨"ZoneFiles", "name", "(IJI)I"⟩ prog_1_method_14_code 6 (some .int) ∈ T0 := tb_5 52 rfl rfl
theorem m_5_72 : Cond.codeWith ⟨"ZoneFilesLaw", "clock", "(LZoneFiles;JI[J)I"⟩ method_14_code 6 (some .int) [(0, 10, 13, 19), (0, 10, 17, 13)] ∈ T0 := tb_5 72 rfl rfl
theorem m_5_73 : Cond.methodLink "ZoneFilesLaw" 56 ⟨"ZoneFiles", "clock", "(JI)J"⟩ ∈ T0 := tb_5 73 rfl rfl
theorem m_5_74 : Cond.instanceMethod ⟨"ZoneFiles", "clock", "(JI)J"⟩ ∈ T0 := tb_5 74 rfl rfl
theorem m_5_75 : Cond.selects "ZoneFiles" ⟨"ZoneFiles", "clock", "(JI)J"⟩ ⟨"ZoneFiles", "clock", "(JI)J"⟩ ∈ T0 := tb_5 75 rfl rfl
theorem m_5_76 : Cond.code ⟨"ZoneFiles", "clock", "(JI)J"⟩ prog_1_method_15_code 7 (some .long) ∈ T0 := tb_5 76 rfl rfl
theorem m_5_97 : Cond.codeWith ⟨"ZoneFilesLaw", "seconds", "(LZoneFiles;JIII[J)I"⟩ method_15_code 8 (some .int) [(0, 14, 17, 13)] ∈ T0 := tb_5 97 rfl rfl
theorem m_5_98 : Cond.methodLink "ZoneFilesLaw" 60 ⟨"ZoneFiles", "seconds", "(JIII)J"⟩ ∈ T0 := tb_5 98 rfl rfl
theorem m_5_99 : Cond.instanceMethod ⟨"ZoneFiles", "seconds", "(JIII)J"⟩ ∈ T0 := tb_5 99 rfl rfl
theorem m_5_100 : Cond.selects "ZoneFiles" ⟨"ZoneFiles", "seconds", "(JIII)J"⟩ ⟨"ZoneFiles", "seconds", "(JIII)J"⟩ ∈ T0 := tb_5 100 rfl rfl
theorem m_5_101 : Cond.code ⟨"ZoneFiles", "seconds", "(JIII)J"⟩ prog_1_method_16_code 9 (some .long) ∈ T0 := tb_5 101 rfl rfl
theorem m_5_113 : Cond.codeWith ⟨"ZoneFilesLaw", "find", "(LZoneFiles;IJ[J)I"⟩ method_16_code 6 (some .int) [(0, 11, 14, 19), (0, 11, 18, 13)] ∈ T0 := tb_5 113 rfl rfl
theorem m_5_114 : Cond.methodLink "ZoneFilesLaw" 64 ⟨"ZoneFiles", "find", "(IJ)I"⟩ ∈ T0 := tb_5 114 rfl rfl
theorem m_5_115 : Cond.instanceMethod ⟨"ZoneFiles", "find", "(IJ)I"⟩ ∈ T0 := tb_5 115 rfl rfl
theorem m_5_116 : Cond.selects "ZoneFiles" ⟨"ZoneFiles", "find", "(IJ)I"⟩ ⟨"ZoneFiles", "find", "(IJ)I"⟩ ∈ T0 := tb_5 116 rfl rfl
theorem m_5_117 : Cond.code ⟨"ZoneFiles", "find", "(IJ)I"⟩ prog_1_method_17_code 9 (some .int) ∈ T0 := tb_5 117 rfl rfl
theorem m_5_124 : Cond.codeWith ⟨"ZoneFilesLaw", "found", "(LZoneFiles;I[J)I"⟩ method_17_code 4 (some .int) [(0, 8, 11, 19)] ∈ T0 := tb_5 124 rfl rfl
theorem m_5_125 : Cond.methodLink "ZoneFilesLaw" 67 ⟨"ZoneFiles", "found", "(I)J"⟩ ∈ T0 := tb_5 125 rfl rfl
theorem m_5_126 : Cond.instanceMethod ⟨"ZoneFiles", "found", "(I)J"⟩ ∈ T0 := tb_5 126 rfl rfl
theorem m_5_127 : Cond.selects "ZoneFiles" ⟨"ZoneFiles", "found", "(I)J"⟩ ⟨"ZoneFiles", "found", "(I)J"⟩ ∈ T0 := tb_5 127 rfl rfl
theorem m_5_128 : Cond.code ⟨"ZoneFiles", "found", "(I)J"⟩ prog_1_method_18_code 2 (some .long) ∈ T0 := tb_5 128 rfl rfl
theorem m_5_131 : Cond.codeWith ⟨"ZoneFilesLaw", "next", "(LZoneFiles;IJ[J)I"⟩ method_18_code 6 (some .int) [(0, 10, 13, 19), (0, 10, 17, 13)] ∈ T0 := tb_5 131 rfl rfl
theorem m_5_132 : Cond.methodLink "ZoneFilesLaw" 71 ⟨"ZoneFiles", "next", "(IJ)J"⟩ ∈ T0 := tb_5 132 rfl rfl
theorem m_5_133 : Cond.instanceMethod ⟨"ZoneFiles", "next", "(IJ)J"⟩ ∈ T0 := tb_5 133 rfl rfl
theorem m_5_134 : Cond.selects "ZoneFiles" ⟨"ZoneFiles", "next", "(IJ)J"⟩ ⟨"ZoneFiles", "next", "(IJ)J"⟩ ∈ T0 := tb_5 134 rfl rfl
theorem m_5_135 : Cond.code ⟨"ZoneFiles", "next", "(IJ)J"⟩ prog_1_method_19_code 4 (some .long) ∈ T0 := tb_5 135 rfl rfl
theorem m_5_195 : Cond.codeWith ⟨"ZoneFilesLaw", "last", "(LZoneFiles;IJ[J)I"⟩ method_19_code 6 (some .int) [(0, 10, 13, 19), (0, 10, 17, 13)] ∈ T0 := tb_5 195 rfl rfl
theorem m_5_196 : Cond.methodLink "ZoneFilesLaw" 75 ⟨"ZoneFiles", "last", "(IJ)J"⟩ ∈ T0 := tb_5 196 rfl rfl
theorem m_5_197 : Cond.instanceMethod ⟨"ZoneFiles", "last", "(IJ)J"⟩ ∈ T0 := tb_5 197 rfl rfl
theorem m_5_198 : Cond.selects "ZoneFiles" ⟨"ZoneFiles", "last", "(IJ)J"⟩ ⟨"ZoneFiles", "last", "(IJ)J"⟩ ∈ T0 := tb_5 198 rfl rfl
theorem m_5_199 : Cond.code ⟨"ZoneFiles", "last", "(IJ)J"⟩ prog_1_method_20_code 4 (some .long) ∈ T0 := tb_5 199 rfl rfl
theorem m_5_215 : Cond.codeWith ⟨"ZoneFilesLaw", "stretch", "(LZoneFiles;II[J)I"⟩ method_20_code 5 (some .int) [(0, 10, 13, 19), (0, 10, 17, 13), (0, 10, 21, 54)] ∈ T0 := tb_5 215 rfl rfl
theorem m_5_216 : Cond.methodLink "ZoneFilesLaw" 78 ⟨"ZoneFiles", "stretch", "(II)I"⟩ ∈ T0 := tb_5 216 rfl rfl
theorem m_5_217 : Cond.instanceMethod ⟨"ZoneFiles", "stretch", "(II)I"⟩ ∈ T0 := tb_5 217 rfl rfl
theorem m_5_218 : Cond.selects "ZoneFiles" ⟨"ZoneFiles", "stretch", "(II)I"⟩ ⟨"ZoneFiles", "stretch", "(II)I"⟩ ∈ T0 := tb_5 218 rfl rfl
theorem m_5_219 : Cond.code ⟨"ZoneFiles", "stretch", "(II)I"⟩ prog_1_method_21_code 3 (some .int) ∈ T0 := tb_5 219 rfl rfl
theorem m_6_8 : Cond.codeWith ⟨"ZoneFilesLaw", "write", "(LZoneFiles;II[J)I"⟩ method_21_code 5 (some .int) [(0, 10, 13, 19), (0, 10, 17, 13), (0, 10, 21, 54)] ∈ T0 := tb_6 8 rfl rfl
theorem m_6_9 : Cond.methodLink "ZoneFilesLaw" 81 ⟨"ZoneFiles", "write", "(II)I"⟩ ∈ T0 := tb_6 9 rfl rfl
theorem m_6_10 : Cond.instanceMethod ⟨"ZoneFiles", "write", "(II)I"⟩ ∈ T0 := tb_6 10 rfl rfl
theorem m_6_11 : Cond.selects "ZoneFiles" ⟨"ZoneFiles", "write", "(II)I"⟩ ⟨"ZoneFiles", "write", "(II)I"⟩ ∈ T0 := tb_6 11 rfl rfl
theorem m_6_12 : Cond.code ⟨"ZoneFiles", "write", "(II)I"⟩ prog_1_method_22_code 4 (some .int) ∈ T0 := tb_6 12 rfl rfl
theorem m_6_49 : Cond.codeWith ⟨"ZoneFilesLaw", "out", "(LZoneFiles;I[J)I"⟩ method_22_code 4 (some .int) [(0, 9, 12, 19)] ∈ T0 := tb_6 49 rfl rfl
theorem m_6_50 : Cond.methodLink "ZoneFilesLaw" 84 ⟨"ZoneFiles", "out", "(I)I"⟩ ∈ T0 := tb_6 50 rfl rfl
theorem m_6_51 : Cond.instanceMethod ⟨"ZoneFiles", "out", "(I)I"⟩ ∈ T0 := tb_6 51 rfl rfl
theorem m_6_52 : Cond.selects "ZoneFiles" ⟨"ZoneFiles", "out", "(I)I"⟩ ⟨"ZoneFiles", "out", "(I)I"⟩ ∈ T0 := tb_6 52 rfl rfl
theorem m_6_53 : Cond.code ⟨"ZoneFiles", "out", "(I)I"⟩ prog_1_method_23_code 2 (some .int) ∈ T0 := tb_6 53 rfl rfl
theorem m_6_56 : Cond.codeWith ⟨"ZoneFilesLaw", "told", "(LZoneFiles;I[J)I"⟩ method_23_code 4 (some .int) [(0, 8, 11, 19), (0, 8, 14, 54)] ∈ T0 := tb_6 56 rfl rfl
theorem m_6_57 : Cond.methodLink "ZoneFilesLaw" 87 ⟨"ZoneFiles", "told", "(I)J"⟩ ∈ T0 := tb_6 57 rfl rfl
theorem m_6_58 : Cond.instanceMethod ⟨"ZoneFiles", "told", "(I)J"⟩ ∈ T0 := tb_6 58 rfl rfl
theorem m_6_59 : Cond.selects "ZoneFiles" ⟨"ZoneFiles", "told", "(I)J"⟩ ⟨"ZoneFiles", "told", "(I)J"⟩ ∈ T0 := tb_6 59 rfl rfl
theorem m_6_60 : Cond.code ⟨"ZoneFiles", "told", "(I)J"⟩ prog_1_method_25_code 2 (some .long) ∈ T0 := tb_6 60 rfl rfl
theorem m_6_64 : Cond.codeWith ⟨"ZoneFilesLaw", "row", "(LZoneFiles;II[J)I"⟩ method_24_code 5 (some .int) [(0, 9, 12, 19)] ∈ T0 := tb_6 64 rfl rfl
theorem m_6_65 : Cond.methodLink "ZoneFilesLaw" 90 ⟨"ZoneFiles", "row", "(II)J"⟩ ∈ T0 := tb_6 65 rfl rfl
theorem m_6_66 : Cond.instanceMethod ⟨"ZoneFiles", "row", "(II)J"⟩ ∈ T0 := tb_6 66 rfl rfl
theorem m_6_67 : Cond.selects "ZoneFiles" ⟨"ZoneFiles", "row", "(II)J"⟩ ⟨"ZoneFiles", "row", "(II)J"⟩ ∈ T0 := tb_6 67 rfl rfl
theorem m_6_68 : Cond.code ⟨"ZoneFiles", "row", "(II)J"⟩ prog_1_method_26_code 3 (some .long) ∈ T0 := tb_6 68 rfl rfl
abbrev b_LW_feed : ByteArray := method_3_code
def y_LW_feed : MethodName := ⟨"ZoneFilesLaw", "feed", "(LZoneFiles;IJ[J)I"⟩
theorem d_LW_feed_0 : decode b_LW_feed 0 = .ok (.aload 4, 2) := by decide +kernel
theorem d_LW_feed_2 : decode b_LW_feed 2 = .ok (.iconst 0, 1) := by decide +kernel
theorem d_LW_feed_3 : decode b_LW_feed 3 = .ok (.aload_n 0, 1) := by decide +kernel
theorem d_LW_feed_4 : decode b_LW_feed 4 = .ok (.iload_n 1, 1) := by decide +kernel
theorem d_LW_feed_5 : decode b_LW_feed 5 = .ok (.lload_n 2, 1) := by decide +kernel
theorem d_LW_feed_6 : decode b_LW_feed 6 = .ok (.invokevirtual 7, 3) := by decide +kernel
theorem d_LW_feed_9 : decode b_LW_feed 9 = .ok (.i2l, 1) := by decide +kernel
theorem d_LW_feed_10 : decode b_LW_feed 10 = .ok (.lastore, 1) := by decide +kernel
theorem d_LW_feed_11 : decode b_LW_feed 11 = .ok (.goto 7, 3) := by decide +kernel
theorem d_LW_feed_14 : decode b_LW_feed 14 = .ok (.astore 5, 2) := by decide +kernel
theorem d_LW_feed_16 : decode b_LW_feed 16 = .ok (.iconst 1, 1) := by decide +kernel
theorem d_LW_feed_17 : decode b_LW_feed 17 = .ok (.ireturn, 1) := by decide +kernel
theorem d_LW_feed_18 : decode b_LW_feed 18 = .ok (.iconst 0, 1) := by decide +kernel
theorem d_LW_feed_19 : decode b_LW_feed 19 = .ok (.ireturn, 1) := by decide +kernel
abbrev b_LW_read : ByteArray := method_4_code
def y_LW_read : MethodName := ⟨"ZoneFilesLaw", "read", "(LZoneFiles;I[J)I"⟩
theorem d_LW_read_0 : decode b_LW_read 0 = .ok (.aload_n 2, 1) := by decide +kernel
theorem d_LW_read_1 : decode b_LW_read 1 = .ok (.iconst 0, 1) := by decide +kernel
theorem d_LW_read_2 : decode b_LW_read 2 = .ok (.aload_n 0, 1) := by decide +kernel
theorem d_LW_read_3 : decode b_LW_read 3 = .ok (.iload_n 1, 1) := by decide +kernel
theorem d_LW_read_4 : decode b_LW_read 4 = .ok (.invokevirtual 15, 3) := by decide +kernel
theorem d_LW_read_7 : decode b_LW_read 7 = .ok (.i2l, 1) := by decide +kernel
theorem d_LW_read_8 : decode b_LW_read 8 = .ok (.lastore, 1) := by decide +kernel
theorem d_LW_read_9 : decode b_LW_read 9 = .ok (.goto 6, 3) := by decide +kernel
theorem d_LW_read_12 : decode b_LW_read 12 = .ok (.astore_n 3, 1) := by decide +kernel
theorem d_LW_read_13 : decode b_LW_read 13 = .ok (.iconst 1, 1) := by decide +kernel
theorem d_LW_read_14 : decode b_LW_read 14 = .ok (.ireturn, 1) := by decide +kernel
theorem d_LW_read_15 : decode b_LW_read 15 = .ok (.iconst 0, 1) := by decide +kernel
theorem d_LW_read_16 : decode b_LW_read 16 = .ok (.ireturn, 1) := by decide +kernel
abbrev b_LW_rule : ByteArray := method_5_code
def y_LW_rule : MethodName := ⟨"ZoneFilesLaw", "rule", "(LZoneFiles;IZ[J)I"⟩
theorem d_LW_rule_0 : decode b_LW_rule 0 = .ok (.aload_n 3, 1) := by decide +kernel
theorem d_LW_rule_1 : decode b_LW_rule 1 = .ok (.iconst 0, 1) := by decide +kernel
theorem d_LW_rule_2 : decode b_LW_rule 2 = .ok (.aload_n 0, 1) := by decide +kernel
theorem d_LW_rule_3 : decode b_LW_rule 3 = .ok (.iload_n 1, 1) := by decide +kernel
theorem d_LW_rule_4 : decode b_LW_rule 4 = .ok (.iload_n 2, 1) := by decide +kernel
theorem d_LW_rule_5 : decode b_LW_rule 5 = .ok (.invokevirtual 21, 3) := by decide +kernel
theorem d_LW_rule_8 : decode b_LW_rule 8 = .ok (.i2l, 1) := by decide +kernel
theorem d_LW_rule_9 : decode b_LW_rule 9 = .ok (.lastore, 1) := by decide +kernel
theorem d_LW_rule_10 : decode b_LW_rule 10 = .ok (.goto 7, 3) := by decide +kernel
theorem d_LW_rule_13 : decode b_LW_rule 13 = .ok (.astore 4, 2) := by decide +kernel
theorem d_LW_rule_15 : decode b_LW_rule 15 = .ok (.iconst 1, 1) := by decide +kernel
theorem d_LW_rule_16 : decode b_LW_rule 16 = .ok (.ireturn, 1) := by decide +kernel
theorem d_LW_rule_17 : decode b_LW_rule 17 = .ok (.iconst 0, 1) := by decide +kernel
theorem d_LW_rule_18 : decode b_LW_rule 18 = .ok (.ireturn, 1) := by decide +kernel
abbrev b_LW_zone : ByteArray := method_6_code
def y_LW_zone : MethodName := ⟨"ZoneFilesLaw", "zone", "(LZoneFiles;II[J)I"⟩
theorem d_LW_zone_0 : decode b_LW_zone 0 = .ok (.aload_n 3, 1) := by decide +kernel
theorem d_LW_zone_1 : decode b_LW_zone 1 = .ok (.iconst 0, 1) := by decide +kernel
theorem d_LW_zone_2 : decode b_LW_zone 2 = .ok (.aload_n 0, 1) := by decide +kernel
theorem d_LW_zone_3 : decode b_LW_zone 3 = .ok (.iload_n 1, 1) := by decide +kernel
theorem d_LW_zone_4 : decode b_LW_zone 4 = .ok (.iload_n 2, 1) := by decide +kernel
theorem d_LW_zone_5 : decode b_LW_zone 5 = .ok (.invokevirtual 25, 3) := by decide +kernel
theorem d_LW_zone_8 : decode b_LW_zone 8 = .ok (.i2l, 1) := by decide +kernel
theorem d_LW_zone_9 : decode b_LW_zone 9 = .ok (.lastore, 1) := by decide +kernel
theorem d_LW_zone_10 : decode b_LW_zone 10 = .ok (.goto 7, 3) := by decide +kernel
theorem d_LW_zone_13 : decode b_LW_zone 13 = .ok (.astore 4, 2) := by decide +kernel
theorem d_LW_zone_15 : decode b_LW_zone 15 = .ok (.iconst 1, 1) := by decide +kernel
theorem d_LW_zone_16 : decode b_LW_zone 16 = .ok (.ireturn, 1) := by decide +kernel
theorem d_LW_zone_17 : decode b_LW_zone 17 = .ok (.iconst 0, 1) := by decide +kernel
theorem d_LW_zone_18 : decode b_LW_zone 18 = .ok (.ireturn, 1) := by decide +kernel
abbrev b_LW_time : ByteArray := method_7_code
def y_LW_time : MethodName := ⟨"ZoneFilesLaw", "time", "(LZoneFiles;II[J)I"⟩
theorem d_LW_time_0 : decode b_LW_time 0 = .ok (.aload_n 3, 1) := by decide +kernel
theorem d_LW_time_1 : decode b_LW_time 1 = .ok (.iconst 0, 1) := by decide +kernel
theorem d_LW_time_2 : decode b_LW_time 2 = .ok (.aload_n 0, 1) := by decide +kernel
theorem d_LW_time_3 : decode b_LW_time 3 = .ok (.iload_n 1, 1) := by decide +kernel
theorem d_LW_time_4 : decode b_LW_time 4 = .ok (.iload_n 2, 1) := by decide +kernel
theorem d_LW_time_5 : decode b_LW_time 5 = .ok (.invokevirtual 29, 3) := by decide +kernel
theorem d_LW_time_8 : decode b_LW_time 8 = .ok (.lastore, 1) := by decide +kernel
theorem d_LW_time_9 : decode b_LW_time 9 = .ok (.goto 7, 3) := by decide +kernel
theorem d_LW_time_12 : decode b_LW_time 12 = .ok (.astore 4, 2) := by decide +kernel
theorem d_LW_time_14 : decode b_LW_time 14 = .ok (.iconst 1, 1) := by decide +kernel
theorem d_LW_time_15 : decode b_LW_time 15 = .ok (.ireturn, 1) := by decide +kernel
theorem d_LW_time_16 : decode b_LW_time 16 = .ok (.iconst 0, 1) := by decide +kernel
theorem d_LW_time_17 : decode b_LW_time 17 = .ok (.ireturn, 1) := by decide +kernel
abbrev b_LW_typeAt : ByteArray := method_8_code
def y_LW_typeAt : MethodName := ⟨"ZoneFilesLaw", "typeAt", "(LZoneFiles;II[J)I"⟩
theorem d_LW_typeAt_0 : decode b_LW_typeAt 0 = .ok (.aload_n 3, 1) := by decide +kernel
theorem d_LW_typeAt_1 : decode b_LW_typeAt 1 = .ok (.iconst 0, 1) := by decide +kernel
theorem d_LW_typeAt_2 : decode b_LW_typeAt 2 = .ok (.aload_n 0, 1) := by decide +kernel
theorem d_LW_typeAt_3 : decode b_LW_typeAt 3 = .ok (.iload_n 1, 1) := by decide +kernel
theorem d_LW_typeAt_4 : decode b_LW_typeAt 4 = .ok (.iload_n 2, 1) := by decide +kernel
theorem d_LW_typeAt_5 : decode b_LW_typeAt 5 = .ok (.invokevirtual 33, 3) := by decide +kernel
theorem d_LW_typeAt_8 : decode b_LW_typeAt 8 = .ok (.i2l, 1) := by decide +kernel
theorem d_LW_typeAt_9 : decode b_LW_typeAt 9 = .ok (.lastore, 1) := by decide +kernel
theorem d_LW_typeAt_10 : decode b_LW_typeAt 10 = .ok (.goto 7, 3) := by decide +kernel
theorem d_LW_typeAt_13 : decode b_LW_typeAt 13 = .ok (.astore 4, 2) := by decide +kernel
theorem d_LW_typeAt_15 : decode b_LW_typeAt 15 = .ok (.iconst 1, 1) := by decide +kernel
theorem d_LW_typeAt_16 : decode b_LW_typeAt 16 = .ok (.ireturn, 1) := by decide +kernel
theorem d_LW_typeAt_17 : decode b_LW_typeAt 17 = .ok (.iconst 0, 1) := by decide +kernel
theorem d_LW_typeAt_18 : decode b_LW_typeAt 18 = .ok (.ireturn, 1) := by decide +kernel
abbrev b_LW_type : ByteArray := method_9_code
def y_LW_type : MethodName := ⟨"ZoneFilesLaw", "type", "(LZoneFiles;III[J)I"⟩
theorem d_LW_type_0 : decode b_LW_type 0 = .ok (.aload 4, 2) := by decide +kernel
theorem d_LW_type_2 : decode b_LW_type 2 = .ok (.iconst 0, 1) := by decide +kernel
theorem d_LW_type_3 : decode b_LW_type 3 = .ok (.aload_n 0, 1) := by decide +kernel
theorem d_LW_type_4 : decode b_LW_type 4 = .ok (.iload_n 1, 1) := by decide +kernel
theorem d_LW_type_5 : decode b_LW_type 5 = .ok (.iload_n 2, 1) := by decide +kernel
theorem d_LW_type_6 : decode b_LW_type 6 = .ok (.iload_n 3, 1) := by decide +kernel
theorem d_LW_type_7 : decode b_LW_type 7 = .ok (.invokevirtual 36, 3) := by decide +kernel
theorem d_LW_type_10 : decode b_LW_type 10 = .ok (.i2l, 1) := by decide +kernel
theorem d_LW_type_11 : decode b_LW_type 11 = .ok (.lastore, 1) := by decide +kernel
theorem d_LW_type_12 : decode b_LW_type 12 = .ok (.goto 7, 3) := by decide +kernel
theorem d_LW_type_15 : decode b_LW_type 15 = .ok (.astore 5, 2) := by decide +kernel
theorem d_LW_type_17 : decode b_LW_type 17 = .ok (.iconst 1, 1) := by decide +kernel
theorem d_LW_type_18 : decode b_LW_type 18 = .ok (.ireturn, 1) := by decide +kernel
theorem d_LW_type_19 : decode b_LW_type 19 = .ok (.iconst 0, 1) := by decide +kernel
theorem d_LW_type_20 : decode b_LW_type 20 = .ok (.ireturn, 1) := by decide +kernel
abbrev b_LW_letter : ByteArray := method_10_code
def y_LW_letter : MethodName := ⟨"ZoneFilesLaw", "letter", "(LZoneFiles;III[J)I"⟩
theorem d_LW_letter_0 : decode b_LW_letter 0 = .ok (.aload 4, 2) := by decide +kernel
theorem d_LW_letter_2 : decode b_LW_letter 2 = .ok (.iconst 0, 1) := by decide +kernel
theorem d_LW_letter_3 : decode b_LW_letter 3 = .ok (.aload_n 0, 1) := by decide +kernel
theorem d_LW_letter_4 : decode b_LW_letter 4 = .ok (.iload_n 1, 1) := by decide +kernel
theorem d_LW_letter_5 : decode b_LW_letter 5 = .ok (.iload_n 2, 1) := by decide +kernel
theorem d_LW_letter_6 : decode b_LW_letter 6 = .ok (.iload_n 3, 1) := by decide +kernel
theorem d_LW_letter_7 : decode b_LW_letter 7 = .ok (.invokevirtual 40, 3) := by decide +kernel
theorem d_LW_letter_10 : decode b_LW_letter 10 = .ok (.i2l, 1) := by decide +kernel
theorem d_LW_letter_11 : decode b_LW_letter 11 = .ok (.lastore, 1) := by decide +kernel
theorem d_LW_letter_12 : decode b_LW_letter 12 = .ok (.goto 7, 3) := by decide +kernel
theorem d_LW_letter_15 : decode b_LW_letter 15 = .ok (.astore 5, 2) := by decide +kernel
theorem d_LW_letter_17 : decode b_LW_letter 17 = .ok (.iconst 1, 1) := by decide +kernel
theorem d_LW_letter_18 : decode b_LW_letter 18 = .ok (.ireturn, 1) := by decide +kernel
theorem d_LW_letter_19 : decode b_LW_letter 19 = .ok (.iconst 0, 1) := by decide +kernel
theorem d_LW_letter_20 : decode b_LW_letter 20 = .ok (.ireturn, 1) := by decide +kernel
abbrev b_LW_leap : ByteArray := method_11_code
def y_LW_leap : MethodName := ⟨"ZoneFilesLaw", "leap", "(LZoneFiles;III[J)I"⟩
theorem d_LW_leap_0 : decode b_LW_leap 0 = .ok (.aload 4, 2) := by decide +kernel
theorem d_LW_leap_2 : decode b_LW_leap 2 = .ok (.iconst 0, 1) := by decide +kernel
theorem d_LW_leap_3 : decode b_LW_leap 3 = .ok (.aload_n 0, 1) := by decide +kernel
theorem d_LW_leap_4 : decode b_LW_leap 4 = .ok (.iload_n 1, 1) := by decide +kernel
theorem d_LW_leap_5 : decode b_LW_leap 5 = .ok (.iload_n 2, 1) := by decide +kernel
theorem d_LW_leap_6 : decode b_LW_leap 6 = .ok (.iload_n 3, 1) := by decide +kernel
theorem d_LW_leap_7 : decode b_LW_leap 7 = .ok (.invokevirtual 43, 3) := by decide +kernel
theorem d_LW_leap_10 : decode b_LW_leap 10 = .ok (.lastore, 1) := by decide +kernel
theorem d_LW_leap_11 : decode b_LW_leap 11 = .ok (.goto 7, 3) := by decide +kernel
theorem d_LW_leap_14 : decode b_LW_leap 14 = .ok (.astore 5, 2) := by decide +kernel
theorem d_LW_leap_16 : decode b_LW_leap 16 = .ok (.iconst 1, 1) := by decide +kernel
theorem d_LW_leap_17 : decode b_LW_leap 17 = .ok (.ireturn, 1) := by decide +kernel
theorem d_LW_leap_18 : decode b_LW_leap 18 = .ok (.iconst 0, 1) := by decide +kernel
theorem d_LW_leap_19 : decode b_LW_leap 19 = .ok (.ireturn, 1) := by decide +kernel
abbrev b_LW_at : ByteArray := method_12_code
def y_LW_at : MethodName := ⟨"ZoneFilesLaw", "at", "(LZoneFiles;IJI[J)I"⟩
theorem d_LW_at_0 : decode b_LW_at 0 = .ok (.aload 5, 2) := by decide +kernel
theorem d_LW_at_2 : decode b_LW_at 2 = .ok (.iconst 0, 1) := by decide +kernel
theorem d_LW_at_3 : decode b_LW_at 3 = .ok (.aload_n 0, 1) := by decide +kernel
theorem d_LW_at_4 : decode b_LW_at 4 = .ok (.iload_n 1, 1) := by decide +kernel
theorem d_LW_at_5 : decode b_LW_at 5 = .ok (.lload_n 2, 1) := by decide +kernel
theorem d_LW_at_6 : decode b_LW_at 6 = .ok (.iload 4, 2) := by decide +kernel
theorem d_LW_at_8 : decode b_LW_at 8 = .ok (.invokevirtual 47, 3) := by decide +kernel
theorem d_LW_at_11 : decode b_LW_at 11 = .ok (.i2l, 1) := by decide +kernel
theorem d_LW_at_12 : decode b_LW_at 12 = .ok (.lastore, 1) := by decide +kernel
theorem d_LW_at_13 : decode b_LW_at 13 = .ok (.goto 11, 3) := by decide +kernel
theorem d_LW_at_16 : decode b_LW_at 16 = .ok (.astore 6, 2) := by decide +kernel
theorem d_LW_at_18 : decode b_LW_at 18 = .ok (.iconst 1, 1) := by decide +kernel
theorem d_LW_at_19 : decode b_LW_at 19 = .ok (.ireturn, 1) := by decide +kernel
theorem d_LW_at_20 : decode b_LW_at 20 = .ok (.astore 6, 2) := by decide +kernel
theorem d_LW_at_22 : decode b_LW_at 22 = .ok (.iconst 2, 1) := by decide +kernel
theorem d_LW_at_23 : decode b_LW_at 23 = .ok (.ireturn, 1) := by decide +kernel
theorem d_LW_at_24 : decode b_LW_at 24 = .ok (.iconst 0, 1) := by decide +kernel
theorem d_LW_at_25 : decode b_LW_at 25 = .ok (.ireturn, 1) := by decide +kernel
abbrev b_LW_name : ByteArray := method_13_code
def y_LW_name : MethodName := ⟨"ZoneFilesLaw", "name", "(LZoneFiles;IJI[J)I"⟩
theorem d_LW_name_0 : decode b_LW_name 0 = .ok (.aload 5, 2) := by decide +kernel
theorem d_LW_name_2 : decode b_LW_name 2 = .ok (.iconst 0, 1) := by decide +kernel
theorem d_LW_name_3 : decode b_LW_name 3 = .ok (.aload_n 0, 1) := by decide +kernel
theorem d_LW_name_4 : decode b_LW_name 4 = .ok (.iload_n 1, 1) := by decide +kernel
theorem d_LW_name_5 : decode b_LW_name 5 = .ok (.lload_n 2, 1) := by decide +kernel
theorem d_LW_name_6 : decode b_LW_name 6 = .ok (.iload 4, 2) := by decide +kernel
theorem d_LW_name_8 : decode b_LW_name 8 = .ok (.invokevirtual 51, 3) := by decide +kernel
theorem d_LW_name_11 : decode b_LW_name 11 = .ok (.i2l, 1) := by decide +kernel
theorem d_LW_name_12 : decode b_LW_name 12 = .ok (.lastore, 1) := by decide +kernel
theorem d_LW_name_13 : decode b_LW_name 13 = .ok (.goto 15, 3) := by decide +kernel
theorem d_LW_name_16 : decode b_LW_name 16 = .ok (.astore 6, 2) := by decide +kernel
theorem d_LW_name_18 : decode b_LW_name 18 = .ok (.iconst 1, 1) := by decide +kernel
theorem d_LW_name_19 : decode b_LW_name 19 = .ok (.ireturn, 1) := by decide +kernel
theorem d_LW_name_20 : decode b_LW_name 20 = .ok (.astore 6, 2) := by decide +kernel
theorem d_LW_name_22 : decode b_LW_name 22 = .ok (.iconst 2, 1) := by decide +kernel
theorem d_LW_name_23 : decode b_LW_name 23 = .ok (.ireturn, 1) := by decide +kernel
theorem d_LW_name_24 : decode b_LW_name 24 = .ok (.astore 6, 2) := by decide +kernel
theorem d_LW_name_26 : decode b_LW_name 26 = .ok (.iconst 3, 1) := by decide +kernel
theorem d_LW_name_27 : decode b_LW_name 27 = .ok (.ireturn, 1) := by decide +kernel
theorem d_LW_name_28 : decode b_LW_name 28 = .ok (.iconst 0, 1) := by decide +kernel
theorem d_LW_name_29 : decode b_LW_name 29 = .ok (.ireturn, 1) := by decide +kernel
abbrev b_LW_clock : ByteArray := method_14_code
def y_LW_clock : MethodName := ⟨"ZoneFilesLaw", "clock", "(LZoneFiles;JI[J)I"⟩
theorem d_LW_clock_0 : decode b_LW_clock 0 = .ok (.aload 4, 2) := by decide +kernel
theorem d_LW_clock_2 : decode b_LW_clock 2 = .ok (.iconst 0, 1) := by decide +kernel
theorem d_LW_clock_3 : decode b_LW_clock 3 = .ok (.aload_n 0, 1) := by decide +kernel
theorem d_LW_clock_4 : decode b_LW_clock 4 = .ok (.lload_n 1, 1) := by decide +kernel
theorem d_LW_clock_5 : decode b_LW_clock 5 = .ok (.iload_n 3, 1) := by decide +kernel
theorem d_LW_clock_6 : decode b_LW_clock 6 = .ok (.invokevirtual 56, 3) := by decide +kernel
theorem d_LW_clock_9 : decode b_LW_clock 9 = .ok (.lastore, 1) := by decide +kernel
theorem d_LW_clock_10 : decode b_LW_clock 10 = .ok (.goto 11, 3) := by decide +kernel
theorem d_LW_clock_13 : decode b_LW_clock 13 = .ok (.astore 5, 2) := by decide +kernel
theorem d_LW_clock_15 : decode b_LW_clock 15 = .ok (.iconst 1, 1) := by decide +kernel
theorem d_LW_clock_16 : decode b_LW_clock 16 = .ok (.ireturn, 1) := by decide +kernel
theorem d_LW_clock_17 : decode b_LW_clock 17 = .ok (.astore 5, 2) := by decide +kernel
theorem d_LW_clock_19 : decode b_LW_clock 19 = .ok (.iconst 2, 1) := by decide +kernel
theorem d_LW_clock_20 : decode b_LW_clock 20 = .ok (.ireturn, 1) := by decide +kernel
theorem d_LW_clock_21 : decode b_LW_clock 21 = .ok (.iconst 0, 1) := by decide +kernel
theorem d_LW_clock_22 : decode b_LW_clock 22 = .ok (.ireturn, 1) := by decide +kernel
abbrev b_LW_seconds : ByteArray := method_15_code
def y_LW_seconds : MethodName := ⟨"ZoneFilesLaw", "seconds", "(LZoneFiles;JIII[J)I"⟩
theorem d_LW_seconds_0 : decode b_LW_seconds 0 = .ok (.aload 6, 2) := by decide +kernel
theorem d_LW_seconds_2 : decode b_LW_seconds 2 = .ok (.iconst 0, 1) := by decide +kernel
theorem d_LW_seconds_3 : decode b_LW_seconds 3 = .ok (.aload_n 0, 1) := by decide +kernel
theorem d_LW_seconds_4 : decode b_LW_seconds 4 = .ok (.lload_n 1, 1) := by decide +kernel
theorem d_LW_seconds_5 : decode b_LW_seconds 5 = .ok (.iload_n 3, 1) := by decide +kernel
theorem d_LW_seconds_6 : decode b_LW_seconds 6 = .ok (.iload 4, 2) := by decide +kernel
theorem d_LW_seconds_8 : decode b_LW_seconds 8 = .ok (.iload 5, 2) := by decide +kernel
theorem d_LW_seconds_10 : decode b_LW_seconds 10 = .ok (.invokevirtual 60, 3) := by decide +kernel
theorem d_LW_seconds_13 : decode b_LW_seconds 13 = .ok (.lastore, 1) := by decide +kernel
theorem d_LW_seconds_14 : decode b_LW_seconds 14 = .ok (.goto 7, 3) := by decide +kernel
theorem d_LW_seconds_17 : decode b_LW_seconds 17 = .ok (.astore 7, 2) := by decide +kernel
theorem d_LW_seconds_19 : decode b_LW_seconds 19 = .ok (.iconst 1, 1) := by decide +kernel
theorem d_LW_seconds_20 : decode b_LW_seconds 20 = .ok (.ireturn, 1) := by decide +kernel
theorem d_LW_seconds_21 : decode b_LW_seconds 21 = .ok (.iconst 0, 1) := by decide +kernel
theorem d_LW_seconds_22 : decode b_LW_seconds 22 = .ok (.ireturn, 1) := by decide +kernel
abbrev b_LW_find : ByteArray := method_16_code
def y_LW_find : MethodName := ⟨"ZoneFilesLaw", "find", "(LZoneFiles;IJ[J)I"⟩
theorem d_LW_find_0 : decode b_LW_find 0 = .ok (.aload 4, 2) := by decide +kernel
theorem d_LW_find_2 : decode b_LW_find 2 = .ok (.iconst 0, 1) := by decide +kernel
theorem d_LW_find_3 : decode b_LW_find 3 = .ok (.aload_n 0, 1) := by decide +kernel
theorem d_LW_find_4 : decode b_LW_find 4 = .ok (.iload_n 1, 1) := by decide +kernel
theorem d_LW_find_5 : decode b_LW_find 5 = .ok (.lload_n 2, 1) := by decide +kernel
theorem d_LW_find_6 : decode b_LW_find 6 = .ok (.invokevirtual 64, 3) := by decide +kernel
theorem d_LW_find_9 : decode b_LW_find 9 = .ok (.i2l, 1) := by decide +kernel
theorem d_LW_find_10 : decode b_LW_find 10 = .ok (.lastore, 1) := by decide +kernel
theorem d_LW_find_11 : decode b_LW_find 11 = .ok (.goto 11, 3) := by decide +kernel
theorem d_LW_find_14 : decode b_LW_find 14 = .ok (.astore 5, 2) := by decide +kernel
theorem d_LW_find_16 : decode b_LW_find 16 = .ok (.iconst 1, 1) := by decide +kernel
theorem d_LW_find_17 : decode b_LW_find 17 = .ok (.ireturn, 1) := by decide +kernel
theorem d_LW_find_18 : decode b_LW_find 18 = .ok (.astore 5, 2) := by decide +kernel
theorem d_LW_find_20 : decode b_LW_find 20 = .ok (.iconst 2, 1) := by decide +kernel
theorem d_LW_find_21 : decode b_LW_find 21 = .ok (.ireturn, 1) := by decide +kernel
theorem d_LW_find_22 : decode b_LW_find 22 = .ok (.iconst 0, 1) := by decide +kernel
theorem d_LW_find_23 : decode b_LW_find 23 = .ok (.ireturn, 1) := by decide +kernel
abbrev b_LW_found : ByteArray := method_17_code
def y_LW_found : MethodName := ⟨"ZoneFilesLaw", "found", "(LZoneFiles;I[J)I"⟩
theorem d_LW_found_0 : decode b_LW_found 0 = .ok (.aload_n 2, 1) := by decide +kernel
theorem d_LW_found_1 : decode b_LW_found 1 = .ok (.iconst 0, 1) := by decide +kernel
theorem d_LW_found_2 : decode b_LW_found 2 = .ok (.aload_n 0, 1) := by decide +kernel
theorem d_LW_found_3 : decode b_LW_found 3 = .ok (.iload_n 1, 1) := by decide +kernel
theorem d_LW_found_4 : decode b_LW_found 4 = .ok (.invokevirtual 67, 3) := by decide +kernel
theorem d_LW_found_7 : decode b_LW_found 7 = .ok (.lastore, 1) := by decide +kernel
theorem d_LW_found_8 : decode b_LW_found 8 = .ok (.goto 6, 3) := by decide +kernel
theorem d_LW_found_11 : decode b_LW_found 11 = .ok (.astore_n 3, 1) := by decide +kernel
theorem d_LW_found_12 : decode b_LW_found 12 = .ok (.iconst 1, 1) := by decide +kernel
theorem d_LW_found_13 : decode b_LW_found 13 = .ok (.ireturn, 1) := by decide +kernel
theorem d_LW_found_14 : decode b_LW_found 14 = .ok (.iconst 0, 1) := by decide +kernel
theorem d_LW_found_15 : decode b_LW_found 15 = .ok (.ireturn, 1) := by decide +kernel
abbrev b_LW_next : ByteArray := method_18_code
def y_LW_next : MethodName := ⟨"ZoneFilesLaw", "next", "(LZoneFiles;IJ[J)I"⟩
theorem d_LW_next_0 : decode b_LW_next 0 = .ok (.aload 4, 2) := by decide +kernel
theorem d_LW_next_2 : decode b_LW_next 2 = .ok (.iconst 0, 1) := by decide +kernel
theorem d_LW_next_3 : decode b_LW_next 3 = .ok (.aload_n 0, 1) := by decide +kernel
theorem d_LW_next_4 : decode b_LW_next 4 = .ok (.iload_n 1, 1) := by decide +kernel
theorem d_LW_next_5 : decode b_LW_next 5 = .ok (.lload_n 2, 1) := by decide +kernel
theorem d_LW_next_6 : decode b_LW_next 6 = .ok (.invokevirtual 71, 3) := by decide +kernel
theorem d_LW_next_9 : decode b_LW_next 9 = .ok (.lastore, 1) := by decide +kernel
theorem d_LW_next_10 : decode b_LW_next 10 = .ok (.goto 11, 3) := by decide +kernel
theorem d_LW_next_13 : decode b_LW_next 13 = .ok (.astore 5, 2) := by decide +kernel
theorem d_LW_next_15 : decode b_LW_next 15 = .ok (.iconst 1, 1) := by decide +kernel
theorem d_LW_next_16 : decode b_LW_next 16 = .ok (.ireturn, 1) := by decide +kernel
theorem d_LW_next_17 : decode b_LW_next 17 = .ok (.astore 5, 2) := by decide +kernel
theorem d_LW_next_19 : decode b_LW_next 19 = .ok (.iconst 2, 1) := by decide +kernel
theorem d_LW_next_20 : decode b_LW_next 20 = .ok (.ireturn, 1) := by decide +kernel
theorem d_LW_next_21 : decode b_LW_next 21 = .ok (.iconst 0, 1) := by decide +kernel
theorem d_LW_next_22 : decode b_LW_next 22 = .ok (.ireturn, 1) := by decide +kernel
abbrev b_LW_last : ByteArray := method_19_code
def y_LW_last : MethodName := ⟨"ZoneFilesLaw", "last", "(LZoneFiles;IJ[J)I"⟩
theorem d_LW_last_0 : decode b_LW_last 0 = .ok (.aload 4, 2) := by decide +kernel
theorem d_LW_last_2 : decode b_LW_last 2 = .ok (.iconst 0, 1) := by decide +kernel
theorem d_LW_last_3 : decode b_LW_last 3 = .ok (.aload_n 0, 1) := by decide +kernel
theorem d_LW_last_4 : decode b_LW_last 4 = .ok (.iload_n 1, 1) := by decide +kernel
theorem d_LW_last_5 : decode b_LW_last 5 = .ok (.lload_n 2, 1) := by decide +kernel
theorem d_LW_last_6 : decode b_LW_last 6 = .ok (.invokevirtual 75, 3) := by decide +kernel
theorem d_LW_last_9 : decode b_LW_last 9 = .ok (.lastore, 1) := by decide +kernel
theorem d_LW_last_10 : decode b_LW_last 10 = .ok (.goto 11, 3) := by decide +kernel
theorem d_LW_last_13 : decode b_LW_last 13 = .ok (.astore 5, 2) := by decide +kernel
theorem d_LW_last_15 : decode b_LW_last 15 = .ok (.iconst 1, 1) := by decide +kernel
theorem d_LW_last_16 : decode b_LW_last 16 = .ok (.ireturn, 1) := by decide +kernel
theorem d_LW_last_17 : decode b_LW_last 17 = .ok (.astore 5, 2) := by decide +kernel
theorem d_LW_last_19 : decode b_LW_last 19 = .ok (.iconst 2, 1) := by decide +kernel
theorem d_LW_last_20 : decode b_LW_last 20 = .ok (.ireturn, 1) := by decide +kernel
theorem d_LW_last_21 : decode b_LW_last 21 = .ok (.iconst 0, 1) := by decide +kernel
theorem d_LW_last_22 : decode b_LW_last 22 = .ok (.ireturn, 1) := by decide +kernel
abbrev b_LW_stretch : ByteArray := method_20_code
def y_LW_stretch : MethodName := ⟨"ZoneFilesLaw", "stretch", "(LZoneFiles;II[J)I"⟩
theorem d_LW_stretch_0 : decode b_LW_stretch 0 = .ok (.aload_n 3, 1) := by decide +kernel
theorem d_LW_stretch_1 : decode b_LW_stretch 1 = .ok (.iconst 0, 1) := by decide +kernel
theorem d_LW_stretch_2 : decode b_LW_stretch 2 = .ok (.aload_n 0, 1) := by decide +kernel
theorem d_LW_stretch_3 : decode b_LW_stretch 3 = .ok (.iload_n 1, 1) := by decide +kernel
theorem d_LW_stretch_4 : decode b_LW_stretch 4 = .ok (.iload_n 2, 1) := by decide +kernel
theorem d_LW_stretch_5 : decode b_LW_stretch 5 = .ok (.invokevirtual 78, 3) := by decide +kernel
theorem d_LW_stretch_8 : decode b_LW_stretch 8 = .ok (.i2l, 1) := by decide +kernel
theorem d_LW_stretch_9 : decode b_LW_stretch 9 = .ok (.lastore, 1) := by decide +kernel
theorem d_LW_stretch_10 : decode b_LW_stretch 10 = .ok (.goto 15, 3) := by decide +kernel
theorem d_LW_stretch_13 : decode b_LW_stretch 13 = .ok (.astore 4, 2) := by decide +kernel
theorem d_LW_stretch_15 : decode b_LW_stretch 15 = .ok (.iconst 1, 1) := by decide +kernel
theorem d_LW_stretch_16 : decode b_LW_stretch 16 = .ok (.ireturn, 1) := by decide +kernel
theorem d_LW_stretch_17 : decode b_LW_stretch 17 = .ok (.astore 4, 2) := by decide +kernel
theorem d_LW_stretch_19 : decode b_LW_stretch 19 = .ok (.iconst 2, 1) := by decide +kernel
theorem d_LW_stretch_20 : decode b_LW_stretch 20 = .ok (.ireturn, 1) := by decide +kernel
theorem d_LW_stretch_21 : decode b_LW_stretch 21 = .ok (.astore 4, 2) := by decide +kernel
theorem d_LW_stretch_23 : decode b_LW_stretch 23 = .ok (.iconst 3, 1) := by decide +kernel
theorem d_LW_stretch_24 : decode b_LW_stretch 24 = .ok (.ireturn, 1) := by decide +kernel
theorem d_LW_stretch_25 : decode b_LW_stretch 25 = .ok (.iconst 0, 1) := by decide +kernel
theorem d_LW_stretch_26 : decode b_LW_stretch 26 = .ok (.ireturn, 1) := by decide +kernel
abbrev b_LW_write : ByteArray := method_21_code
def y_LW_write : MethodName := ⟨"ZoneFilesLaw", "write", "(LZoneFiles;II[J)I"⟩
theorem d_LW_write_0 : decode b_LW_write 0 = .ok (.aload_n 3, 1) := by decide +kernel
theorem d_LW_write_1 : decode b_LW_write 1 = .ok (.iconst 0, 1) := by decide +kernel
theorem d_LW_write_2 : decode b_LW_write 2 = .ok (.aload_n 0, 1) := by decide +kernel
theorem d_LW_write_3 : decode b_LW_write 3 = .ok (.iload_n 1, 1) := by decide +kernel
theorem d_LW_write_4 : decode b_LW_write 4 = .ok (.iload_n 2, 1) := by decide +kernel
theorem d_LW_write_5 : decode b_LW_write 5 = .ok (.invokevirtual 81, 3) := by decide +kernel
theorem d_LW_write_8 : decode b_LW_write 8 = .ok (.i2l, 1) := by decide +kernel
theorem d_LW_write_9 : decode b_LW_write 9 = .ok (.lastore, 1) := by decide +kernel
theorem d_LW_write_10 : decode b_LW_write 10 = .ok (.goto 15, 3) := by decide +kernel
theorem d_LW_write_13 : decode b_LW_write 13 = .ok (.astore 4, 2) := by decide +kernel
theorem d_LW_write_15 : decode b_LW_write 15 = .ok (.iconst 1, 1) := by decide +kernel
theorem d_LW_write_16 : decode b_LW_write 16 = .ok (.ireturn, 1) := by decide +kernel
theorem d_LW_write_17 : decode b_LW_write 17 = .ok (.astore 4, 2) := by decide +kernel
theorem d_LW_write_19 : decode b_LW_write 19 = .ok (.iconst 2, 1) := by decide +kernel
theorem d_LW_write_20 : decode b_LW_write 20 = .ok (.ireturn, 1) := by decide +kernel
theorem d_LW_write_21 : decode b_LW_write 21 = .ok (.astore 4, 2) := by decide +kernel
theorem d_LW_write_23 : decode b_LW_write 23 = .ok (.iconst 3, 1) := by decide +kernel
theorem d_LW_write_24 : decode b_LW_write 24 = .ok (.ireturn, 1) := by decide +kernel
theorem d_LW_write_25 : decode b_LW_write 25 = .ok (.iconst 0, 1) := by decide +kernel
theorem d_LW_write_26 : decode b_LW_write 26 = .ok (.ireturn, 1) := by decide +kernel
abbrev b_LW_out : ByteArray := method_22_code
def y_LW_out : MethodName := ⟨"ZoneFilesLaw", "out", "(LZoneFiles;I[J)I"⟩
theorem d_LW_out_0 : decode b_LW_out 0 = .ok (.aload_n 2, 1) := by decide +kernel
theorem d_LW_out_1 : decode b_LW_out 1 = .ok (.iconst 0, 1) := by decide +kernel
theorem d_LW_out_2 : decode b_LW_out 2 = .ok (.aload_n 0, 1) := by decide +kernel
theorem d_LW_out_3 : decode b_LW_out 3 = .ok (.iload_n 1, 1) := by decide +kernel
theorem d_LW_out_4 : decode b_LW_out 4 = .ok (.invokevirtual 84, 3) := by decide +kernel
theorem d_LW_out_7 : decode b_LW_out 7 = .ok (.i2l, 1) := by decide +kernel
theorem d_LW_out_8 : decode b_LW_out 8 = .ok (.lastore, 1) := by decide +kernel
theorem d_LW_out_9 : decode b_LW_out 9 = .ok (.goto 6, 3) := by decide +kernel
theorem d_LW_out_12 : decode b_LW_out 12 = .ok (.astore_n 3, 1) := by decide +kernel
theorem d_LW_out_13 : decode b_LW_out 13 = .ok (.iconst 1, 1) := by decide +kernel
theorem d_LW_out_14 : decode b_LW_out 14 = .ok (.ireturn, 1) := by decide +kernel
theorem d_LW_out_15 : decode b_LW_out 15 = .ok (.iconst 0, 1) := by decide +kernel
theorem d_LW_out_16 : decode b_LW_out 16 = .ok (.ireturn, 1) := by decide +kernel
abbrev b_LW_told : ByteArray := method_23_code
def y_LW_told : MethodName := ⟨"ZoneFilesLaw", "told", "(LZoneFiles;I[J)I"⟩
theorem d_LW_told_0 : decode b_LW_told 0 = .ok (.aload_n 2, 1) := by decide +kernel
theorem d_LW_told_1 : decode b_LW_told 1 = .ok (.iconst 0, 1) := by decide +kernel
theorem d_LW_told_2 : decode b_LW_told 2 = .ok (.aload_n 0, 1) := by decide +kernel
theorem d_LW_told_3 : decode b_LW_told 3 = .ok (.iload_n 1, 1) := by decide +kernel
theorem d_LW_told_4 : decode b_LW_told 4 = .ok (.invokevirtual 87, 3) := by decide +kernel
theorem d_LW_told_7 : decode b_LW_told 7 = .ok (.lastore, 1) := by decide +kernel
theorem d_LW_told_8 : decode b_LW_told 8 = .ok (.goto 9, 3) := by decide +kernel
theorem d_LW_told_11 : decode b_LW_told 11 = .ok (.astore_n 3, 1) := by decide +kernel
theorem d_LW_told_12 : decode b_LW_told 12 = .ok (.iconst 1, 1) := by decide +kernel
theorem d_LW_told_13 : decode b_LW_told 13 = .ok (.ireturn, 1) := by decide +kernel
theorem d_LW_told_14 : decode b_LW_told 14 = .ok (.astore_n 3, 1) := by decide +kernel
theorem d_LW_told_15 : decode b_LW_told 15 = .ok (.iconst 2, 1) := by decide +kernel
theorem d_LW_told_16 : decode b_LW_told 16 = .ok (.ireturn, 1) := by decide +kernel
theorem d_LW_told_17 : decode b_LW_told 17 = .ok (.iconst 0, 1) := by decide +kernel
theorem d_LW_told_18 : decode b_LW_told 18 = .ok (.ireturn, 1) := by decide +kernel
abbrev b_LW_row : ByteArray := method_24_code
def y_LW_row : MethodName := ⟨"ZoneFilesLaw", "row", "(LZoneFiles;II[J)I"⟩
theorem d_LW_row_0 : decode b_LW_row 0 = .ok (.aload_n 3, 1) := by decide +kernel
theorem d_LW_row_1 : decode b_LW_row 1 = .ok (.iconst 0, 1) := by decide +kernel
theorem d_LW_row_2 : decode b_LW_row 2 = .ok (.aload_n 0, 1) := by decide +kernel
theorem d_LW_row_3 : decode b_LW_row 3 = .ok (.iload_n 1, 1) := by decide +kernel
theorem d_LW_row_4 : decode b_LW_row 4 = .ok (.iload_n 2, 1) := by decide +kernel
theorem d_LW_row_5 : decode b_LW_row 5 = .ok (.invokevirtual 90, 3) := by decide +kernel
theorem d_LW_row_8 : decode b_LW_row 8 = .ok (.lastore, 1) := by decide +kernel
theorem d_LW_row_9 : decode b_LW_row 9 = .ok (.goto 7, 3) := by decide +kernel
theorem d_LW_row_12 : decode b_LW_row 12 = .ok (.astore 4, 2) := by decide +kernel
theorem d_LW_row_14 : decode b_LW_row 14 = .ok (.iconst 1, 1) := by decide +kernel
theorem d_LW_row_15 : decode b_LW_row 15 = .ok (.ireturn, 1) := by decide +kernel
theorem d_LW_row_16 : decode b_LW_row 16 = .ok (.iconst 0, 1) := by decide +kernel
theorem d_LW_row_17 : decode b_LW_row 17 = .ok (.ireturn, 1) := by decide +kernel
theorem tab_eq {t : List ExceptionTableEntry} {hh : List (Nat × Nat × Nat × Nat)} (h : t.map (fun h => (h.startPc, h.endPc, h.handlerPc, h.catchType)) = hh) : t = hh.map (fun q => (⟨q.1, q.2.1, q.2.2.1, q.2.2.2⟩ : ExceptionTableEntry)) := by
  subst h
  induction t with
  | nil => rfl
  | cons x t ih =>
    simp only [List.map_cons]
    rw [← ih]
theorem cw_feed (l : Launch) (dC : Nat → ClassId) (dI : Nat → Nat → Nat) {wc : va_W} {tc : List (ClassId × FieldType)} {hx o : Nat} {cA : ClassId} {f : Nat → Int64} {fs : List Value} (p0 : Int32) (p1 : Int64) {r : Int32} {F : va_W → List (ClassId × FieldType) → Prop} {kc ks : Nat} (hM : OM l y_ZF_feed (wd y_ZF_feed b_ZF_feed 5 (some .int)) ({ frames := 3, cells := kc, slots := ks, locals := 62 }) dC dI wc tc [.ref hx, .int p0, .long p1] (some (.int r)) F kc ks) (hw0 : wc[0]? = some (hx, .inr (9, fs))) : OM l y_LW_feed (wdW y_LW_feed b_LW_feed 6 (some .int) [(0, 11, 14, 13)]) ({ frames := 4, cells := kc, slots := ks, locals := 86 }) dC dI (oC o cA f :: wc) ((cA, .long) :: tc) [.ref hx, .int p0, .long p1, .ref o] (some (.int 0)) (oF F o cA f tc r.toInt64) kc ks := fun sz =>
  met_MW (by decide) (Nat.le_of_ble_eq_true rfl) (fun p e R s m args below meth c ls hRc hRs hsz C0 hST hK hP hD hl => by
    subst hsz
    obtain ⟨hx', hb, hr, hml, hown, hts, hlocks, hRf, hRl⟩ := id C0
    refine lv_aload hx' hb d_LW_feed_0 (lv_at hl 3 rfl) ?_
    refine lv_iconst (v := 0) hx' hb d_LW_feed_2 (by decide) ?_
    refine lv_aload_n hx' hb d_LW_feed_3 rfl (lv_at hl 0 rfl) ?_
    refine lv_iload_n hx' hb d_LW_feed_4 rfl (lv_at hl 1 rfl) ?_
    refine lv_lload_n hx' hb d_LW_feed_5 rfl (lv_at hl 2 rfl) ?_
    refine wr_ret C0 (As := [.int p0, .long p1]) hM hRc hRs (cwV 2 hts (gdV m_3_50 m_3_51 m_3_52 m_1_1 m_3_53) rfl rfl rfl (by decide +kernel) ⟨Nat.le_trans (Nat.le_of_ble_eq_true rfl) hRf, Nat.le_trans (Nat.le_of_ble_eq_true rfl) hRl⟩) rfl hw0 hP hK hD hST hl.1 d_LW_feed_6 (fun H locs wf tf hF hP hK hD hS => ?_)
    refine lv_i2l hx' hb d_LW_feed_9 rfl ?_
    exact wr_end C0 hF hP hK hD hS d_LW_feed_10 d_LW_feed_11 (by decide) d_LW_feed_18 d_LW_feed_19)
theorem tw_feed_2 (l : Launch) (dC : Nat → ClassId) (dI : Nat → Nat → Nat) {wc : va_W} {tc : List (ClassId × FieldType)} {hx o : Nat} {fs : List Value} (p0 : Int32) (p1 : Int64) (hM : MetT l y_ZF_feed (wd y_ZF_feed b_ZF_feed 5 (some .int)) ({ frames := 6, cells := 1, slots := 6, locals := 100 }) (ROX dC dI wc tc [.ref hx, .int p0, .long p1]) (TQ "java/lang/IllegalArgumentException") 1 6) (hw0 : wc[0]? = some (hx, .inr (9, fs))) : Met l y_LW_feed (wdW y_LW_feed b_LW_feed 6 (some .int) [(0, 11, 14, 13)]) ({ frames := 7, cells := 1, slots := 6, locals := 124 }) (ROX dC dI wc tc [.ref hx, .int p0, .long p1, .ref o]) (MV (some (.int 1)) (fun _ => True) (fun _ => False)) 1 6 (fun _ => False) :=
  met_TW (by decide) (Nat.le_of_ble_eq_true rfl) (fun p e R s m args below meth c ls hRc hRs htab C0 hST hXT hK hP hl => by
    obtain ⟨hx', hb, hr, hml, hown, hts, hlocks, hRf, hRl⟩ := id C0
    refine lv_aload hx' hb d_LW_feed_0 (lv_at hl 3 rfl) ?_
    refine lv_iconst (v := 0) hx' hb d_LW_feed_2 (by decide) ?_
    refine lv_aload_n hx' hb d_LW_feed_3 rfl (lv_at hl 0 rfl) ?_
    refine lv_iload_n hx' hb d_LW_feed_4 rfl (lv_at hl 1 rfl) ?_
    refine lv_lload_n hx' hb d_LW_feed_5 rfl (lv_at hl 2 rfl) ?_
    refine wr_thr C0 (As := [.int p0, .long p1]) (hpc := 14) hM hRc hRs (cwV 2 hts (gdV m_3_50 m_3_51 m_3_52 m_1_1 m_3_53) rfl rfl rfl (by decide +kernel) ⟨Nat.le_trans (Nat.le_of_ble_eq_true rfl) hRf, Nat.le_trans (Nat.le_of_ble_eq_true rfl) hRl⟩) rfl (va_recv hK hP (ci := 9) (q0 := 0) rfl hw0) hP hK hST hXT hl.1 d_LW_feed_6 (fun x V ce h1 h2 h3 h4 => ?_) (fun x H h1 h2 => ?_)
    · rw [tab_eq htab]
      exact cat_hit h4 hown (hts _ m_3_49) h1 h3 h2 (x_at (hts _ m_3_55) h2) hXT.2.1.2.2.2.2.1 rfl rfl rfl (by decide)
    · refine lv_astore hx' hb d_LW_feed_14 (lv_sub hl [] rfl) (by decide) rfl (fun ls hl => ?_)
      refine lv_iconst (v := 1) hx' hb d_LW_feed_16 (by decide) ?_
      exact wr_done C0 h1 h2 d_LW_feed_17)
theorem cw_read (l : Launch) (dC : Nat → ClassId) (dI : Nat → Nat → Nat) {wc : va_W} {tc : List (ClassId × FieldType)} {hx o : Nat} {cA : ClassId} {f : Nat → Int64} {fs : List Value} (p0 : Int32) {r : Int32} {F : va_W → List (ClassId × FieldType) → Prop} {kc ks : Nat} (hM : OM l y_ZF_readNo (wd y_ZF_readNo b_ZF_readNo 4 (some .int)) ({ frames := 7, cells := kc, slots := ks, locals := 170 }) dC dI wc tc [.ref hx, .int p0] (some (.int r)) F kc ks) (hw0 : wc[0]? = some (hx, .inr (9, fs))) : OM l y_LW_read (wdW y_LW_read b_LW_read 4 (some .int) [(0, 9, 12, 19)]) ({ frames := 8, cells := kc, slots := ks, locals := 193 }) dC dI (oC o cA f :: wc) ((cA, .long) :: tc) [.ref hx, .int p0, .ref o] (some (.int 0)) (oF F o cA f tc r.toInt64) kc ks := fun sz =>
  met_MW (by decide) (Nat.le_of_ble_eq_true rfl) (fun p e R s m args below meth c ls hRc hRs hsz C0 hST hK hP hD hl => by
    subst hsz
    obtain ⟨hx', hb, hr, hml, hown, hts, hlocks, hRf, hRl⟩ := id C0
    refine lv_aload_n hx' hb d_LW_read_0 rfl (lv_at hl 2 rfl) ?_
    refine lv_iconst (v := 0) hx' hb d_LW_read_1 (by decide) ?_
    refine lv_aload_n hx' hb d_LW_read_2 rfl (lv_at hl 0 rfl) ?_
    refine lv_iload_n hx' hb d_LW_read_3 rfl (lv_at hl 1 rfl) ?_
    refine wr_ret C0 (As := [.int p0]) hM hRc hRs (cwV 1 hts (gdV m_3_127 m_3_128 m_3_129 m_1_1 m_3_130) rfl rfl rfl (by decide +kernel) ⟨Nat.le_trans (Nat.le_of_ble_eq_true rfl) hRf, Nat.le_trans (Nat.le_of_ble_eq_true rfl) hRl⟩) rfl hw0 hP hK hD hST hl.1 d_LW_read_4 (fun H locs wf tf hF hP hK hD hS => ?_)
    refine lv_i2l hx' hb d_LW_read_7 rfl ?_
    exact wr_end C0 hF hP hK hD hS d_LW_read_8 d_LW_read_9 (by decide) d_LW_read_15 d_LW_read_16)
theorem tw_read_1 (l : Launch) (dC : Nat → ClassId) (dI : Nat → Nat → Nat) {wc : va_W} {tc : List (ClassId × FieldType)} {hx o : Nat} {fs : List Value} (p0 : Int32) (hM : MetT l y_ZF_readNo (wd y_ZF_readNo b_ZF_readNo 4 (some .int)) ({ frames := 7, cells := 1, slots := 6, locals := 120 }) (ROX dC dI wc tc [.ref hx, .int p0]) (TQ "java/lang/IndexOutOfBoundsException") 1 6) (hw0 : wc[0]? = some (hx, .inr (9, fs))) : Met l y_LW_read (wdW y_LW_read b_LW_read 4 (some .int) [(0, 9, 12, 19)]) ({ frames := 8, cells := 1, slots := 6, locals := 143 }) (ROX dC dI wc tc [.ref hx, .int p0, .ref o]) (MV (some (.int 1)) (fun _ => True) (fun _ => False)) 1 6 (fun _ => False) :=
  met_TW (by decide) (Nat.le_of_ble_eq_true rfl) (fun p e R s m args below meth c ls hRc hRs htab C0 hST hXT hK hP hl => by
    obtain ⟨hx', hb, hr, hml, hown, hts, hlocks, hRf, hRl⟩ := id C0
    refine lv_aload_n hx' hb d_LW_read_0 rfl (lv_at hl 2 rfl) ?_
    refine lv_iconst (v := 0) hx' hb d_LW_read_1 (by decide) ?_
    refine lv_aload_n hx' hb d_LW_read_2 rfl (lv_at hl 0 rfl) ?_
    refine lv_iload_n hx' hb d_LW_read_3 rfl (lv_at hl 1 rfl) ?_
    refine wr_thr C0 (As := [.int p0]) (hpc := 12) hM hRc hRs (cwV 1 hts (gdV m_3_127 m_3_128 m_3_129 m_1_1 m_3_130) rfl rfl rfl (by decide +kernel) ⟨Nat.le_trans (Nat.le_of_ble_eq_true rfl) hRf, Nat.le_trans (Nat.le_of_ble_eq_true rfl) hRl⟩) rfl (va_recv hK hP (ci := 9) (q0 := 0) rfl hw0) hP hK hST hXT hl.1 d_LW_read_4 (fun x V ce h1 h2 h3 h4 => ?_) (fun x H h1 h2 => ?_)
    · rw [tab_eq htab]
      exact cat_hit h4 hown (hts _ m_3_126) h1 h3 h2 (x_at (hts _ m_3_135) h2) hXT.2.1.2.2.2.1 rfl rfl rfl (by decide)
    · refine lv_astore_n hx' hb d_LW_read_12 rfl (lv_sub hl [] rfl) (by decide) rfl (fun ls hl => ?_)
      refine lv_iconst (v := 1) hx' hb d_LW_read_13 (by decide) ?_
      exact wr_done C0 h1 h2 d_LW_read_14)
theorem cw_rule (l : Launch) (dC : Nat → ClassId) (dI : Nat → Nat → Nat) {wc : va_W} {tc : List (ClassId × FieldType)} {hx o : Nat} {cA : ClassId} {f : Nat → Int64} {fs : List Value} (p0 : Int32) (p1 : Int32) {r : Int32} {F : va_W → List (ClassId × FieldType) → Prop} {kc ks : Nat} (hM : OM l y_ZF_ruleNo (wd y_ZF_ruleNo b_ZF_ruleNo 5 (some .int)) ({ frames := 6, cells := kc, slots := ks, locals := 135 }) dC dI wc tc [.ref hx, .int p0, .int p1] (some (.int r)) F kc ks) (hw0 : wc[0]? = some (hx, .inr (9, fs))) : OM l y_LW_rule (wdW y_LW_rule b_LW_rule 5 (some .int) [(0, 10, 13, 19)]) ({ frames := 7, cells := kc, slots := ks, locals := 159 }) dC dI (oC o cA f :: wc) ((cA, .long) :: tc) [.ref hx, .int p0, .int p1, .ref o] (some (.int 0)) (oF F o cA f tc r.toInt64) kc ks := fun sz =>
  met_MW (by decide) (Nat.le_of_ble_eq_true rfl) (fun p e R s m args below meth c ls hRc hRs hsz C0 hST hK hP hD hl => by
    subst hsz
    obtain ⟨hx', hb, hr, hml, hown, hts, hlocks, hRf, hRl⟩ := id C0
    refine lv_aload_n hx' hb d_LW_rule_0 rfl (lv_at hl 3 rfl) ?_
    refine lv_iconst (v := 0) hx' hb d_LW_rule_1 (by decide) ?_
    refine lv_aload_n hx' hb d_LW_rule_2 rfl (lv_at hl 0 rfl) ?_
    refine lv_iload_n hx' hb d_LW_rule_3 rfl (lv_at hl 1 rfl) ?_
    refine lv_iload_n hx' hb d_LW_rule_4 rfl (lv_at hl 2 rfl) ?_
    refine wr_ret C0 (As := [.int p0, .int p1]) hM hRc hRs (cwV 2 hts (gdV m_4_211 m_4_212 m_4_213 m_1_1 m_4_214) rfl rfl rfl (by decide +kernel) ⟨Nat.le_trans (Nat.le_of_ble_eq_true rfl) hRf, Nat.le_trans (Nat.le_of_ble_eq_true rfl) hRl⟩) rfl hw0 hP hK hD hST hl.1 d_LW_rule_5 (fun H locs wf tf hF hP hK hD hS => ?_)
    refine lv_i2l hx' hb d_LW_rule_8 rfl ?_
    exact wr_end C0 hF hP hK hD hS d_LW_rule_9 d_LW_rule_10 (by decide) d_LW_rule_17 d_LW_rule_18)
theorem tw_rule_1 (l : Launch) (dC : Nat → ClassId) (dI : Nat → Nat → Nat) {wc : va_W} {tc : List (ClassId × FieldType)} {hx o : Nat} {fs : List Value} (p0 : Int32) (p1 : Int32) (hM : MetT l y_ZF_ruleNo (wd y_ZF_ruleNo b_ZF_ruleNo 5 (some .int)) ({ frames := 7, cells := 1, slots := 6, locals := 120 }) (ROX dC dI wc tc [.ref hx, .int p0, .int p1]) (TQ "java/lang/IndexOutOfBoundsException") 1 6) (hw0 : wc[0]? = some (hx, .inr (9, fs))) : Met l y_LW_rule (wdW y_LW_rule b_LW_rule 5 (some .int) [(0, 10, 13, 19)]) ({ frames := 8, cells := 1, slots := 6, locals := 144 }) (ROX dC dI wc tc [.ref hx, .int p0, .int p1, .ref o]) (MV (some (.int 1)) (fun _ => True) (fun _ => False)) 1 6 (fun _ => False) :=
  met_TW (by decide) (Nat.le_of_ble_eq_true rfl) (fun p e R s m args below meth c ls hRc hRs htab C0 hST hXT hK hP hl => by
    obtain ⟨hx', hb, hr, hml, hown, hts, hlocks, hRf, hRl⟩ := id C0
    refine lv_aload_n hx' hb d_LW_rule_0 rfl (lv_at hl 3 rfl) ?_
    refine lv_iconst (v := 0) hx' hb d_LW_rule_1 (by decide) ?_
    refine lv_aload_n hx' hb d_LW_rule_2 rfl (lv_at hl 0 rfl) ?_
    refine lv_iload_n hx' hb d_LW_rule_3 rfl (lv_at hl 1 rfl) ?_
    refine lv_iload_n hx' hb d_LW_rule_4 rfl (lv_at hl 2 rfl) ?_
    refine wr_thr C0 (As := [.int p0, .int p1]) (hpc := 13) hM hRc hRs (cwV 2 hts (gdV m_4_211 m_4_212 m_4_213 m_1_1 m_4_214) rfl rfl rfl (by decide +kernel) ⟨Nat.le_trans (Nat.le_of_ble_eq_true rfl) hRf, Nat.le_trans (Nat.le_of_ble_eq_true rfl) hRl⟩) rfl (va_recv hK hP (ci := 9) (q0 := 0) rfl hw0) hP hK hST hXT hl.1 d_LW_rule_5 (fun x V ce h1 h2 h3 h4 => ?_) (fun x H h1 h2 => ?_)
    · rw [tab_eq htab]
      exact cat_hit h4 hown (hts _ m_3_126) h1 h3 h2 (x_at (hts _ m_3_135) h2) hXT.2.1.2.2.2.1 rfl rfl rfl (by decide)
    · refine lv_astore hx' hb d_LW_rule_13 (lv_sub hl [] rfl) (by decide) rfl (fun ls hl => ?_)
      refine lv_iconst (v := 1) hx' hb d_LW_rule_15 (by decide) ?_
      exact wr_done C0 h1 h2 d_LW_rule_16)
theorem cw_zone (l : Launch) (dC : Nat → ClassId) (dI : Nat → Nat → Nat) {wc : va_W} {tc : List (ClassId × FieldType)} {hx o : Nat} {cA : ClassId} {f : Nat → Int64} {fs : List Value} (p0 : Int32) (p1 : Int32) {r : Int32} {F : va_W → List (ClassId × FieldType) → Prop} {kc ks : Nat} (hM : OM l y_ZF_zone (wd y_ZF_zone b_ZF_zone 4 (some .int)) ({ frames := 1, cells := kc, slots := ks, locals := 20 }) dC dI wc tc [.ref hx, .int p0, .int p1] (some (.int r)) F kc ks) (hw0 : wc[0]? = some (hx, .inr (9, fs))) : OM l y_LW_zone (wdW y_LW_zone b_LW_zone 5 (some .int) [(0, 10, 13, 19)]) ({ frames := 2, cells := kc, slots := ks, locals := 43 }) dC dI (oC o cA f :: wc) ((cA, .long) :: tc) [.ref hx, .int p0, .int p1, .ref o] (some (.int 0)) (oF F o cA f tc r.toInt64) kc ks := fun sz =>
  met_MW (by decide) (Nat.le_of_ble_eq_true rfl) (fun p e R s m args below meth c ls hRc hRs hsz C0 hST hK hP hD hl => by
    subst hsz
    obtain ⟨hx', hb, hr, hml, hown, hts, hlocks, hRf, hRl⟩ := id C0
    refine lv_aload_n hx' hb d_LW_zone_0 rfl (lv_at hl 3 rfl) ?_
    refine lv_iconst (v := 0) hx' hb d_LW_zone_1 (by decide) ?_
    refine lv_aload_n hx' hb d_LW_zone_2 rfl (lv_at hl 0 rfl) ?_
    refine lv_iload_n hx' hb d_LW_zone_3 rfl (lv_at hl 1 rfl) ?_
    refine lv_iload_n hx' hb d_LW_zone_4 rfl (lv_at hl 2 rfl) ?_
    refine wr_ret C0 (As := [.int p0, .int p1]) hM hRc hRs (cwV 2 hts (gdV m_4_222 m_4_223 m_4_224 m_1_1 m_4_225) rfl rfl rfl (by decide +kernel) ⟨Nat.le_trans (Nat.le_of_ble_eq_true rfl) hRf, Nat.le_trans (Nat.le_of_ble_eq_true rfl) hRl⟩) rfl hw0 hP hK hD hST hl.1 d_LW_zone_5 (fun H locs wf tf hF hP hK hD hS => ?_)
    refine lv_i2l hx' hb d_LW_zone_8 rfl ?_
    exact wr_end C0 hF hP hK hD hS d_LW_zone_9 d_LW_zone_10 (by decide) d_LW_zone_17 d_LW_zone_18)
theorem tw_zone_1 (l : Launch) (dC : Nat → ClassId) (dI : Nat → Nat → Nat) {wc : va_W} {tc : List (ClassId × FieldType)} {hx o : Nat} {fs : List Value} (p0 : Int32) (p1 : Int32) (hM : MetT l y_ZF_zone (wd y_ZF_zone b_ZF_zone 4 (some .int)) ({ frames := 7, cells := 1, slots := 6, locals := 120 }) (ROX dC dI wc tc [.ref hx, .int p0, .int p1]) (TQ "java/lang/IndexOutOfBoundsException") 1 6) (hw0 : wc[0]? = some (hx, .inr (9, fs))) : Met l y_LW_zone (wdW y_LW_zone b_LW_zone 5 (some .int) [(0, 10, 13, 19)]) ({ frames := 8, cells := 1, slots := 6, locals := 143 }) (ROX dC dI wc tc [.ref hx, .int p0, .int p1, .ref o]) (MV (some (.int 1)) (fun _ => True) (fun _ => False)) 1 6 (fun _ => False) :=
  met_TW (by decide) (Nat.le_of_ble_eq_true rfl) (fun p e R s m args below meth c ls hRc hRs htab C0 hST hXT hK hP hl => by
    obtain ⟨hx', hb, hr, hml, hown, hts, hlocks, hRf, hRl⟩ := id C0
    refine lv_aload_n hx' hb d_LW_zone_0 rfl (lv_at hl 3 rfl) ?_
    refine lv_iconst (v := 0) hx' hb d_LW_zone_1 (by decide) ?_
    refine lv_aload_n hx' hb d_LW_zone_2 rfl (lv_at hl 0 rfl) ?_
    refine lv_iload_n hx' hb d_LW_zone_3 rfl (lv_at hl 1 rfl) ?_
    refine lv_iload_n hx' hb d_LW_zone_4 rfl (lv_at hl 2 rfl) ?_
    refine wr_thr C0 (As := [.int p0, .int p1]) (hpc := 13) hM hRc hRs (cwV 2 hts (gdV m_4_222 m_4_223 m_4_224 m_1_1 m_4_225) rfl rfl rfl (by decide +kernel) ⟨Nat.le_trans (Nat.le_of_ble_eq_true rfl) hRf, Nat.le_trans (Nat.le_of_ble_eq_true rfl) hRl⟩) rfl (va_recv hK hP (ci := 9) (q0 := 0) rfl hw0) hP hK hST hXT hl.1 d_LW_zone_5 (fun x V ce h1 h2 h3 h4 => ?_) (fun x H h1 h2 => ?_)
    · rw [tab_eq htab]
      exact cat_hit h4 hown (hts _ m_3_126) h1 h3 h2 (x_at (hts _ m_3_135) h2) hXT.2.1.2.2.2.1 rfl rfl rfl (by decide)
    · refine lv_astore hx' hb d_LW_zone_13 (lv_sub hl [] rfl) (by decide) rfl (fun ls hl => ?_)
      refine lv_iconst (v := 1) hx' hb d_LW_zone_15 (by decide) ?_
      exact wr_done C0 h1 h2 d_LW_zone_16)
theorem cw_time (l : Launch) (dC : Nat → ClassId) (dI : Nat → Nat → Nat) {wc : va_W} {tc : List (ClassId × FieldType)} {hx o : Nat} {cA : ClassId} {f : Nat → Int64} {fs : List Value} (p0 : Int32) (p1 : Int32) {r : Int64} {F : va_W → List (ClassId × FieldType) → Prop} {kc ks : Nat} (hM : OM l y_ZF_time (wd y_ZF_time b_ZF_time 3 (some .long)) ({ frames := 1, cells := kc, slots := ks, locals := 21 }) dC dI wc tc [.ref hx, .int p0, .int p1] (some (.long r)) F kc ks) (hw0 : wc[0]? = some (hx, .inr (9, fs))) : OM l y_LW_time (wdW y_LW_time b_LW_time 5 (some .int) [(0, 9, 12, 19)]) ({ frames := 2, cells := kc, slots := ks, locals := 43 }) dC dI (oC o cA f :: wc) ((cA, .long) :: tc) [.ref hx, .int p0, .int p1, .ref o] (some (.int 0)) (oF F o cA f tc r) kc ks := fun sz =>
  met_MW (by decide) (Nat.le_of_ble_eq_true rfl) (fun p e R s m args below meth c ls hRc hRs hsz C0 hST hK hP hD hl => by
    subst hsz
    obtain ⟨hx', hb, hr, hml, hown, hts, hlocks, hRf, hRl⟩ := id C0
    refine lv_aload_n hx' hb d_LW_time_0 rfl (lv_at hl 3 rfl) ?_
    refine lv_iconst (v := 0) hx' hb d_LW_time_1 (by decide) ?_
    refine lv_aload_n hx' hb d_LW_time_2 rfl (lv_at hl 0 rfl) ?_
    refine lv_iload_n hx' hb d_LW_time_3 rfl (lv_at hl 1 rfl) ?_
    refine lv_iload_n hx' hb d_LW_time_4 rfl (lv_at hl 2 rfl) ?_
    refine wr_ret C0 (As := [.int p0, .int p1]) hM hRc hRs (cwV 2 hts (gdV m_4_230 m_4_231 m_4_232 m_1_1 m_4_233) rfl rfl rfl (by decide +kernel) ⟨Nat.le_trans (Nat.le_of_ble_eq_true rfl) hRf, Nat.le_trans (Nat.le_of_ble_eq_true rfl) hRl⟩) rfl hw0 hP hK hD hST hl.1 d_LW_time_5 (fun H locs wf tf hF hP hK hD hS => ?_)
    exact wr_end C0 hF hP hK hD hS d_LW_time_8 d_LW_time_9 (by decide) d_LW_time_16 d_LW_time_17)
theorem tw_time_1 (l : Launch) (dC : Nat → ClassId) (dI : Nat → Nat → Nat) {wc : va_W} {tc : List (ClassId × FieldType)} {hx o : Nat} {fs : List Value} (p0 : Int32) (p1 : Int32) (hM : MetT l y_ZF_time (wd y_ZF_time b_ZF_time 3 (some .long)) ({ frames := 7, cells := 1, slots := 6, locals := 121 }) (ROX dC dI wc tc [.ref hx, .int p0, .int p1]) (TQ "java/lang/IndexOutOfBoundsException") 1 6) (hw0 : wc[0]? = some (hx, .inr (9, fs))) : Met l y_LW_time (wdW y_LW_time b_LW_time 5 (some .int) [(0, 9, 12, 19)]) ({ frames := 8, cells := 1, slots := 6, locals := 143 }) (ROX dC dI wc tc [.ref hx, .int p0, .int p1, .ref o]) (MV (some (.int 1)) (fun _ => True) (fun _ => False)) 1 6 (fun _ => False) :=
  met_TW (by decide) (Nat.le_of_ble_eq_true rfl) (fun p e R s m args below meth c ls hRc hRs htab C0 hST hXT hK hP hl => by
    obtain ⟨hx', hb, hr, hml, hown, hts, hlocks, hRf, hRl⟩ := id C0
    refine lv_aload_n hx' hb d_LW_time_0 rfl (lv_at hl 3 rfl) ?_
    refine lv_iconst (v := 0) hx' hb d_LW_time_1 (by decide) ?_
    refine lv_aload_n hx' hb d_LW_time_2 rfl (lv_at hl 0 rfl) ?_
    refine lv_iload_n hx' hb d_LW_time_3 rfl (lv_at hl 1 rfl) ?_
    refine lv_iload_n hx' hb d_LW_time_4 rfl (lv_at hl 2 rfl) ?_
    refine wr_thr C0 (As := [.int p0, .int p1]) (hpc := 12) hM hRc hRs (cwV 2 hts (gdV m_4_230 m_4_231 m_4_232 m_1_1 m_4_233) rfl rfl rfl (by decide +kernel) ⟨Nat.le_trans (Nat.le_of_ble_eq_true rfl) hRf, Nat.le_trans (Nat.le_of_ble_eq_true rfl) hRl⟩) rfl (va_recv hK hP (ci := 9) (q0 := 0) rfl hw0) hP hK hST hXT hl.1 d_LW_time_5 (fun x V ce h1 h2 h3 h4 => ?_) (fun x H h1 h2 => ?_)
    · rw [tab_eq htab]
      exact cat_hit h4 hown (hts _ m_3_126) h1 h3 h2 (x_at (hts _ m_3_135) h2) hXT.2.1.2.2.2.1 rfl rfl rfl (by decide)
    · refine lv_astore hx' hb d_LW_time_12 (lv_sub hl [] rfl) (by decide) rfl (fun ls hl => ?_)
      refine lv_iconst (v := 1) hx' hb d_LW_time_14 (by decide) ?_
      exact wr_done C0 h1 h2 d_LW_time_15)
theorem cw_typeAt (l : Launch) (dC : Nat → ClassId) (dI : Nat → Nat → Nat) {wc : va_W} {tc : List (ClassId × FieldType)} {hx o : Nat} {cA : ClassId} {f : Nat → Int64} {fs : List Value} (p0 : Int32) (p1 : Int32) {r : Int32} {F : va_W → List (ClassId × FieldType) → Prop} {kc ks : Nat} (hM : OM l y_ZF_typeAt (wd y_ZF_typeAt b_ZF_typeAt 3 (some .int)) ({ frames := 1, cells := kc, slots := ks, locals := 21 }) dC dI wc tc [.ref hx, .int p0, .int p1] (some (.int r)) F kc ks) (hw0 : wc[0]? = some (hx, .inr (9, fs))) : OM l y_LW_typeAt (wdW y_LW_typeAt b_LW_typeAt 5 (some .int) [(0, 10, 13, 19)]) ({ frames := 2, cells := kc, slots := ks, locals := 43 }) dC dI (oC o cA f :: wc) ((cA, .long) :: tc) [.ref hx, .int p0, .int p1, .ref o] (some (.int 0)) (oF F o cA f tc r.toInt64) kc ks := fun sz =>
  met_MW (by decide) (Nat.le_of_ble_eq_true rfl) (fun p e R s m args below meth c ls hRc hRs hsz C0 hST hK hP hD hl => by
    subst hsz
    obtain ⟨hx', hb, hr, hml, hown, hts, hlocks, hRf, hRl⟩ := id C0
    refine lv_aload_n hx' hb d_LW_typeAt_0 rfl (lv_at hl 3 rfl) ?_
    refine lv_iconst (v := 0) hx' hb d_LW_typeAt_1 (by decide) ?_
    refine lv_aload_n hx' hb d_LW_typeAt_2 rfl (lv_at hl 0 rfl) ?_
    refine lv_iload_n hx' hb d_LW_typeAt_3 rfl (lv_at hl 1 rfl) ?_
    refine lv_iload_n hx' hb d_LW_typeAt_4 rfl (lv_at hl 2 rfl) ?_
    refine wr_ret C0 (As := [.int p0, .int p1]) hM hRc hRs (cwV 2 hts (gdV m_5_1 m_5_2 m_5_3 m_1_1 m_5_4) rfl rfl rfl (by decide +kernel) ⟨Nat.le_trans (Nat.le_of_ble_eq_true rfl) hRf, Nat.le_trans (Nat.le_of_ble_eq_true rfl) hRl⟩) rfl hw0 hP hK hD hST hl.1 d_LW_typeAt_5 (fun H locs wf tf hF hP hK hD hS => ?_)
    refine lv_i2l hx' hb d_LW_typeAt_8 rfl ?_
    exact wr_end C0 hF hP hK hD hS d_LW_typeAt_9 d_LW_typeAt_10 (by decide) d_LW_typeAt_17 d_LW_typeAt_18)
theorem tw_typeAt_1 (l : Launch) (dC : Nat → ClassId) (dI : Nat → Nat → Nat) {wc : va_W} {tc : List (ClassId × FieldType)} {hx o : Nat} {fs : List Value} (p0 : Int32) (p1 : Int32) (hM : MetT l y_ZF_typeAt (wd y_ZF_typeAt b_ZF_typeAt 3 (some .int)) ({ frames := 7, cells := 1, slots := 6, locals := 121 }) (ROX dC dI wc tc [.ref hx, .int p0, .int p1]) (TQ "java/lang/IndexOutOfBoundsException") 1 6) (hw0 : wc[0]? = some (hx, .inr (9, fs))) : Met l y_LW_typeAt (wdW y_LW_typeAt b_LW_typeAt 5 (some .int) [(0, 10, 13, 19)]) ({ frames := 8, cells := 1, slots := 6, locals := 143 }) (ROX dC dI wc tc [.ref hx, .int p0, .int p1, .ref o]) (MV (some (.int 1)) (fun _ => True) (fun _ => False)) 1 6 (fun _ => False) :=
  met_TW (by decide) (Nat.le_of_ble_eq_true rfl) (fun p e R s m args below meth c ls hRc hRs htab C0 hST hXT hK hP hl => by
    obtain ⟨hx', hb, hr, hml, hown, hts, hlocks, hRf, hRl⟩ := id C0
    refine lv_aload_n hx' hb d_LW_typeAt_0 rfl (lv_at hl 3 rfl) ?_
    refine lv_iconst (v := 0) hx' hb d_LW_typeAt_1 (by decide) ?_
    refine lv_aload_n hx' hb d_LW_typeAt_2 rfl (lv_at hl 0 rfl) ?_
    refine lv_iload_n hx' hb d_LW_typeAt_3 rfl (lv_at hl 1 rfl) ?_
    refine lv_iload_n hx' hb d_LW_typeAt_4 rfl (lv_at hl 2 rfl) ?_
    refine wr_thr C0 (As := [.int p0, .int p1]) (hpc := 13) hM hRc hRs (cwV 2 hts (gdV m_5_1 m_5_2 m_5_3 m_1_1 m_5_4) rfl rfl rfl (by decide +kernel) ⟨Nat.le_trans (Nat.le_of_ble_eq_true rfl) hRf, Nat.le_trans (Nat.le_of_ble_eq_true rfl) hRl⟩) rfl (va_recv hK hP (ci := 9) (q0 := 0) rfl hw0) hP hK hST hXT hl.1 d_LW_typeAt_5 (fun x V ce h1 h2 h3 h4 => ?_) (fun x H h1 h2 => ?_)
    · rw [tab_eq htab]
      exact cat_hit h4 hown (hts _ m_3_126) h1 h3 h2 (x_at (hts _ m_3_135) h2) hXT.2.1.2.2.2.1 rfl rfl rfl (by decide)
    · refine lv_astore hx' hb d_LW_typeAt_13 (lv_sub hl [] rfl) (by decide) rfl (fun ls hl => ?_)
      refine lv_iconst (v := 1) hx' hb d_LW_typeAt_15 (by decide) ?_
      exact wr_done C0 h1 h2 d_LW_typeAt_16)
theorem cw_type (l : Launch) (dC : Nat → ClassId) (dI : Nat → Nat → Nat) {wc : va_W} {tc : List (ClassId × FieldType)} {hx o : Nat} {cA : ClassId} {f : Nat → Int64} {fs : List Value} (p0 : Int32) (p1 : Int32) (p2 : Int32) {r : Int32} {F : va_W → List (ClassId × FieldType) → Prop} {kc ks : Nat} (hM : OM l y_ZF_type (wd y_ZF_type b_ZF_type 5 (some .int)) ({ frames := 2, cells := kc, slots := ks, locals := 44 }) dC dI wc tc [.ref hx, .int p0, .int p1, .int p2] (some (.int r)) F kc ks) (hw0 : wc[0]? = some (hx, .inr (9, fs))) : OM l y_LW_type (wdW y_LW_type b_LW_type 6 (some .int) [(0, 12, 15, 19)]) ({ frames := 3, cells := kc, slots := ks, locals := 68 }) dC dI (oC o cA f :: wc) ((cA, .long) :: tc) [.ref hx, .int p0, .int p1, .int p2, .ref o] (some (.int 0)) (oF F o cA f tc r.toInt64) kc ks := fun sz =>
  met_MW (by decide) (Nat.le_of_ble_eq_true rfl) (fun p e R s m args below meth c ls hRc hRs hsz C0 hST hK hP hD hl => by
    subst hsz
    obtain ⟨hx', hb, hr, hml, hown, hts, hlocks, hRf, hRl⟩ := id C0
    refine lv_aload hx' hb d_LW_type_0 (lv_at hl 4 rfl) ?_
    refine lv_iconst (v := 0) hx' hb d_LW_type_2 (by decide) ?_
    refine lv_aload_n hx' hb d_LW_type_3 rfl (lv_at hl 0 rfl) ?_
    refine lv_iload_n hx' hb d_LW_type_4 rfl (lv_at hl 1 rfl) ?_
    refine lv_iload_n hx' hb d_LW_type_5 rfl (lv_at hl 2 rfl) ?_
    refine lv_iload_n hx' hb d_LW_type_6 rfl (lv_at hl 3 rfl) ?_
    refine wr_ret C0 (As := [.int p0, .int p1, .int p2]) hM hRc hRs (cwV 3 hts (gdV m_5_8 m_5_9 m_5_10 m_1_1 m_5_11) rfl rfl rfl (by decide +kernel) ⟨Nat.le_trans (Nat.le_of_ble_eq_true rfl) hRf, Nat.le_trans (Nat.le_of_ble_eq_true rfl) hRl⟩) rfl hw0 hP hK hD hST hl.1 d_LW_type_7 (fun H locs wf tf hF hP hK hD hS => ?_)
    refine lv_i2l hx' hb d_LW_type_10 rfl ?_
    exact wr_end C0 hF hP hK hD hS d_LW_type_11 d_LW_type_12 (by decide) d_LW_type_19 d_LW_type_20)
theorem tw_type_1 (l : Launch) (dC : Nat → ClassId) (dI : Nat → Nat → Nat) {wc : va_W} {tc : List (ClassId × FieldType)} {hx o : Nat} {fs : List Value} (p0 : Int32) (p1 : Int32) (p2 : Int32) (hM : MetT l y_ZF_type (wd y_ZF_type b_ZF_type 5 (some .int)) ({ frames := 7, cells := 1, slots := 6, locals := 121 }) (ROX dC dI wc tc [.ref hx, .int p0, .int p1, .int p2]) (TQ "java/lang/IndexOutOfBoundsException") 1 6) (hw0 : wc[0]? = some (hx, .inr (9, fs))) : Met l y_LW_type (wdW y_LW_type b_LW_type 6 (some .int) [(0, 12, 15, 19)]) ({ frames := 8, cells := 1, slots := 6, locals := 145 }) (ROX dC dI wc tc [.ref hx, .int p0, .int p1, .int p2, .ref o]) (MV (some (.int 1)) (fun _ => True) (fun _ => False)) 1 6 (fun _ => False) :=
  met_TW (by decide) (Nat.le_of_ble_eq_true rfl) (fun p e R s m args below meth c ls hRc hRs htab C0 hST hXT hK hP hl => by
    obtain ⟨hx', hb, hr, hml, hown, hts, hlocks, hRf, hRl⟩ := id C0
    refine lv_aload hx' hb d_LW_type_0 (lv_at hl 4 rfl) ?_
    refine lv_iconst (v := 0) hx' hb d_LW_type_2 (by decide) ?_
    refine lv_aload_n hx' hb d_LW_type_3 rfl (lv_at hl 0 rfl) ?_
    refine lv_iload_n hx' hb d_LW_type_4 rfl (lv_at hl 1 rfl) ?_
    refine lv_iload_n hx' hb d_LW_type_5 rfl (lv_at hl 2 rfl) ?_
    refine lv_iload_n hx' hb d_LW_type_6 rfl (lv_at hl 3 rfl) ?_
    refine wr_thr C0 (As := [.int p0, .int p1, .int p2]) (hpc := 15) hM hRc hRs (cwV 3 hts (gdV m_5_8 m_5_9 m_5_10 m_1_1 m_5_11) rfl rfl rfl (by decide +kernel) ⟨Nat.le_trans (Nat.le_of_ble_eq_true rfl) hRf, Nat.le_trans (Nat.le_of_ble_eq_true rfl) hRl⟩) rfl (va_recv hK hP (ci := 9) (q0 := 0) rfl hw0) hP hK hST hXT hl.1 d_LW_type_7 (fun x V ce h1 h2 h3 h4 => ?_) (fun x H h1 h2 => ?_)
    · rw [tab_eq htab]
      exact cat_hit h4 hown (hts _ m_3_126) h1 h3 h2 (x_at (hts _ m_3_135) h2) hXT.2.1.2.2.2.1 rfl rfl rfl (by decide)
    · refine lv_astore hx' hb d_LW_type_15 (lv_sub hl [] rfl) (by decide) rfl (fun ls hl => ?_)
      refine lv_iconst (v := 1) hx' hb d_LW_type_17 (by decide) ?_
      exact wr_done C0 h1 h2 d_LW_type_18)
theorem cw_letter (l : Launch) (dC : Nat → ClassId) (dI : Nat → Nat → Nat) {wc : va_W} {tc : List (ClassId × FieldType)} {hx o : Nat} {cA : ClassId} {f : Nat → Int64} {fs : List Value} (p0 : Int32) (p1 : Int32) (p2 : Int32) {r : Int32} {F : va_W → List (ClassId × FieldType) → Prop} {kc ks : Nat} (hM : OM l y_ZF_letter (wd y_ZF_letter b_ZF_letter 5 (some .int)) ({ frames := 1, cells := kc, slots := ks, locals := 21 }) dC dI wc tc [.ref hx, .int p0, .int p1, .int p2] (some (.int r)) F kc ks) (hw0 : wc[0]? = some (hx, .inr (9, fs))) : OM l y_LW_letter (wdW y_LW_letter b_LW_letter 6 (some .int) [(0, 12, 15, 19)]) ({ frames := 2, cells := kc, slots := ks, locals := 45 }) dC dI (oC o cA f :: wc) ((cA, .long) :: tc) [.ref hx, .int p0, .int p1, .int p2, .ref o] (some (.int 0)) (oF F o cA f tc r.toInt64) kc ks := fun sz =>
  met_MW (by decide) (Nat.le_of_ble_eq_true rfl) (fun p e R s m args below meth c ls hRc hRs hsz C0 hST hK hP hD hl => by
    subst hsz
    obtain ⟨hx', hb, hr, hml, hown, hts, hlocks, hRf, hRl⟩ := id C0
    refine lv_aload hx' hb d_LW_letter_0 (lv_at hl 4 rfl) ?_
    refine lv_iconst (v := 0) hx' hb d_LW_letter_2 (by decide) ?_
    refine lv_aload_n hx' hb d_LW_letter_3 rfl (lv_at hl 0 rfl) ?_
    refine lv_iload_n hx' hb d_LW_letter_4 rfl (lv_at hl 1 rfl) ?_
    refine lv_iload_n hx' hb d_LW_letter_5 rfl (lv_at hl 2 rfl) ?_
    refine lv_iload_n hx' hb d_LW_letter_6 rfl (lv_at hl 3 rfl) ?_
    refine wr_ret C0 (As := [.int p0, .int p1, .int p2]) hM hRc hRs (cwV 3 hts (gdV m_5_17 m_5_18 m_5_19 m_1_1 m_5_20) rfl rfl rfl (by decide +kernel) ⟨Nat.le_trans (Nat.le_of_ble_eq_true rfl) hRf, Nat.le_trans (Nat.le_of_ble_eq_true rfl) hRl⟩) rfl hw0 hP hK hD hST hl.1 d_LW_letter_7 (fun H locs wf tf hF hP hK hD hS => ?_)
    refine lv_i2l hx' hb d_LW_letter_10 rfl ?_
    exact wr_end C0 hF hP hK hD hS d_LW_letter_11 d_LW_letter_12 (by decide) d_LW_letter_19 d_LW_letter_20)
theorem tw_letter_1 (l : Launch) (dC : Nat → ClassId) (dI : Nat → Nat → Nat) {wc : va_W} {tc : List (ClassId × FieldType)} {hx o : Nat} {fs : List Value} (p0 : Int32) (p1 : Int32) (p2 : Int32) (hM : MetT l y_ZF_letter (wd y_ZF_letter b_ZF_letter 5 (some .int)) ({ frames := 7, cells := 1, slots := 6, locals := 121 }) (ROX dC dI wc tc [.ref hx, .int p0, .int p1, .int p2]) (TQ "java/lang/IndexOutOfBoundsException") 1 6) (hw0 : wc[0]? = some (hx, .inr (9, fs))) : Met l y_LW_letter (wdW y_LW_letter b_LW_letter 6 (some .int) [(0, 12, 15, 19)]) ({ frames := 8, cells := 1, slots := 6, locals := 145 }) (ROX dC dI wc tc [.ref hx, .int p0, .int p1, .int p2, .ref o]) (MV (some (.int 1)) (fun _ => True) (fun _ => False)) 1 6 (fun _ => False) :=
  met_TW (by decide) (Nat.le_of_ble_eq_true rfl) (fun p e R s m args below meth c ls hRc hRs htab C0 hST hXT hK hP hl => by
    obtain ⟨hx', hb, hr, hml, hown, hts, hlocks, hRf, hRl⟩ := id C0
    refine lv_aload hx' hb d_LW_letter_0 (lv_at hl 4 rfl) ?_
    refine lv_iconst (v := 0) hx' hb d_LW_letter_2 (by decide) ?_
    refine lv_aload_n hx' hb d_LW_letter_3 rfl (lv_at hl 0 rfl) ?_
    refine lv_iload_n hx' hb d_LW_letter_4 rfl (lv_at hl 1 rfl) ?_
    refine lv_iload_n hx' hb d_LW_letter_5 rfl (lv_at hl 2 rfl) ?_
    refine lv_iload_n hx' hb d_LW_letter_6 rfl (lv_at hl 3 rfl) ?_
    refine wr_thr C0 (As := [.int p0, .int p1, .int p2]) (hpc := 15) hM hRc hRs (cwV 3 hts (gdV m_5_17 m_5_18 m_5_19 m_1_1 m_5_20) rfl rfl rfl (by decide +kernel) ⟨Nat.le_trans (Nat.le_of_ble_eq_true rfl) hRf, Nat.le_trans (Nat.le_of_ble_eq_true rfl) hRl⟩) rfl (va_recv hK hP (ci := 9) (q0 := 0) rfl hw0) hP hK hST hXT hl.1 d_LW_letter_7 (fun x V ce h1 h2 h3 h4 => ?_) (fun x H h1 h2 => ?_)
    · rw [tab_eq htab]
      exact cat_hit h4 hown (hts _ m_3_126) h1 h3 h2 (x_at (hts _ m_3_135) h2) hXT.2.1.2.2.2.1 rfl rfl rfl (by decide)
    · refine lv_astore hx' hb d_LW_letter_15 (lv_sub hl [] rfl) (by decide) rfl (fun ls hl => ?_)
      refine lv_iconst (v := 1) hx' hb d_LW_letter_17 (by decide) ?_
      exact wr_done C0 h1 h2 d_LW_letter_18)
theorem cw_leap (l : Launch) (dC : Nat → ClassId) (dI : Nat → Nat → Nat) {wc : va_W} {tc : List (ClassId × FieldType)} {hx o : Nat} {cA : ClassId} {f : Nat → Int64} {fs : List Value} (p0 : Int32) (p1 : Int32) (p2 : Int32) {r : Int64} {F : va_W → List (ClassId × FieldType) → Prop} {kc ks : Nat} (hM : OM l y_ZF_leap (wd y_ZF_leap b_ZF_leap 4 (some .long)) ({ frames := 1, cells := kc, slots := ks, locals := 21 }) dC dI wc tc [.ref hx, .int p0, .int p1, .int p2] (some (.long r)) F kc ks) (hw0 : wc[0]? = some (hx, .inr (9, fs))) : OM l y_LW_leap (wdW y_LW_leap b_LW_leap 6 (some .int) [(0, 11, 14, 19)]) ({ frames := 2, cells := kc, slots := ks, locals := 44 }) dC dI (oC o cA f :: wc) ((cA, .long) :: tc) [.ref hx, .int p0, .int p1, .int p2, .ref o] (some (.int 0)) (oF F o cA f tc r) kc ks := fun sz =>
  met_MW (by decide) (Nat.le_of_ble_eq_true rfl) (fun p e R s m args below meth c ls hRc hRs hsz C0 hST hK hP hD hl => by
    subst hsz
    obtain ⟨hx', hb, hr, hml, hown, hts, hlocks, hRf, hRl⟩ := id C0
    refine lv_aload hx' hb d_LW_leap_0 (lv_at hl 4 rfl) ?_
    refine lv_iconst (v := 0) hx' hb d_LW_leap_2 (by decide) ?_
    refine lv_aload_n hx' hb d_LW_leap_3 rfl (lv_at hl 0 rfl) ?_
    refine lv_iload_n hx' hb d_LW_leap_4 rfl (lv_at hl 1 rfl) ?_
    refine lv_iload_n hx' hb d_LW_leap_5 rfl (lv_at hl 2 rfl) ?_
    refine lv_iload_n hx' hb d_LW_leap_6 rfl (lv_at hl 3 rfl) ?_
    refine wr_ret C0 (As := [.int p0, .int p1, .int p2]) hM hRc hRs (cwV 3 hts (gdV m_5_25 m_5_26 m_5_27 m_1_1 m_5_28) rfl rfl rfl (by decide +kernel) ⟨Nat.le_trans (Nat.le_of_ble_eq_true rfl) hRf, Nat.le_trans (Nat.le_of_ble_eq_true rfl) hRl⟩) rfl hw0 hP hK hD hST hl.1 d_LW_leap_7 (fun H locs wf tf hF hP hK hD hS => ?_)
    exact wr_end C0 hF hP hK hD hS d_LW_leap_10 d_LW_leap_11 (by decide) d_LW_leap_18 d_LW_leap_19)
theorem tw_leap_1 (l : Launch) (dC : Nat → ClassId) (dI : Nat → Nat → Nat) {wc : va_W} {tc : List (ClassId × FieldType)} {hx o : Nat} {fs : List Value} (p0 : Int32) (p1 : Int32) (p2 : Int32) (hM : MetT l y_ZF_leap (wd y_ZF_leap b_ZF_leap 4 (some .long)) ({ frames := 7, cells := 1, slots := 6, locals := 121 }) (ROX dC dI wc tc [.ref hx, .int p0, .int p1, .int p2]) (TQ "java/lang/IndexOutOfBoundsException") 1 6) (hw0 : wc[0]? = some (hx, .inr (9, fs))) : Met l y_LW_leap (wdW y_LW_leap b_LW_leap 6 (some .int) [(0, 11, 14, 19)]) ({ frames := 8, cells := 1, slots := 6, locals := 144 }) (ROX dC dI wc tc [.ref hx, .int p0, .int p1, .int p2, .ref o]) (MV (some (.int 1)) (fun _ => True) (fun _ => False)) 1 6 (fun _ => False) :=
  met_TW (by decide) (Nat.le_of_ble_eq_true rfl) (fun p e R s m args below meth c ls hRc hRs htab C0 hST hXT hK hP hl => by
    obtain ⟨hx', hb, hr, hml, hown, hts, hlocks, hRf, hRl⟩ := id C0
    refine lv_aload hx' hb d_LW_leap_0 (lv_at hl 4 rfl) ?_
    refine lv_iconst (v := 0) hx' hb d_LW_leap_2 (by decide) ?_
    refine lv_aload_n hx' hb d_LW_leap_3 rfl (lv_at hl 0 rfl) ?_
    refine lv_iload_n hx' hb d_LW_leap_4 rfl (lv_at hl 1 rfl) ?_
    refine lv_iload_n hx' hb d_LW_leap_5 rfl (lv_at hl 2 rfl) ?_
    refine lv_iload_n hx' hb d_LW_leap_6 rfl (lv_at hl 3 rfl) ?_
    refine wr_thr C0 (As := [.int p0, .int p1, .int p2]) (hpc := 14) hM hRc hRs (cwV 3 hts (gdV m_5_25 m_5_26 m_5_27 m_1_1 m_5_28) rfl rfl rfl (by decide +kernel) ⟨Nat.le_trans (Nat.le_of_ble_eq_true rfl) hRf, Nat.le_trans (Nat.le_of_ble_eq_true rfl) hRl⟩) rfl (va_recv hK hP (ci := 9) (q0 := 0) rfl hw0) hP hK hST hXT hl.1 d_LW_leap_7 (fun x V ce h1 h2 h3 h4 => ?_) (fun x H h1 h2 => ?_)
    · rw [tab_eq htab]
      exact cat_hit h4 hown (hts _ m_3_126) h1 h3 h2 (x_at (hts _ m_3_135) h2) hXT.2.1.2.2.2.1 rfl rfl rfl (by decide)
    · refine lv_astore hx' hb d_LW_leap_14 (lv_sub hl [] rfl) (by decide) rfl (fun ls hl => ?_)
      refine lv_iconst (v := 1) hx' hb d_LW_leap_16 (by decide) ?_
      exact wr_done C0 h1 h2 d_LW_leap_17)
theorem cw_at (l : Launch) (dC : Nat → ClassId) (dI : Nat → Nat → Nat) {wc : va_W} {tc : List (ClassId × FieldType)} {hx o : Nat} {cA : ClassId} {f : Nat → Int64} {fs : List Value} (p0 : Int32) (p1 : Int64) (p2 : Int32) {r : Int32} {F : va_W → List (ClassId × FieldType) → Prop} {kc ks : Nat} (hM : OM l y_ZF_at (wd y_ZF_at b_ZF_at 7 (some .int)) ({ frames := 6, cells := kc, slots := ks, locals := 148 }) dC dI wc tc [.ref hx, .int p0, .long p1, .int p2] (some (.int r)) F kc ks) (hw0 : wc[0]? = some (hx, .inr (9, fs))) : OM l y_LW_at (wdW y_LW_at b_LW_at 7 (some .int) [(0, 13, 16, 19), (0, 13, 20, 13)]) ({ frames := 7, cells := kc, slots := ks, locals := 174 }) dC dI (oC o cA f :: wc) ((cA, .long) :: tc) [.ref hx, .int p0, .long p1, .int p2, .ref o] (some (.int 0)) (oF F o cA f tc r.toInt64) kc ks := fun sz =>
  met_MW (by decide) (Nat.le_of_ble_eq_true rfl) (fun p e R s m args below meth c ls hRc hRs hsz C0 hST hK hP hD hl => by
    subst hsz
    obtain ⟨hx', hb, hr, hml, hown, hts, hlocks, hRf, hRl⟩ := id C0
    refine lv_aload hx' hb d_LW_at_0 (lv_at hl 4 rfl) ?_
    refine lv_iconst (v := 0) hx' hb d_LW_at_2 (by decide) ?_
    refine lv_aload_n hx' hb d_LW_at_3 rfl (lv_at hl 0 rfl) ?_
    refine lv_iload_n hx' hb d_LW_at_4 rfl (lv_at hl 1 rfl) ?_
    refine lv_lload_n hx' hb d_LW_at_5 rfl (lv_at hl 2 rfl) ?_
    refine lv_iload hx' hb d_LW_at_6 (lv_at hl 3 rfl) ?_
    refine wr_ret C0 (As := [.int p0, .long p1, .int p2]) hM hRc hRs (cwV 3 hts (gdV m_5_32 m_5_33 m_5_34 m_1_1 m_5_35) rfl rfl rfl (by decide +kernel) ⟨Nat.le_trans (Nat.le_of_ble_eq_true rfl) hRf, Nat.le_trans (Nat.le_of_ble_eq_true rfl) hRl⟩) rfl hw0 hP hK hD hST hl.1 d_LW_at_8 (fun H locs wf tf hF hP hK hD hS => ?_)
    refine lv_i2l hx' hb d_LW_at_11 rfl ?_
    exact wr_end C0 hF hP hK hD hS d_LW_at_12 d_LW_at_13 (by decide) d_LW_at_24 d_LW_at_25)
theorem tw_at_1 (l : Launch) (dC : Nat → ClassId) (dI : Nat → Nat → Nat) {wc : va_W} {tc : List (ClassId × FieldType)} {hx o : Nat} {fs : List Value} (p0 : Int32) (p1 : Int64) (p2 : Int32) (hM : MetT l y_ZF_at (wd y_ZF_at b_ZF_at 7 (some .int)) ({ frames := 7, cells := 1, slots := 6, locals := 121 }) (ROX dC dI wc tc [.ref hx, .int p0, .long p1, .int p2]) (TQ "java/lang/IndexOutOfBoundsException") 1 6) (hw0 : wc[0]? = some (hx, .inr (9, fs))) : Met l y_LW_at (wdW y_LW_at b_LW_at 7 (some .int) [(0, 13, 16, 19), (0, 13, 20, 13)]) ({ frames := 8, cells := 1, slots := 6, locals := 147 }) (ROX dC dI wc tc [.ref hx, .int p0, .long p1, .int p2, .ref o]) (MV (some (.int 1)) (fun _ => True) (fun _ => False)) 1 6 (fun _ => False) :=
  met_TW (by decide) (Nat.le_of_ble_eq_true rfl) (fun p e R s m args below meth c ls hRc hRs htab C0 hST hXT hK hP hl => by
    obtain ⟨hx', hb, hr, hml, hown, hts, hlocks, hRf, hRl⟩ := id C0
    refine lv_aload hx' hb d_LW_at_0 (lv_at hl 4 rfl) ?_
    refine lv_iconst (v := 0) hx' hb d_LW_at_2 (by decide) ?_
    refine lv_aload_n hx' hb d_LW_at_3 rfl (lv_at hl 0 rfl) ?_
    refine lv_iload_n hx' hb d_LW_at_4 rfl (lv_at hl 1 rfl) ?_
    refine lv_lload_n hx' hb d_LW_at_5 rfl (lv_at hl 2 rfl) ?_
    refine lv_iload hx' hb d_LW_at_6 (lv_at hl 3 rfl) ?_
    refine wr_thr C0 (As := [.int p0, .long p1, .int p2]) (hpc := 16) hM hRc hRs (cwV 3 hts (gdV m_5_32 m_5_33 m_5_34 m_1_1 m_5_35) rfl rfl rfl (by decide +kernel) ⟨Nat.le_trans (Nat.le_of_ble_eq_true rfl) hRf, Nat.le_trans (Nat.le_of_ble_eq_true rfl) hRl⟩) rfl (va_recv hK hP (ci := 9) (q0 := 0) rfl hw0) hP hK hST hXT hl.1 d_LW_at_8 (fun x V ce h1 h2 h3 h4 => ?_) (fun x H h1 h2 => ?_)
    · rw [tab_eq htab]
      exact cat_hit h4 hown (hts _ m_3_126) h1 h3 h2 (x_at (hts _ m_3_135) h2) hXT.2.1.2.2.2.1 rfl rfl rfl (by decide)
    · refine lv_astore hx' hb d_LW_at_16 (lv_sub hl [] rfl) (by decide) rfl (fun ls hl => ?_)
      refine lv_iconst (v := 1) hx' hb d_LW_at_18 (by decide) ?_
      exact wr_done C0 h1 h2 d_LW_at_19)
theorem tw_at_2 (l : Launch) (dC : Nat → ClassId) (dI : Nat → Nat → Nat) {wc : va_W} {tc : List (ClassId × FieldType)} {hx o : Nat} {fs : List Value} (p0 : Int32) (p1 : Int64) (p2 : Int32) (hM : MetT l y_ZF_at (wd y_ZF_at b_ZF_at 7 (some .int)) ({ frames := 7, cells := 1, slots := 6, locals := 121 }) (ROX dC dI wc tc [.ref hx, .int p0, .long p1, .int p2]) (TQ "java/lang/IllegalArgumentException") 1 6) (hw0 : wc[0]? = some (hx, .inr (9, fs))) : Met l y_LW_at (wdW y_LW_at b_LW_at 7 (some .int) [(0, 13, 16, 19), (0, 13, 20, 13)]) ({ frames := 8, cells := 1, slots := 6, locals := 147 }) (ROX dC dI wc tc [.ref hx, .int p0, .long p1, .int p2, .ref o]) (MV (some (.int 2)) (fun _ => True) (fun _ => False)) 1 6 (fun _ => False) :=
  met_TW (by decide) (Nat.le_of_ble_eq_true rfl) (fun p e R s m args below meth c ls hRc hRs htab C0 hST hXT hK hP hl => by
    obtain ⟨hx', hb, hr, hml, hown, hts, hlocks, hRf, hRl⟩ := id C0
    refine lv_aload hx' hb d_LW_at_0 (lv_at hl 4 rfl) ?_
    refine lv_iconst (v := 0) hx' hb d_LW_at_2 (by decide) ?_
    refine lv_aload_n hx' hb d_LW_at_3 rfl (lv_at hl 0 rfl) ?_
    refine lv_iload_n hx' hb d_LW_at_4 rfl (lv_at hl 1 rfl) ?_
    refine lv_lload_n hx' hb d_LW_at_5 rfl (lv_at hl 2 rfl) ?_
    refine lv_iload hx' hb d_LW_at_6 (lv_at hl 3 rfl) ?_
    refine wr_thr C0 (As := [.int p0, .long p1, .int p2]) (hpc := 20) hM hRc hRs (cwV 3 hts (gdV m_5_32 m_5_33 m_5_34 m_1_1 m_5_35) rfl rfl rfl (by decide +kernel) ⟨Nat.le_trans (Nat.le_of_ble_eq_true rfl) hRf, Nat.le_trans (Nat.le_of_ble_eq_true rfl) hRl⟩) rfl (va_recv hK hP (ci := 9) (q0 := 0) rfl hw0) hP hK hST hXT hl.1 d_LW_at_8 (fun x V ce h1 h2 h3 h4 => ?_) (fun x H h1 h2 => ?_)
    · rw [tab_eq htab]
      refine cat_pass (X := "java/lang/IllegalArgumentException") h4 hown (hts _ m_3_126) h1 h3 h2 (x_at (hts _ m_3_55) h2) hXT.2.1.2.2.2.2.2.2.2.2.1 rfl rfl rfl (by decide) (fun v0 h4 => ?_)
      exact cat_hit h4 hown (hts _ m_3_49) h1 h3 h2 (x_at (hts _ m_3_55) h2) hXT.2.1.2.2.2.2.1 rfl rfl rfl (by decide)
    · refine lv_astore hx' hb d_LW_at_20 (lv_sub hl [] rfl) (by decide) rfl (fun ls hl => ?_)
      refine lv_iconst (v := 2) hx' hb d_LW_at_22 (by decide) ?_
      exact wr_done C0 h1 h2 d_LW_at_23)
theorem cw_name (l : Launch) (dC : Nat → ClassId) (dI : Nat → Nat → Nat) {wc : va_W} {tc : List (ClassId × FieldType)} {hx o : Nat} {cA : ClassId} {f : Nat → Int64} {fs : List Value} (p0 : Int32) (p1 : Int64) (p2 : Int32) {r : Int32} {F : va_W → List (ClassId × FieldType) → Prop} {kc ks : Nat} (hM : OM l y_ZF_name (wd y_ZF_name b_ZF_name 6 (some .int)) ({ frames := 6, cells := kc, slots := ks, locals := 148 }) dC dI wc tc [.ref hx, .int p0, .long p1, .int p2] (some (.int r)) F kc ks) (hw0 : wc[0]? = some (hx, .inr (9, fs))) : OM l y_LW_name (wdW y_LW_name b_LW_name 7 (some .int) [(0, 13, 16, 19), (0, 13, 20, 13), (0, 13, 24, 54)]) ({ frames := 7, cells := kc, slots := ks, locals := 173 }) dC dI (oC o cA f :: wc) ((cA, .long) :: tc) [.ref hx, .int p0, .long p1, .int p2, .ref o] (some (.int 0)) (oF F o cA f tc r.toInt64) kc ks := fun sz =>
  met_MW (by decide) (Nat.le_of_ble_eq_true rfl) (fun p e R s m args below meth c ls hRc hRs hsz C0 hST hK hP hD hl => by
    subst hsz
    obtain ⟨hx', hb, hr, hml, hown, hts, hlocks, hRf, hRl⟩ := id C0
    refine lv_aload hx' hb d_LW_name_0 (lv_at hl 4 rfl) ?_
    refine lv_iconst (v := 0) hx' hb d_LW_name_2 (by decide) ?_
    refine lv_aload_n hx' hb d_LW_name_3 rfl (lv_at hl 0 rfl) ?_
    refine lv_iload_n hx' hb d_LW_name_4 rfl (lv_at hl 1 rfl) ?_
    refine lv_lload_n hx' hb d_LW_name_5 rfl (lv_at hl 2 rfl) ?_
    refine lv_iload hx' hb d_LW_name_6 (lv_at hl 3 rfl) ?_
    refine wr_ret C0 (As := [.int p0, .long p1, .int p2]) hM hRc hRs (cwV 3 hts (gdV m_5_49 m_5_50 m_5_51 m_1_1 m_5_52) rfl rfl rfl (by decide +kernel) ⟨Nat.le_trans (Nat.le_of_ble_eq_true rfl) hRf, Nat.le_trans (Nat.le_of_ble_eq_true rfl) hRl⟩) rfl hw0 hP hK hD hST hl.1 d_LW_name_8 (fun H locs wf tf hF hP hK hD hS => ?_)
    refine lv_i2l hx' hb d_LW_name_11 rfl ?_
    exact wr_end C0 hF hP hK hD hS d_LW_name_12 d_LW_name_13 (by decide) d_LW_name_28 d_LW_name_29)
theorem tw_name_1 (l : Launch) (dC : Nat → ClassId) (dI : Nat → Nat → Nat) {wc : va_W} {tc : List (ClassId × FieldType)} {hx o : Nat} {fs : List Value} (p0 : Int32) (p1 : Int64) (p2 : Int32) (hM : MetT l y_ZF_name (wd y_ZF_name b_ZF_name 6 (some .int)) ({ frames := 7, cells := 1, slots := 6, locals := 148 }) (ROX dC dI wc tc [.ref hx, .int p0, .long p1, .int p2]) (TQ "java/lang/IndexOutOfBoundsException") 1 6) (hw0 : wc[0]? = some (hx, .inr (9, fs))) : Met l y_LW_name (wdW y_LW_name b_LW_name 7 (some .int) [(0, 13, 16, 19), (0, 13, 20, 13), (0, 13, 24, 54)]) ({ frames := 8, cells := 1, slots := 6, locals := 173 }) (ROX dC dI wc tc [.ref hx, .int p0, .long p1, .int p2, .ref o]) (MV (some (.int 1)) (fun _ => True) (fun _ => False)) 1 6 (fun _ => False) :=
  met_TW (by decide) (Nat.le_of_ble_eq_true rfl) (fun p e R s m args below meth c ls hRc hRs htab C0 hST hXT hK hP hl => by
    obtain ⟨hx', hb, hr, hml, hown, hts, hlocks, hRf, hRl⟩ := id C0
    refine lv_aload hx' hb d_LW_name_0 (lv_at hl 4 rfl) ?_
    refine lv_iconst (v := 0) hx' hb d_LW_name_2 (by decide) ?_
    refine lv_aload_n hx' hb d_LW_name_3 rfl (lv_at hl 0 rfl) ?_
    refine lv_iload_n hx' hb d_LW_name_4 rfl (lv_at hl 1 rfl) ?_
    refine lv_lload_n hx' hb d_LW_name_5 rfl (lv_at hl 2 rfl) ?_
    refine lv_iload hx' hb d_LW_name_6 (lv_at hl 3 rfl) ?_
    refine wr_thr C0 (As := [.int p0, .long p1, .int p2]) (hpc := 16) hM hRc hRs (cwV 3 hts (gdV m_5_49 m_5_50 m_5_51 m_1_1 m_5_52) rfl rfl rfl (by decide +kernel) ⟨Nat.le_trans (Nat.le_of_ble_eq_true rfl) hRf, Nat.le_trans (Nat.le_of_ble_eq_true rfl) hRl⟩) rfl (va_recv hK hP (ci := 9) (q0 := 0) rfl hw0) hP hK hST hXT hl.1 d_LW_name_8 (fun x V ce h1 h2 h3 h4 => ?_) (fun x H h1 h2 => ?_)
    · rw [tab_eq htab]
      exact cat_hit h4 hown (hts _ m_3_126) h1 h3 h2 (x_at (hts _ m_3_135) h2) hXT.2.1.2.2.2.1 rfl rfl rfl (by decide)
    · refine lv_astore hx' hb d_LW_name_16 (lv_sub hl [] rfl) (by decide) rfl (fun ls hl => ?_)
      refine lv_iconst (v := 1) hx' hb d_LW_name_18 (by decide) ?_
      exact wr_done C0 h1 h2 d_LW_name_19)
theorem tw_name_2 (l : Launch) (dC : Nat → ClassId) (dI : Nat → Nat → Nat) {wc : va_W} {tc : List (ClassId × FieldType)} {hx o : Nat} {fs : List Value} (p0 : Int32) (p1 : Int64) (p2 : Int32) (hM : MetT l y_ZF_name (wd y_ZF_name b_ZF_name 6 (some .int)) ({ frames := 7, cells := 1, slots := 6, locals := 148 }) (ROX dC dI wc tc [.ref hx, .int p0, .long p1, .int p2]) (TQ "java/lang/IllegalArgumentException") 1 6) (hw0 : wc[0]? = some (hx, .inr (9, fs))) : Met l y_LW_name (wdW y_LW_name b_LW_name 7 (some .int) [(0, 13, 16, 19), (0, 13, 20, 13), (0, 13, 24, 54)]) ({ frames := 8, cells := 1, slots := 6, locals := 173 }) (ROX dC dI wc tc [.ref hx, .int p0, .long p1, .int p2, .ref o]) (MV (some (.int 2)) (fun _ => True) (fun _ => False)) 1 6 (fun _ => False) :=
  met_TW (by decide) (Nat.le_of_ble_eq_true rfl) (fun p e R s m args below meth c ls hRc hRs htab C0 hST hXT hK hP hl => by
    obtain ⟨hx', hb, hr, hml, hown, hts, hlocks, hRf, hRl⟩ := id C0
    refine lv_aload hx' hb d_LW_name_0 (lv_at hl 4 rfl) ?_
    refine lv_iconst (v := 0) hx' hb d_LW_name_2 (by decide) ?_
    refine lv_aload_n hx' hb d_LW_name_3 rfl (lv_at hl 0 rfl) ?_
    refine lv_iload_n hx' hb d_LW_name_4 rfl (lv_at hl 1 rfl) ?_
    refine lv_lload_n hx' hb d_LW_name_5 rfl (lv_at hl 2 rfl) ?_
    refine lv_iload hx' hb d_LW_name_6 (lv_at hl 3 rfl) ?_
    refine wr_thr C0 (As := [.int p0, .long p1, .int p2]) (hpc := 20) hM hRc hRs (cwV 3 hts (gdV m_5_49 m_5_50 m_5_51 m_1_1 m_5_52) rfl rfl rfl (by decide +kernel) ⟨Nat.le_trans (Nat.le_of_ble_eq_true rfl) hRf, Nat.le_trans (Nat.le_of_ble_eq_true rfl) hRl⟩) rfl (va_recv hK hP (ci := 9) (q0 := 0) rfl hw0) hP hK hST hXT hl.1 d_LW_name_8 (fun x V ce h1 h2 h3 h4 => ?_) (fun x H h1 h2 => ?_)
    · rw [tab_eq htab]
      refine cat_pass (X := "java/lang/IllegalArgumentException") h4 hown (hts _ m_3_126) h1 h3 h2 (x_at (hts _ m_3_55) h2) hXT.2.1.2.2.2.2.2.2.2.2.1 rfl rfl rfl (by decide) (fun v0 h4 => ?_)
      exact cat_hit h4 hown (hts _ m_3_49) h1 h3 h2 (x_at (hts _ m_3_55) h2) hXT.2.1.2.2.2.2.1 rfl rfl rfl (by decide)
    · refine lv_astore hx' hb d_LW_name_20 (lv_sub hl [] rfl) (by decide) rfl (fun ls hl => ?_)
      refine lv_iconst (v := 2) hx' hb d_LW_name_22 (by decide) ?_
      exact wr_done C0 h1 h2 d_LW_name_23)
theorem tw_name_3 (l : Launch) (dC : Nat → ClassId) (dI : Nat → Nat → Nat) {wc : va_W} {tc : List (ClassId × FieldType)} {hx o : Nat} {fs : List Value} (p0 : Int32) (p1 : Int64) (p2 : Int32) (hM : MetT l y_ZF_name (wd y_ZF_name b_ZF_name 6 (some .int)) ({ frames := 7, cells := 1, slots := 6, locals := 148 }) (ROX dC dI wc tc [.ref hx, .int p0, .long p1, .int p2]) (TQ "java/lang/IllegalStateException") 1 6) (hw0 : wc[0]? = some (hx, .inr (9, fs))) : Met l y_LW_name (wdW y_LW_name b_LW_name 7 (some .int) [(0, 13, 16, 19), (0, 13, 20, 13), (0, 13, 24, 54)]) ({ frames := 8, cells := 1, slots := 6, locals := 173 }) (ROX dC dI wc tc [.ref hx, .int p0, .long p1, .int p2, .ref o]) (MV (some (.int 3)) (fun _ => True) (fun _ => False)) 1 6 (fun _ => False) :=
  met_TW (by decide) (Nat.le_of_ble_eq_true rfl) (fun p e R s m args below meth c ls hRc hRs htab C0 hST hXT hK hP hl => by
    obtain ⟨hx', hb, hr, hml, hown, hts, hlocks, hRf, hRl⟩ := id C0
    refine lv_aload hx' hb d_LW_name_0 (lv_at hl 4 rfl) ?_
    refine lv_iconst (v := 0) hx' hb d_LW_name_2 (by decide) ?_
    refine lv_aload_n hx' hb d_LW_name_3 rfl (lv_at hl 0 rfl) ?_
    refine lv_iload_n hx' hb d_LW_name_4 rfl (lv_at hl 1 rfl) ?_
    refine lv_lload_n hx' hb d_LW_name_5 rfl (lv_at hl 2 rfl) ?_
    refine lv_iload hx' hb d_LW_name_6 (lv_at hl 3 rfl) ?_
    refine wr_thr C0 (As := [.int p0, .long p1, .int p2]) (hpc := 24) hM hRc hRs (cwV 3 hts (gdV m_5_49 m_5_50 m_5_51 m_1_1 m_5_52) rfl rfl rfl (by decide +kernel) ⟨Nat.le_trans (Nat.le_of_ble_eq_true rfl) hRf, Nat.le_trans (Nat.le_of_ble_eq_true rfl) hRl⟩) rfl (va_recv hK hP (ci := 9) (q0 := 0) rfl hw0) hP hK hST hXT hl.1 d_LW_name_8 (fun x V ce h1 h2 h3 h4 => ?_) (fun x H h1 h2 => ?_)
    · rw [tab_eq htab]
      refine cat_pass (X := "java/lang/IllegalStateException") h4 hown (hts _ m_3_126) h1 h3 h2 (x_at (hts _ m_5_54) h2) hXT.2.1.2.2.2.2.2.2.2.2.2.2.1 rfl rfl rfl (by decide) (fun v0 h4 => ?_)
      refine cat_pass (X := "java/lang/IllegalStateException") h4 hown (hts _ m_3_49) h1 h3 h2 (x_at (hts _ m_5_54) h2) hXT.2.1.2.2.2.2.2.2.2.2.2.2.2 rfl rfl rfl (by decide) (fun v1 h4 => ?_)
      exact cat_hit h4 hown (hts _ m_5_48) h1 h3 h2 (x_at (hts _ m_5_54) h2) hXT.2.1.2.2.2.2.2.1 rfl rfl rfl (by decide)
    · refine lv_astore hx' hb d_LW_name_24 (lv_sub hl [] rfl) (by decide) rfl (fun ls hl => ?_)
      refine lv_iconst (v := 3) hx' hb d_LW_name_26 (by decide) ?_
      exact wr_done C0 h1 h2 d_LW_name_27)
theorem cw_clock (l : Launch) (dC : Nat → ClassId) (dI : Nat → Nat → Nat) {wc : va_W} {tc : List (ClassId × FieldType)} {hx o : Nat} {cA : ClassId} {f : Nat → Int64} {fs : List Value} (p0 : Int64) (p1 : Int32) {r : Int64} {F : va_W → List (ClassId × FieldType) → Prop} {kc ks : Nat} (hM : OM l y_ZF_clock (wd y_ZF_clock b_ZF_clock 7 (some .long)) ({ frames := 4, cells := kc, slots := ks, locals := 104 }) dC dI wc tc [.ref hx, .long p0, .int p1] (some (.long r)) F kc ks) (hw0 : wc[0]? = some (hx, .inr (9, fs))) : OM l y_LW_clock (wdW y_LW_clock b_LW_clock 6 (some .int) [(0, 10, 13, 19), (0, 10, 17, 13)]) ({ frames := 5, cells := kc, slots := ks, locals := 130 }) dC dI (oC o cA f :: wc) ((cA, .long) :: tc) [.ref hx, .long p0, .int p1, .ref o] (some (.int 0)) (oF F o cA f tc r) kc ks := fun sz =>
  met_MW (by decide) (Nat.le_of_ble_eq_true rfl) (fun p e R s m args below meth c ls hRc hRs hsz C0 hST hK hP hD hl => by
    subst hsz
    obtain ⟨hx', hb, hr, hml, hown, hts, hlocks, hRf, hRl⟩ := id C0
    refine lv_aload hx' hb d_LW_clock_0 (lv_at hl 3 rfl) ?_
    refine lv_iconst (v := 0) hx' hb d_LW_clock_2 (by decide) ?_
    refine lv_aload_n hx' hb d_LW_clock_3 rfl (lv_at hl 0 rfl) ?_
    refine lv_lload_n hx' hb d_LW_clock_4 rfl (lv_at hl 1 rfl) ?_
    refine lv_iload_n hx' hb d_LW_clock_5 rfl (lv_at hl 2 rfl) ?_
    refine wr_ret C0 (As := [.long p0, .int p1]) hM hRc hRs (cwV 2 hts (gdV m_5_73 m_5_74 m_5_75 m_1_1 m_5_76) rfl rfl rfl (by decide +kernel) ⟨Nat.le_trans (Nat.le_of_ble_eq_true rfl) hRf, Nat.le_trans (Nat.le_of_ble_eq_true rfl) hRl⟩) rfl hw0 hP hK hD hST hl.1 d_LW_clock_6 (fun H locs wf tf hF hP hK hD hS => ?_)
    exact wr_end C0 hF hP hK hD hS d_LW_clock_9 d_LW_clock_10 (by decide) d_LW_clock_21 d_LW_clock_22)
theorem tw_clock_1 (l : Launch) (dC : Nat → ClassId) (dI : Nat → Nat → Nat) {wc : va_W} {tc : List (ClassId × FieldType)} {hx o : Nat} {fs : List Value} (p0 : Int64) (p1 : Int32) (hM : MetT l y_ZF_clock (wd y_ZF_clock b_ZF_clock 7 (some .long)) ({ frames := 7, cells := 1, slots := 6, locals := 121 }) (ROX dC dI wc tc [.ref hx, .long p0, .int p1]) (TQ "java/lang/IndexOutOfBoundsException") 1 6) (hw0 : wc[0]? = some (hx, .inr (9, fs))) : Met l y_LW_clock (wdW y_LW_clock b_LW_clock 6 (some .int) [(0, 10, 13, 19), (0, 10, 17, 13)]) ({ frames := 8, cells := 1, slots := 6, locals := 147 }) (ROX dC dI wc tc [.ref hx, .long p0, .int p1, .ref o]) (MV (some (.int 1)) (fun _ => True) (fun _ => False)) 1 6 (fun _ => False) :=
  met_TW (by decide) (Nat.le_of_ble_eq_true rfl) (fun p e R s m args below meth c ls hRc hRs htab C0 hST hXT hK hP hl => by
    obtain ⟨hx', hb, hr, hml, hown, hts, hlocks, hRf, hRl⟩ := id C0
    refine lv_aload hx' hb d_LW_clock_0 (lv_at hl 3 rfl) ?_
    refine lv_iconst (v := 0) hx' hb d_LW_clock_2 (by decide) ?_
    refine lv_aload_n hx' hb d_LW_clock_3 rfl (lv_at hl 0 rfl) ?_
    refine lv_lload_n hx' hb d_LW_clock_4 rfl (lv_at hl 1 rfl) ?_
    refine lv_iload_n hx' hb d_LW_clock_5 rfl (lv_at hl 2 rfl) ?_
    refine wr_thr C0 (As := [.long p0, .int p1]) (hpc := 13) hM hRc hRs (cwV 2 hts (gdV m_5_73 m_5_74 m_5_75 m_1_1 m_5_76) rfl rfl rfl (by decide +kernel) ⟨Nat.le_trans (Nat.le_of_ble_eq_true rfl) hRf, Nat.le_trans (Nat.le_of_ble_eq_true rfl) hRl⟩) rfl (va_recv hK hP (ci := 9) (q0 := 0) rfl hw0) hP hK hST hXT hl.1 d_LW_clock_6 (fun x V ce h1 h2 h3 h4 => ?_) (fun x H h1 h2 => ?_)
    · rw [tab_eq htab]
      exact cat_hit h4 hown (hts _ m_3_126) h1 h3 h2 (x_at (hts _ m_3_135) h2) hXT.2.1.2.2.2.1 rfl rfl rfl (by decide)
    · refine lv_astore hx' hb d_LW_clock_13 (lv_sub hl [] rfl) (by decide) rfl (fun ls hl => ?_)
      refine lv_iconst (v := 1) hx' hb d_LW_clock_15 (by decide) ?_
      exact wr_done C0 h1 h2 d_LW_clock_16)
theorem tw_clock_2 (l : Launch) (dC : Nat → ClassId) (dI : Nat → Nat → Nat) {wc : va_W} {tc : List (ClassId × FieldType)} {hx o : Nat} {fs : List Value} (p0 : Int64) (p1 : Int32) (hM : MetT l y_ZF_clock (wd y_ZF_clock b_ZF_clock 7 (some .long)) ({ frames := 7, cells := 1, slots := 6, locals := 121 }) (ROX dC dI wc tc [.ref hx, .long p0, .int p1]) (TQ "java/lang/IllegalArgumentException") 1 6) (hw0 : wc[0]? = some (hx, .inr (9, fs))) : Met l y_LW_clock (wdW y_LW_clock b_LW_clock 6 (some .int) [(0, 10, 13, 19), (0, 10, 17, 13)]) ({ frames := 8, cells := 1, slots := 6, locals := 147 }) (ROX dC dI wc tc [.ref hx, .long p0, .int p1, .ref o]) (MV (some (.int 2)) (fun _ => True) (fun _ => False)) 1 6 (fun _ => False) :=
  met_TW (by decide) (Nat.le_of_ble_eq_true rfl) (fun p e R s m args below meth c ls hRc hRs htab C0 hST hXT hK hP hl => by
    obtain ⟨hx', hb, hr, hml, hown, hts, hlocks, hRf, hRl⟩ := id C0
    refine lv_aload hx' hb d_LW_clock_0 (lv_at hl 3 rfl) ?_
    refine lv_iconst (v := 0) hx' hb d_LW_clock_2 (by decide) ?_
    refine lv_aload_n hx' hb d_LW_clock_3 rfl (lv_at hl 0 rfl) ?_
    refine lv_lload_n hx' hb d_LW_clock_4 rfl (lv_at hl 1 rfl) ?_
    refine lv_iload_n hx' hb d_LW_clock_5 rfl (lv_at hl 2 rfl) ?_
    refine wr_thr C0 (As := [.long p0, .int p1]) (hpc := 17) hM hRc hRs (cwV 2 hts (gdV m_5_73 m_5_74 m_5_75 m_1_1 m_5_76) rfl rfl rfl (by decide +kernel) ⟨Nat.le_trans (Nat.le_of_ble_eq_true rfl) hRf, Nat.le_trans (Nat.le_of_ble_eq_true rfl) hRl⟩) rfl (va_recv hK hP (ci := 9) (q0 := 0) rfl hw0) hP hK hST hXT hl.1 d_LW_clock_6 (fun x V ce h1 h2 h3 h4 => ?_) (fun x H h1 h2 => ?_)
    · rw [tab_eq htab]
      refine cat_pass (X := "java/lang/IllegalArgumentException") h4 hown (hts _ m_3_126) h1 h3 h2 (x_at (hts _ m_3_55) h2) hXT.2.1.2.2.2.2.2.2.2.2.1 rfl rfl rfl (by decide) (fun v0 h4 => ?_)
      exact cat_hit h4 hown (hts _ m_3_49) h1 h3 h2 (x_at (hts _ m_3_55) h2) hXT.2.1.2.2.2.2.1 rfl rfl rfl (by decide)
    · refine lv_astore hx' hb d_LW_clock_17 (lv_sub hl [] rfl) (by decide) rfl (fun ls hl => ?_)
      refine lv_iconst (v := 2) hx' hb d_LW_clock_19 (by decide) ?_
      exact wr_done C0 h1 h2 d_LW_clock_20)
theorem cw_seconds (l : Launch) (dC : Nat → ClassId) (dI : Nat → Nat → Nat) {wc : va_W} {tc : List (ClassId × FieldType)} {hx o : Nat} {cA : ClassId} {f : Nat → Int64} {fs : List Value} (p0 : Int64) (p1 : Int32) (p2 : Int32) (p3 : Int32) {r : Int64} {F : va_W → List (ClassId × FieldType) → Prop} {kc ks : Nat} (hM : OM l y_ZF_seconds (wd y_ZF_seconds b_ZF_seconds 9 (some .long)) ({ frames := 2, cells := kc, slots := ks, locals := 50 }) dC dI wc tc [.ref hx, .long p0, .int p1, .int p2, .int p3] (some (.long r)) F kc ks) (hw0 : wc[0]? = some (hx, .inr (9, fs))) : OM l y_LW_seconds (wdW y_LW_seconds b_LW_seconds 8 (some .int) [(0, 14, 17, 13)]) ({ frames := 3, cells := kc, slots := ks, locals := 78 }) dC dI (oC o cA f :: wc) ((cA, .long) :: tc) [.ref hx, .long p0, .int p1, .int p2, .int p3, .ref o] (some (.int 0)) (oF F o cA f tc r) kc ks := fun sz =>
  met_MW (by decide) (Nat.le_of_ble_eq_true rfl) (fun p e R s m args below meth c ls hRc hRs hsz C0 hST hK hP hD hl => by
    subst hsz
    obtain ⟨hx', hb, hr, hml, hown, hts, hlocks, hRf, hRl⟩ := id C0
    refine lv_aload hx' hb d_LW_seconds_0 (lv_at hl 5 rfl) ?_
    refine lv_iconst (v := 0) hx' hb d_LW_seconds_2 (by decide) ?_
    refine lv_aload_n hx' hb d_LW_seconds_3 rfl (lv_at hl 0 rfl) ?_
    refine lv_lload_n hx' hb d_LW_seconds_4 rfl (lv_at hl 1 rfl) ?_
    refine lv_iload_n hx' hb d_LW_seconds_5 rfl (lv_at hl 2 rfl) ?_
    refine lv_iload hx' hb d_LW_seconds_6 (lv_at hl 3 rfl) ?_
    refine lv_iload hx' hb d_LW_seconds_8 (lv_at hl 4 rfl) ?_
    refine wr_ret C0 (As := [.long p0, .int p1, .int p2, .int p3]) hM hRc hRs (cwV 4 hts (gdV m_5_98 m_5_99 m_5_100 m_1_1 m_5_101) rfl rfl rfl (by decide +kernel) ⟨Nat.le_trans (Nat.le_of_ble_eq_true rfl) hRf, Nat.le_trans (Nat.le_of_ble_eq_true rfl) hRl⟩) rfl hw0 hP hK hD hST hl.1 d_LW_seconds_10 (fun H locs wf tf hF hP hK hD hS => ?_)
    exact wr_end C0 hF hP hK hD hS d_LW_seconds_13 d_LW_seconds_14 (by decide) d_LW_seconds_21 d_LW_seconds_22)
theorem tw_seconds_2 (l : Launch) (dC : Nat → ClassId) (dI : Nat → Nat → Nat) {wc : va_W} {tc : List (ClassId × FieldType)} {hx o : Nat} {fs : List Value} (p0 : Int64) (p1 : Int32) (p2 : Int32) (p3 : Int32) (hM : MetT l y_ZF_seconds (wd y_ZF_seconds b_ZF_seconds 9 (some .long)) ({ frames := 6, cells := 1, slots := 6, locals := 100 }) (ROX dC dI wc tc [.ref hx, .long p0, .int p1, .int p2, .int p3]) (TQ "java/lang/IllegalArgumentException") 1 6) (hw0 : wc[0]? = some (hx, .inr (9, fs))) : Met l y_LW_seconds (wdW y_LW_seconds b_LW_seconds 8 (some .int) [(0, 14, 17, 13)]) ({ frames := 7, cells := 1, slots := 6, locals := 128 }) (ROX dC dI wc tc [.ref hx, .long p0, .int p1, .int p2, .int p3, .ref o]) (MV (some (.int 1)) (fun _ => True) (fun _ => False)) 1 6 (fun _ => False) :=
  met_TW (by decide) (Nat.le_of_ble_eq_true rfl) (fun p e R s m args below meth c ls hRc hRs htab C0 hST hXT hK hP hl => by
    obtain ⟨hx', hb, hr, hml, hown, hts, hlocks, hRf, hRl⟩ := id C0
    refine lv_aload hx' hb d_LW_seconds_0 (lv_at hl 5 rfl) ?_
    refine lv_iconst (v := 0) hx' hb d_LW_seconds_2 (by decide) ?_
    refine lv_aload_n hx' hb d_LW_seconds_3 rfl (lv_at hl 0 rfl) ?_
    refine lv_lload_n hx' hb d_LW_seconds_4 rfl (lv_at hl 1 rfl) ?_
    refine lv_iload_n hx' hb d_LW_seconds_5 rfl (lv_at hl 2 rfl) ?_
    refine lv_iload hx' hb d_LW_seconds_6 (lv_at hl 3 rfl) ?_
    refine lv_iload hx' hb d_LW_seconds_8 (lv_at hl 4 rfl) ?_
    refine wr_thr C0 (As := [.long p0, .int p1, .int p2, .int p3]) (hpc := 17) hM hRc hRs (cwV 4 hts (gdV m_5_98 m_5_99 m_5_100 m_1_1 m_5_101) rfl rfl rfl (by decide +kernel) ⟨Nat.le_trans (Nat.le_of_ble_eq_true rfl) hRf, Nat.le_trans (Nat.le_of_ble_eq_true rfl) hRl⟩) rfl (va_recv hK hP (ci := 9) (q0 := 0) rfl hw0) hP hK hST hXT hl.1 d_LW_seconds_10 (fun x V ce h1 h2 h3 h4 => ?_) (fun x H h1 h2 => ?_)
    · rw [tab_eq htab]
      exact cat_hit h4 hown (hts _ m_3_49) h1 h3 h2 (x_at (hts _ m_3_55) h2) hXT.2.1.2.2.2.2.1 rfl rfl rfl (by decide)
    · refine lv_astore hx' hb d_LW_seconds_17 (lv_sub hl [] rfl) (by decide) rfl (fun ls hl => ?_)
      refine lv_iconst (v := 1) hx' hb d_LW_seconds_19 (by decide) ?_
      exact wr_done C0 h1 h2 d_LW_seconds_20)
theorem cw_find (l : Launch) (dC : Nat → ClassId) (dI : Nat → Nat → Nat) {wc : va_W} {tc : List (ClassId × FieldType)} {hx o : Nat} {cA : ClassId} {f : Nat → Int64} {fs : List Value} (p0 : Int32) (p1 : Int64) {r : Int32} {F : va_W → List (ClassId × FieldType) → Prop} {kc ks : Nat} (hM : OM l y_ZF_find (wd y_ZF_find b_ZF_find 9 (some .int)) ({ frames := 6, cells := kc, slots := ks, locals := 148 }) dC dI wc tc [.ref hx, .int p0, .long p1] (some (.int r)) F kc ks) (hw0 : wc[0]? = some (hx, .inr (9, fs))) : OM l y_LW_find (wdW y_LW_find b_LW_find 6 (some .int) [(0, 11, 14, 19), (0, 11, 18, 13)]) ({ frames := 7, cells := kc, slots := ks, locals := 176 }) dC dI (oC o cA f :: wc) ((cA, .long) :: tc) [.ref hx, .int p0, .long p1, .ref o] (some (.int 0)) (oF F o cA f tc r.toInt64) kc ks := fun sz =>
  met_MW (by decide) (Nat.le_of_ble_eq_true rfl) (fun p e R s m args below meth c ls hRc hRs hsz C0 hST hK hP hD hl => by
    subst hsz
    obtain ⟨hx', hb, hr, hml, hown, hts, hlocks, hRf, hRl⟩ := id C0
    refine lv_aload hx' hb d_LW_find_0 (lv_at hl 3 rfl) ?_
    refine lv_iconst (v := 0) hx' hb d_LW_find_2 (by decide) ?_
    refine lv_aload_n hx' hb d_LW_find_3 rfl (lv_at hl 0 rfl) ?_
    refine lv_iload_n hx' hb d_LW_find_4 rfl (lv_at hl 1 rfl) ?_
    refine lv_lload_n hx' hb d_LW_find_5 rfl (lv_at hl 2 rfl) ?_
    refine wr_ret C0 (As := [.int p0, .long p1]) hM hRc hRs (cwV 2 hts (gdV m_5_114 m_5_115 m_5_116 m_1_1 m_5_117) rfl rfl rfl (by decide +kernel) ⟨Nat.le_trans (Nat.le_of_ble_eq_true rfl) hRf, Nat.le_trans (Nat.le_of_ble_eq_true rfl) hRl⟩) rfl hw0 hP hK hD hST hl.1 d_LW_find_6 (fun H locs wf tf hF hP hK hD hS => ?_)
    refine lv_i2l hx' hb d_LW_find_9 rfl ?_
    exact wr_end C0 hF hP hK hD hS d_LW_find_10 d_LW_find_11 (by decide) d_LW_find_22 d_LW_find_23)
theorem tw_find_1 (l : Launch) (dC : Nat → ClassId) (dI : Nat → Nat → Nat) {wc : va_W} {tc : List (ClassId × FieldType)} {hx o : Nat} {fs : List Value} (p0 : Int32) (p1 : Int64) (hM : MetT l y_ZF_find (wd y_ZF_find b_ZF_find 9 (some .int)) ({ frames := 7, cells := 1, slots := 6, locals := 121 }) (ROX dC dI wc tc [.ref hx, .int p0, .long p1]) (TQ "java/lang/IndexOutOfBoundsException") 1 6) (hw0 : wc[0]? = some (hx, .inr (9, fs))) : Met l y_LW_find (wdW y_LW_find b_LW_find 6 (some .int) [(0, 11, 14, 19), (0, 11, 18, 13)]) ({ frames := 8, cells := 1, slots := 6, locals := 149 }) (ROX dC dI wc tc [.ref hx, .int p0, .long p1, .ref o]) (MV (some (.int 1)) (fun _ => True) (fun _ => False)) 1 6 (fun _ => False) :=
  met_TW (by decide) (Nat.le_of_ble_eq_true rfl) (fun p e R s m args below meth c ls hRc hRs htab C0 hST hXT hK hP hl => by
    obtain ⟨hx', hb, hr, hml, hown, hts, hlocks, hRf, hRl⟩ := id C0
    refine lv_aload hx' hb d_LW_find_0 (lv_at hl 3 rfl) ?_
    refine lv_iconst (v := 0) hx' hb d_LW_find_2 (by decide) ?_
    refine lv_aload_n hx' hb d_LW_find_3 rfl (lv_at hl 0 rfl) ?_
    refine lv_iload_n hx' hb d_LW_find_4 rfl (lv_at hl 1 rfl) ?_
    refine lv_lload_n hx' hb d_LW_find_5 rfl (lv_at hl 2 rfl) ?_
    refine wr_thr C0 (As := [.int p0, .long p1]) (hpc := 14) hM hRc hRs (cwV 2 hts (gdV m_5_114 m_5_115 m_5_116 m_1_1 m_5_117) rfl rfl rfl (by decide +kernel) ⟨Nat.le_trans (Nat.le_of_ble_eq_true rfl) hRf, Nat.le_trans (Nat.le_of_ble_eq_true rfl) hRl⟩) rfl (va_recv hK hP (ci := 9) (q0 := 0) rfl hw0) hP hK hST hXT hl.1 d_LW_find_6 (fun x V ce h1 h2 h3 h4 => ?_) (fun x H h1 h2 => ?_)
    · rw [tab_eq htab]
      exact cat_hit h4 hown (hts _ m_3_126) h1 h3 h2 (x_at (hts _ m_3_135) h2) hXT.2.1.2.2.2.1 rfl rfl rfl (by decide)
    · refine lv_astore hx' hb d_LW_find_14 (lv_sub hl [] rfl) (by decide) rfl (fun ls hl => ?_)
      refine lv_iconst (v := 1) hx' hb d_LW_find_16 (by decide) ?_
      exact wr_done C0 h1 h2 d_LW_find_17)
theorem tw_find_2 (l : Launch) (dC : Nat → ClassId) (dI : Nat → Nat → Nat) {wc : va_W} {tc : List (ClassId × FieldType)} {hx o : Nat} {fs : List Value} (p0 : Int32) (p1 : Int64) (hM : MetT l y_ZF_find (wd y_ZF_find b_ZF_find 9 (some .int)) ({ frames := 7, cells := 1, slots := 6, locals := 121 }) (ROX dC dI wc tc [.ref hx, .int p0, .long p1]) (TQ "java/lang/IllegalArgumentException") 1 6) (hw0 : wc[0]? = some (hx, .inr (9, fs))) : Met l y_LW_find (wdW y_LW_find b_LW_find 6 (some .int) [(0, 11, 14, 19), (0, 11, 18, 13)]) ({ frames := 8, cells := 1, slots := 6, locals := 149 }) (ROX dC dI wc tc [.ref hx, .int p0, .long p1, .ref o]) (MV (some (.int 2)) (fun _ => True) (fun _ => False)) 1 6 (fun _ => False) :=
  met_TW (by decide) (Nat.le_of_ble_eq_true rfl) (fun p e R s m args below meth c ls hRc hRs htab C0 hST hXT hK hP hl => by
    obtain ⟨hx', hb, hr, hml, hown, hts, hlocks, hRf, hRl⟩ := id C0
    refine lv_aload hx' hb d_LW_find_0 (lv_at hl 3 rfl) ?_
    refine lv_iconst (v := 0) hx' hb d_LW_find_2 (by decide) ?_
    refine lv_aload_n hx' hb d_LW_find_3 rfl (lv_at hl 0 rfl) ?_
    refine lv_iload_n hx' hb d_LW_find_4 rfl (lv_at hl 1 rfl) ?_
    refine lv_lload_n hx' hb d_LW_find_5 rfl (lv_at hl 2 rfl) ?_
    refine wr_thr C0 (As := [.int p0, .long p1]) (hpc := 18) hM hRc hRs (cwV 2 hts (gdV m_5_114 m_5_115 m_5_116 m_1_1 m_5_117) rfl rfl rfl (by decide +kernel) ⟨Nat.le_trans (Nat.le_of_ble_eq_true rfl) hRf, Nat.le_trans (Nat.le_of_ble_eq_true rfl) hRl⟩) rfl (va_recv hK hP (ci := 9) (q0 := 0) rfl hw0) hP hK hST hXT hl.1 d_LW_find_6 (fun x V ce h1 h2 h3 h4 => ?_) (fun x H h1 h2 => ?_)
    · rw [tab_eq htab]
      refine cat_pass (X := "java/lang/IllegalArgumentException") h4 hown (hts _ m_3_126) h1 h3 h2 (x_at (hts _ m_3_55) h2) hXT.2.1.2.2.2.2.2.2.2.2.1 rfl rfl rfl (by decide) (fun v0 h4 => ?_)
      exact cat_hit h4 hown (hts _ m_3_49) h1 h3 h2 (x_at (hts _ m_3_55) h2) hXT.2.1.2.2.2.2.1 rfl rfl rfl (by decide)
    · refine lv_astore hx' hb d_LW_find_18 (lv_sub hl [] rfl) (by decide) rfl (fun ls hl => ?_)
      refine lv_iconst (v := 2) hx' hb d_LW_find_20 (by decide) ?_
      exact wr_done C0 h1 h2 d_LW_find_21)
theorem cw_found (l : Launch) (dC : Nat → ClassId) (dI : Nat → Nat → Nat) {wc : va_W} {tc : List (ClassId × FieldType)} {hx o : Nat} {cA : ClassId} {f : Nat → Int64} {fs : List Value} (p0 : Int32) {r : Int64} {F : va_W → List (ClassId × FieldType) → Prop} {kc ks : Nat} (hM : OM l y_ZF_found (wd y_ZF_found b_ZF_found 2 (some .long)) ({ frames := 1, cells := kc, slots := ks, locals := 21 }) dC dI wc tc [.ref hx, .int p0] (some (.long r)) F kc ks) (hw0 : wc[0]? = some (hx, .inr (9, fs))) : OM l y_LW_found (wdW y_LW_found b_LW_found 4 (some .int) [(0, 8, 11, 19)]) ({ frames := 2, cells := kc, slots := ks, locals := 42 }) dC dI (oC o cA f :: wc) ((cA, .long) :: tc) [.ref hx, .int p0, .ref o] (some (.int 0)) (oF F o cA f tc r) kc ks := fun sz =>
  met_MW (by decide) (Nat.le_of_ble_eq_true rfl) (fun p e R s m args below meth c ls hRc hRs hsz C0 hST hK hP hD hl => by
    subst hsz
    obtain ⟨hx', hb, hr, hml, hown, hts, hlocks, hRf, hRl⟩ := id C0
    refine lv_aload_n hx' hb d_LW_found_0 rfl (lv_at hl 2 rfl) ?_
    refine lv_iconst (v := 0) hx' hb d_LW_found_1 (by decide) ?_
    refine lv_aload_n hx' hb d_LW_found_2 rfl (lv_at hl 0 rfl) ?_
    refine lv_iload_n hx' hb d_LW_found_3 rfl (lv_at hl 1 rfl) ?_
    refine wr_ret C0 (As := [.int p0]) hM hRc hRs (cwV 1 hts (gdV m_5_125 m_5_126 m_5_127 m_1_1 m_5_128) rfl rfl rfl (by decide +kernel) ⟨Nat.le_trans (Nat.le_of_ble_eq_true rfl) hRf, Nat.le_trans (Nat.le_of_ble_eq_true rfl) hRl⟩) rfl hw0 hP hK hD hST hl.1 d_LW_found_4 (fun H locs wf tf hF hP hK hD hS => ?_)
    exact wr_end C0 hF hP hK hD hS d_LW_found_7 d_LW_found_8 (by decide) d_LW_found_14 d_LW_found_15)
theorem tw_found_1 (l : Launch) (dC : Nat → ClassId) (dI : Nat → Nat → Nat) {wc : va_W} {tc : List (ClassId × FieldType)} {hx o : Nat} {fs : List Value} (p0 : Int32) (hM : MetT l y_ZF_found (wd y_ZF_found b_ZF_found 2 (some .long)) ({ frames := 7, cells := 1, slots := 6, locals := 121 }) (ROX dC dI wc tc [.ref hx, .int p0]) (TQ "java/lang/IndexOutOfBoundsException") 1 6) (hw0 : wc[0]? = some (hx, .inr (9, fs))) : Met l y_LW_found (wdW y_LW_found b_LW_found 4 (some .int) [(0, 8, 11, 19)]) ({ frames := 8, cells := 1, slots := 6, locals := 142 }) (ROX dC dI wc tc [.ref hx, .int p0, .ref o]) (MV (some (.int 1)) (fun _ => True) (fun _ => False)) 1 6 (fun _ => False) :=
  met_TW (by decide) (Nat.le_of_ble_eq_true rfl) (fun p e R s m args below meth c ls hRc hRs htab C0 hST hXT hK hP hl => by
    obtain ⟨hx', hb, hr, hml, hown, hts, hlocks, hRf, hRl⟩ := id C0
    refine lv_aload_n hx' hb d_LW_found_0 rfl (lv_at hl 2 rfl) ?_
    refine lv_iconst (v := 0) hx' hb d_LW_found_1 (by decide) ?_
    refine lv_aload_n hx' hb d_LW_found_2 rfl (lv_at hl 0 rfl) ?_
    refine lv_iload_n hx' hb d_LW_found_3 rfl (lv_at hl 1 rfl) ?_
    refine wr_thr C0 (As := [.int p0]) (hpc := 11) hM hRc hRs (cwV 1 hts (gdV m_5_125 m_5_126 m_5_127 m_1_1 m_5_128) rfl rfl rfl (by decide +kernel) ⟨Nat.le_trans (Nat.le_of_ble_eq_true rfl) hRf, Nat.le_trans (Nat.le_of_ble_eq_true rfl) hRl⟩) rfl (va_recv hK hP (ci := 9) (q0 := 0) rfl hw0) hP hK hST hXT hl.1 d_LW_found_4 (fun x V ce h1 h2 h3 h4 => ?_) (fun x H h1 h2 => ?_)
    · rw [tab_eq htab]
      exact cat_hit h4 hown (hts _ m_3_126) h1 h3 h2 (x_at (hts _ m_3_135) h2) hXT.2.1.2.2.2.1 rfl rfl rfl (by decide)
    · refine lv_astore_n hx' hb d_LW_found_11 rfl (lv_sub hl [] rfl) (by decide) rfl (fun ls hl => ?_)
      refine lv_iconst (v := 1) hx' hb d_LW_found_12 (by decide) ?_
      exact wr_done C0 h1 h2 d_LW_found_13)
theorem cw_next (l : Launch) (dC : Nat → ClassId) (dI : Nat → Nat → Nat) {wc : va_W} {tc : List (ClassId × FieldType)} {hx o : Nat} {cA : ClassId} {f : Nat → Int64} {fs : List Value} (p0 : Int32) (p1 : Int64) {r : Int64} {F : va_W → List (ClassId × FieldType) → Prop} {kc ks : Nat} (hM : OM l y_ZF_next (wd y_ZF_next b_ZF_next 4 (some .long)) ({ frames := 7, cells := kc, slots := ks, locals := 174 }) dC dI wc tc [.ref hx, .int p0, .long p1] (some (.long r)) F kc ks) (hw0 : wc[0]? = some (hx, .inr (9, fs))) : OM l y_LW_next (wdW y_LW_next b_LW_next 6 (some .int) [(0, 10, 13, 19), (0, 10, 17, 13)]) ({ frames := 8, cells := kc, slots := ks, locals := 197 }) dC dI (oC o cA f :: wc) ((cA, .long) :: tc) [.ref hx, .int p0, .long p1, .ref o] (some (.int 0)) (oF F o cA f tc r) kc ks := fun sz =>
  met_MW (by decide) (Nat.le_of_ble_eq_true rfl) (fun p e R s m args below meth c ls hRc hRs hsz C0 hST hK hP hD hl => by
    subst hsz
    obtain ⟨hx', hb, hr, hml, hown, hts, hlocks, hRf, hRl⟩ := id C0
    refine lv_aload hx' hb d_LW_next_0 (lv_at hl 3 rfl) ?_
    refine lv_iconst (v := 0) hx' hb d_LW_next_2 (by decide) ?_
    refine lv_aload_n hx' hb d_LW_next_3 rfl (lv_at hl 0 rfl) ?_
    refine lv_iload_n hx' hb d_LW_next_4 rfl (lv_at hl 1 rfl) ?_
    refine lv_lload_n hx' hb d_LW_next_5 rfl (lv_at hl 2 rfl) ?_
    refine wr_ret C0 (As := [.int p0, .long p1]) hM hRc hRs (cwV 2 hts (gdV m_5_132 m_5_133 m_5_134 m_1_1 m_5_135) rfl rfl rfl (by decide +kernel) ⟨Nat.le_trans (Nat.le_of_ble_eq_true rfl) hRf, Nat.le_trans (Nat.le_of_ble_eq_true rfl) hRl⟩) rfl hw0 hP hK hD hST hl.1 d_LW_next_6 (fun H locs wf tf hF hP hK hD hS => ?_)
    exact wr_end C0 hF hP hK hD hS d_LW_next_9 d_LW_next_10 (by decide) d_LW_next_21 d_LW_next_22)
theorem tw_next_1 (l : Launch) (dC : Nat → ClassId) (dI : Nat → Nat → Nat) {wc : va_W} {tc : List (ClassId × FieldType)} {hx o : Nat} {fs : List Value} (p0 : Int32) (p1 : Int64) (hM : MetT l y_ZF_next (wd y_ZF_next b_ZF_next 4 (some .long)) ({ frames := 7, cells := 1, slots := 6, locals := 121 }) (ROX dC dI wc tc [.ref hx, .int p0, .long p1]) (TQ "java/lang/IndexOutOfBoundsException") 1 6) (hw0 : wc[0]? = some (hx, .inr (9, fs))) : Met l y_LW_next (wdW y_LW_next b_LW_next 6 (some .int) [(0, 10, 13, 19), (0, 10, 17, 13)]) ({ frames := 8, cells := 1, slots := 6, locals := 144 }) (ROX dC dI wc tc [.ref hx, .int p0, .long p1, .ref o]) (MV (some (.int 1)) (fun _ => True) (fun _ => False)) 1 6 (fun _ => False) :=
  met_TW (by decide) (Nat.le_of_ble_eq_true rfl) (fun p e R s m args below meth c ls hRc hRs htab C0 hST hXT hK hP hl => by
    obtain ⟨hx', hb, hr, hml, hown, hts, hlocks, hRf, hRl⟩ := id C0
    refine lv_aload hx' hb d_LW_next_0 (lv_at hl 3 rfl) ?_
    refine lv_iconst (v := 0) hx' hb d_LW_next_2 (by decide) ?_
    refine lv_aload_n hx' hb d_LW_next_3 rfl (lv_at hl 0 rfl) ?_
    refine lv_iload_n hx' hb d_LW_next_4 rfl (lv_at hl 1 rfl) ?_
    refine lv_lload_n hx' hb d_LW_next_5 rfl (lv_at hl 2 rfl) ?_
    refine wr_thr C0 (As := [.int p0, .long p1]) (hpc := 13) hM hRc hRs (cwV 2 hts (gdV m_5_132 m_5_133 m_5_134 m_1_1 m_5_135) rfl rfl rfl (by decide +kernel) ⟨Nat.le_trans (Nat.le_of_ble_eq_true rfl) hRf, Nat.le_trans (Nat.le_of_ble_eq_true rfl) hRl⟩) rfl (va_recv hK hP (ci := 9) (q0 := 0) rfl hw0) hP hK hST hXT hl.1 d_LW_next_6 (fun x V ce h1 h2 h3 h4 => ?_) (fun x H h1 h2 => ?_)
    · rw [tab_eq htab]
      exact cat_hit h4 hown (hts _ m_3_126) h1 h3 h2 (x_at (hts _ m_3_135) h2) hXT.2.1.2.2.2.1 rfl rfl rfl (by decide)
    · refine lv_astore hx' hb d_LW_next_13 (lv_sub hl [] rfl) (by decide) rfl (fun ls hl => ?_)
      refine lv_iconst (v := 1) hx' hb d_LW_next_15 (by decide) ?_
      exact wr_done C0 h1 h2 d_LW_next_16)
theorem tw_next_2 (l : Launch) (dC : Nat → ClassId) (dI : Nat → Nat → Nat) {wc : va_W} {tc : List (ClassId × FieldType)} {hx o : Nat} {fs : List Value} (p0 : Int32) (p1 : Int64) (hM : MetT l y_ZF_next (wd y_ZF_next b_ZF_next 4 (some .long)) ({ frames := 7, cells := 1, slots := 6, locals := 121 }) (ROX dC dI wc tc [.ref hx, .int p0, .long p1]) (TQ "java/lang/IllegalArgumentException") 1 6) (hw0 : wc[0]? = some (hx, .inr (9, fs))) : Met l y_LW_next (wdW y_LW_next b_LW_next 6 (some .int) [(0, 10, 13, 19), (0, 10, 17, 13)]) ({ frames := 8, cells := 1, slots := 6, locals := 144 }) (ROX dC dI wc tc [.ref hx, .int p0, .long p1, .ref o]) (MV (some (.int 2)) (fun _ => True) (fun _ => False)) 1 6 (fun _ => False) :=
  met_TW (by decide) (Nat.le_of_ble_eq_true rfl) (fun p e R s m args below meth c ls hRc hRs htab C0 hST hXT hK hP hl => by
    obtain ⟨hx', hb, hr, hml, hown, hts, hlocks, hRf, hRl⟩ := id C0
    refine lv_aload hx' hb d_LW_next_0 (lv_at hl 3 rfl) ?_
    refine lv_iconst (v := 0) hx' hb d_LW_next_2 (by decide) ?_
    refine lv_aload_n hx' hb d_LW_next_3 rfl (lv_at hl 0 rfl) ?_
    refine lv_iload_n hx' hb d_LW_next_4 rfl (lv_at hl 1 rfl) ?_
    refine lv_lload_n hx' hb d_LW_next_5 rfl (lv_at hl 2 rfl) ?_
    refine wr_thr C0 (As := [.int p0, .long p1]) (hpc := 17) hM hRc hRs (cwV 2 hts (gdV m_5_132 m_5_133 m_5_134 m_1_1 m_5_135) rfl rfl rfl (by decide +kernel) ⟨Nat.le_trans (Nat.le_of_ble_eq_true rfl) hRf, Nat.le_trans (Nat.le_of_ble_eq_true rfl) hRl⟩) rfl (va_recv hK hP (ci := 9) (q0 := 0) rfl hw0) hP hK hST hXT hl.1 d_LW_next_6 (fun x V ce h1 h2 h3 h4 => ?_) (fun x H h1 h2 => ?_)
    · rw [tab_eq htab]
      refine cat_pass (X := "java/lang/IllegalArgumentException") h4 hown (hts _ m_3_126) h1 h3 h2 (x_at (hts _ m_3_55) h2) hXT.2.1.2.2.2.2.2.2.2.2.1 rfl rfl rfl (by decide) (fun v0 h4 => ?_)
      exact cat_hit h4 hown (hts _ m_3_49) h1 h3 h2 (x_at (hts _ m_3_55) h2) hXT.2.1.2.2.2.2.1 rfl rfl rfl (by decide)
    · refine lv_astore hx' hb d_LW_next_17 (lv_sub hl [] rfl) (by decide) rfl (fun ls hl => ?_)
      refine lv_iconst (v := 2) hx' hb d_LW_next_19 (by decide) ?_
      exact wr_done C0 h1 h2 d_LW_next_20)
theorem cw_last (l : Launch) (dC : Nat → ClassId) (dI : Nat → Nat → Nat) {wc : va_W} {tc : List (ClassId × FieldType)} {hx o : Nat} {cA : ClassId} {f : Nat → Int64} {fs : List Value} (p0 : Int32) (p1 : Int64) {r : Int64} {F : va_W → List (ClassId × FieldType) → Prop} {kc ks : Nat} (hM : OM l y_ZF_last (wd y_ZF_last b_ZF_last 4 (some .long)) ({ frames := 7, cells := kc, slots := ks, locals := 182 }) dC dI wc tc [.ref hx, .int p0, .long p1] (some (.long r)) F kc ks) (hw0 : wc[0]? = some (hx, .inr (9, fs))) : OM l y_LW_last (wdW y_LW_last b_LW_last 6 (some .int) [(0, 10, 13, 19), (0, 10, 17, 13)]) ({ frames := 8, cells := kc, slots := ks, locals := 205 }) dC dI (oC o cA f :: wc) ((cA, .long) :: tc) [.ref hx, .int p0, .long p1, .ref o] (some (.int 0)) (oF F o cA f tc r) kc ks := fun sz =>
  met_MW (by decide) (Nat.le_of_ble_eq_true rfl) (fun p e R s m args below meth c ls hRc hRs hsz C0 hST hK hP hD hl => by
    subst hsz
    obtain ⟨hx', hb, hr, hml, hown, hts, hlocks, hRf, hRl⟩ := id C0
    refine lv_aload hx' hb d_LW_last_0 (lv_at hl 3 rfl) ?_
    refine lv_iconst (v := 0) hx' hb d_LW_last_2 (by decide) ?_
    refine lv_aload_n hx' hb d_LW_last_3 rfl (lv_at hl 0 rfl) ?_
    refine lv_iload_n hx' hb d_LW_last_4 rfl (lv_at hl 1 rfl) ?_
    refine lv_lload_n hx' hb d_LW_last_5 rfl (lv_at hl 2 rfl) ?_
    refine wr_ret C0 (As := [.int p0, .long p1]) hM hRc hRs (cwV 2 hts (gdV m_5_196 m_5_197 m_5_198 m_1_1 m_5_199) rfl rfl rfl (by decide +kernel) ⟨Nat.le_trans (Nat.le_of_ble_eq_true rfl) hRf, Nat.le_trans (Nat.le_of_ble_eq_true rfl) hRl⟩) rfl hw0 hP hK hD hST hl.1 d_LW_last_6 (fun H locs wf tf hF hP hK hD hS => ?_)
    exact wr_end C0 hF hP hK hD hS d_LW_last_9 d_LW_last_10 (by decide) d_LW_last_21 d_LW_last_22)
theorem tw_last_1 (l : Launch) (dC : Nat → ClassId) (dI : Nat → Nat → Nat) {wc : va_W} {tc : List (ClassId × FieldType)} {hx o : Nat} {fs : List Value} (p0 : Int32) (p1 : Int64) (hM : MetT l y_ZF_last (wd y_ZF_last b_ZF_last 4 (some .long)) ({ frames := 7, cells := 1, slots := 6, locals := 121 }) (ROX dC dI wc tc [.ref hx, .int p0, .long p1]) (TQ "java/lang/IndexOutOfBoundsException") 1 6) (hw0 : wc[0]? = some (hx, .inr (9, fs))) : Met l y_LW_last (wdW y_LW_last b_LW_last 6 (some .int) [(0, 10, 13, 19), (0, 10, 17, 13)]) ({ frames := 8, cells := 1, slots := 6, locals := 144 }) (ROX dC dI wc tc [.ref hx, .int p0, .long p1, .ref o]) (MV (some (.int 1)) (fun _ => True) (fun _ => False)) 1 6 (fun _ => False) :=
  met_TW (by decide) (Nat.le_of_ble_eq_true rfl) (fun p e R s m args below meth c ls hRc hRs htab C0 hST hXT hK hP hl => by
    obtain ⟨hx', hb, hr, hml, hown, hts, hlocks, hRf, hRl⟩ := id C0
    refine lv_aload hx' hb d_LW_last_0 (lv_at hl 3 rfl) ?_
    refine lv_iconst (v := 0) hx' hb d_LW_last_2 (by decide) ?_
    refine lv_aload_n hx' hb d_LW_last_3 rfl (lv_at hl 0 rfl) ?_
    refine lv_iload_n hx' hb d_LW_last_4 rfl (lv_at hl 1 rfl) ?_
    refine lv_lload_n hx' hb d_LW_last_5 rfl (lv_at hl 2 rfl) ?_
    refine wr_thr C0 (As := [.int p0, .long p1]) (hpc := 13) hM hRc hRs (cwV 2 hts (gdV m_5_196 m_5_197 m_5_198 m_1_1 m_5_199) rfl rfl rfl (by decide +kernel) ⟨Nat.le_trans (Nat.le_of_ble_eq_true rfl) hRf, Nat.le_trans (Nat.le_of_ble_eq_true rfl) hRl⟩) rfl (va_recv hK hP (ci := 9) (q0 := 0) rfl hw0) hP hK hST hXT hl.1 d_LW_last_6 (fun x V ce h1 h2 h3 h4 => ?_) (fun x H h1 h2 => ?_)
    · rw [tab_eq htab]
      exact cat_hit h4 hown (hts _ m_3_126) h1 h3 h2 (x_at (hts _ m_3_135) h2) hXT.2.1.2.2.2.1 rfl rfl rfl (by decide)
    · refine lv_astore hx' hb d_LW_last_13 (lv_sub hl [] rfl) (by decide) rfl (fun ls hl => ?_)
      refine lv_iconst (v := 1) hx' hb d_LW_last_15 (by decide) ?_
      exact wr_done C0 h1 h2 d_LW_last_16)
theorem tw_last_2 (l : Launch) (dC : Nat → ClassId) (dI : Nat → Nat → Nat) {wc : va_W} {tc : List (ClassId × FieldType)} {hx o : Nat} {fs : List Value} (p0 : Int32) (p1 : Int64) (hM : MetT l y_ZF_last (wd y_ZF_last b_ZF_last 4 (some .long)) ({ frames := 7, cells := 1, slots := 6, locals := 121 }) (ROX dC dI wc tc [.ref hx, .int p0, .long p1]) (TQ "java/lang/IllegalArgumentException") 1 6) (hw0 : wc[0]? = some (hx, .inr (9, fs))) : Met l y_LW_last (wdW y_LW_last b_LW_last 6 (some .int) [(0, 10, 13, 19), (0, 10, 17, 13)]) ({ frames := 8, cells := 1, slots := 6, locals := 144 }) (ROX dC dI wc tc [.ref hx, .int p0, .long p1, .ref o]) (MV (some (.int 2)) (fun _ => True) (fun _ => False)) 1 6 (fun _ => False) :=
  met_TW (by decide) (Nat.le_of_ble_eq_true rfl) (fun p e R s m args below meth c ls hRc hRs htab C0 hST hXT hK hP hl => by
    obtain ⟨hx', hb, hr, hml, hown, hts, hlocks, hRf, hRl⟩ := id C0
    refine lv_aload hx' hb d_LW_last_0 (lv_at hl 3 rfl) ?_
    refine lv_iconst (v := 0) hx' hb d_LW_last_2 (by decide) ?_
    refine lv_aload_n hx' hb d_LW_last_3 rfl (lv_at hl 0 rfl) ?_
    refine lv_iload_n hx' hb d_LW_last_4 rfl (lv_at hl 1 rfl) ?_
    refine lv_lload_n hx' hb d_LW_last_5 rfl (lv_at hl 2 rfl) ?_
    refine wr_thr C0 (As := [.int p0, .long p1]) (hpc := 17) hM hRc hRs (cwV 2 hts (gdV m_5_196 m_5_197 m_5_198 m_1_1 m_5_199) rfl rfl rfl (by decide +kernel) ⟨Nat.le_trans (Nat.le_of_ble_eq_true rfl) hRf, Nat.le_trans (Nat.le_of_ble_eq_true rfl) hRl⟩) rfl (va_recv hK hP (ci := 9) (q0 := 0) rfl hw0) hP hK hST hXT hl.1 d_LW_last_6 (fun x V ce h1 h2 h3 h4 => ?_) (fun x H h1 h2 => ?_)
    · rw [tab_eq htab]
      refine cat_pass (X := "java/lang/IllegalArgumentException") h4 hown (hts _ m_3_126) h1 h3 h2 (x_at (hts _ m_3_55) h2) hXT.2.1.2.2.2.2.2.2.2.2.1 rfl rfl rfl (by decide) (fun v0 h4 => ?_)
      exact cat_hit h4 hown (hts _ m_3_49) h1 h3 h2 (x_at (hts _ m_3_55) h2) hXT.2.1.2.2.2.2.1 rfl rfl rfl (by decide)
    · refine lv_astore hx' hb d_LW_last_17 (lv_sub hl [] rfl) (by decide) rfl (fun ls hl => ?_)
      refine lv_iconst (v := 2) hx' hb d_LW_last_19 (by decide) ?_
      exact wr_done C0 h1 h2 d_LW_last_20)
theorem cw_stretch (l : Launch) (dC : Nat → ClassId) (dI : Nat → Nat → Nat) {wc : va_W} {tc : List (ClassId × FieldType)} {hx o : Nat} {cA : ClassId} {f : Nat → Int64} {fs : List Value} (p0 : Int32) (p1 : Int32) {r : Int32} {F : va_W → List (ClassId × FieldType) → Prop} {kc ks : Nat} (hM : OM l y_ZF_stretch (wd y_ZF_stretch b_ZF_stretch 3 (some .int)) ({ frames := 7, cells := kc, slots := ks, locals := 161 }) dC dI wc tc [.ref hx, .int p0, .int p1] (some (.int r)) F kc ks) (hw0 : wc[0]? = some (hx, .inr (9, fs))) : OM l y_LW_stretch (wdW y_LW_stretch b_LW_stretch 5 (some .int) [(0, 10, 13, 19), (0, 10, 17, 13), (0, 10, 21, 54)]) ({ frames := 8, cells := kc, slots := ks, locals := 183 }) dC dI (oC o cA f :: wc) ((cA, .long) :: tc) [.ref hx, .int p0, .int p1, .ref o] (some (.int 0)) (oF F o cA f tc r.toInt64) kc ks := fun sz =>
  met_MW (by decide) (Nat.le_of_ble_eq_true rfl) (fun p e R s m args below meth c ls hRc hRs hsz C0 hST hK hP hD hl => by
    subst hsz
    obtain ⟨hx', hb, hr, hml, hown, hts, hlocks, hRf, hRl⟩ := id C0
    refine lv_aload_n hx' hb d_LW_stretch_0 rfl (lv_at hl 3 rfl) ?_
    refine lv_iconst (v := 0) hx' hb d_LW_stretch_1 (by decide) ?_
    refine lv_aload_n hx' hb d_LW_stretch_2 rfl (lv_at hl 0 rfl) ?_
    refine lv_iload_n hx' hb d_LW_stretch_3 rfl (lv_at hl 1 rfl) ?_
    refine lv_iload_n hx' hb d_LW_stretch_4 rfl (lv_at hl 2 rfl) ?_
    refine wr_ret C0 (As := [.int p0, .int p1]) hM hRc hRs (cwV 2 hts (gdV m_5_216 m_5_217 m_5_218 m_1_1 m_5_219) rfl rfl rfl (by decide +kernel) ⟨Nat.le_trans (Nat.le_of_ble_eq_true rfl) hRf, Nat.le_trans (Nat.le_of_ble_eq_true rfl) hRl⟩) rfl hw0 hP hK hD hST hl.1 d_LW_stretch_5 (fun H locs wf tf hF hP hK hD hS => ?_)
    refine lv_i2l hx' hb d_LW_stretch_8 rfl ?_
    exact wr_end C0 hF hP hK hD hS d_LW_stretch_9 d_LW_stretch_10 (by decide) d_LW_stretch_25 d_LW_stretch_26)
theorem tw_stretch_1 (l : Launch) (dC : Nat → ClassId) (dI : Nat → Nat → Nat) {wc : va_W} {tc : List (ClassId × FieldType)} {hx o : Nat} {fs : List Value} (p0 : Int32) (p1 : Int32) (hM : MetT l y_ZF_stretch (wd y_ZF_stretch b_ZF_stretch 3 (some .int)) ({ frames := 7, cells := 1, slots := 6, locals := 120 }) (ROX dC dI wc tc [.ref hx, .int p0, .int p1]) (TQ "java/lang/IndexOutOfBoundsException") 1 6) (hw0 : wc[0]? = some (hx, .inr (9, fs))) : Met l y_LW_stretch (wdW y_LW_stretch b_LW_stretch 5 (some .int) [(0, 10, 13, 19), (0, 10, 17, 13), (0, 10, 21, 54)]) ({ frames := 8, cells := 1, slots := 6, locals := 142 }) (ROX dC dI wc tc [.ref hx, .int p0, .int p1, .ref o]) (MV (some (.int 1)) (fun _ => True) (fun _ => False)) 1 6 (fun _ => False) :=
  met_TW (by decide) (Nat.le_of_ble_eq_true rfl) (fun p e R s m args below meth c ls hRc hRs htab C0 hST hXT hK hP hl => by
    obtain ⟨hx', hb, hr, hml, hown, hts, hlocks, hRf, hRl⟩ := id C0
    refine lv_aload_n hx' hb d_LW_stretch_0 rfl (lv_at hl 3 rfl) ?_
    refine lv_iconst (v := 0) hx' hb d_LW_stretch_1 (by decide) ?_
    refine lv_aload_n hx' hb d_LW_stretch_2 rfl (lv_at hl 0 rfl) ?_
    refine lv_iload_n hx' hb d_LW_stretch_3 rfl (lv_at hl 1 rfl) ?_
    refine lv_iload_n hx' hb d_LW_stretch_4 rfl (lv_at hl 2 rfl) ?_
    refine wr_thr C0 (As := [.int p0, .int p1]) (hpc := 13) hM hRc hRs (cwV 2 hts (gdV m_5_216 m_5_217 m_5_218 m_1_1 m_5_219) rfl rfl rfl (by decide +kernel) ⟨Nat.le_trans (Nat.le_of_ble_eq_true rfl) hRf, Nat.le_trans (Nat.le_of_ble_eq_true rfl) hRl⟩) rfl (va_recv hK hP (ci := 9) (q0 := 0) rfl hw0) hP hK hST hXT hl.1 d_LW_stretch_5 (fun x V ce h1 h2 h3 h4 => ?_) (fun x H h1 h2 => ?_)
    · rw [tab_eq htab]
      exact cat_hit h4 hown (hts _ m_3_126) h1 h3 h2 (x_at (hts _ m_3_135) h2) hXT.2.1.2.2.2.1 rfl rfl rfl (by decide)
    · refine lv_astore hx' hb d_LW_stretch_13 (lv_sub hl [] rfl) (by decide) rfl (fun ls hl => ?_)
      refine lv_iconst (v := 1) hx' hb d_LW_stretch_15 (by decide) ?_
      exact wr_done C0 h1 h2 d_LW_stretch_16)
theorem tw_stretch_2 (l : Launch) (dC : Nat → ClassId) (dI : Nat → Nat → Nat) {wc : va_W} {tc : List (ClassId × FieldType)} {hx o : Nat} {fs : List Value} (p0 : Int32) (p1 : Int32) (hM : MetT l y_ZF_stretch (wd y_ZF_stretch b_ZF_stretch 3 (some .int)) ({ frames := 7, cells := 1, slots := 6, locals := 120 }) (ROX dC dI wc tc [.ref hx, .int p0, .int p1]) (TQ "java/lang/IllegalArgumentException") 1 6) (hw0 : wc[0]? = some (hx, .inr (9, fs))) : Met l y_LW_stretch (wdW y_LW_stretch b_LW_stretch 5 (some .int) [(0, 10, 13, 19), (0, 10, 17, 13), (0, 10, 21, 54)]) ({ frames := 8, cells := 1, slots := 6, locals := 142 }) (ROX dC dI wc tc [.ref hx, .int p0, .int p1, .ref o]) (MV (some (.int 2)) (fun _ => True) (fun _ => False)) 1 6 (fun _ => False) :=
  met_TW (by decide) (Nat.le_of_ble_eq_true rfl) (fun p e R s m args below meth c ls hRc hRs htab C0 hST hXT hK hP hl => by
    obtain ⟨hx', hb, hr, hml, hown, hts, hlocks, hRf, hRl⟩ := id C0
    refine lv_aload_n hx' hb d_LW_stretch_0 rfl (lv_at hl 3 rfl) ?_
    refine lv_iconst (v := 0) hx' hb d_LW_stretch_1 (by decide) ?_
    refine lv_aload_n hx' hb d_LW_stretch_2 rfl (lv_at hl 0 rfl) ?_
    refine lv_iload_n hx' hb d_LW_stretch_3 rfl (lv_at hl 1 rfl) ?_
    refine lv_iload_n hx' hb d_LW_stretch_4 rfl (lv_at hl 2 rfl) ?_
    refine wr_thr C0 (As := [.int p0, .int p1]) (hpc := 17) hM hRc hRs (cwV 2 hts (gdV m_5_216 m_5_217 m_5_218 m_1_1 m_5_219) rfl rfl rfl (by decide +kernel) ⟨Nat.le_trans (Nat.le_of_ble_eq_true rfl) hRf, Nat.le_trans (Nat.le_of_ble_eq_true rfl) hRl⟩) rfl (va_recv hK hP (ci := 9) (q0 := 0) rfl hw0) hP hK hST hXT hl.1 d_LW_stretch_5 (fun x V ce h1 h2 h3 h4 => ?_) (fun x H h1 h2 => ?_)
    · rw [tab_eq htab]
      refine cat_pass (X := "java/lang/IllegalArgumentException") h4 hown (hts _ m_3_126) h1 h3 h2 (x_at (hts _ m_3_55) h2) hXT.2.1.2.2.2.2.2.2.2.2.1 rfl rfl rfl (by decide) (fun v0 h4 => ?_)
      exact cat_hit h4 hown (hts _ m_3_49) h1 h3 h2 (x_at (hts _ m_3_55) h2) hXT.2.1.2.2.2.2.1 rfl rfl rfl (by decide)
    · refine lv_astore hx' hb d_LW_stretch_17 (lv_sub hl [] rfl) (by decide) rfl (fun ls hl => ?_)
      refine lv_iconst (v := 2) hx' hb d_LW_stretch_19 (by decide) ?_
      exact wr_done C0 h1 h2 d_LW_stretch_20)
theorem tw_stretch_3 (l : Launch) (dC : Nat → ClassId) (dI : Nat → Nat → Nat) {wc : va_W} {tc : List (ClassId × FieldType)} {hx o : Nat} {fs : List Value} (p0 : Int32) (p1 : Int32) (hM : MetT l y_ZF_stretch (wd y_ZF_stretch b_ZF_stretch 3 (some .int)) ({ frames := 7, cells := 1, slots := 6, locals := 120 }) (ROX dC dI wc tc [.ref hx, .int p0, .int p1]) (TQ "java/lang/IllegalStateException") 1 6) (hw0 : wc[0]? = some (hx, .inr (9, fs))) : Met l y_LW_stretch (wdW y_LW_stretch b_LW_stretch 5 (some .int) [(0, 10, 13, 19), (0, 10, 17, 13), (0, 10, 21, 54)]) ({ frames := 8, cells := 1, slots := 6, locals := 142 }) (ROX dC dI wc tc [.ref hx, .int p0, .int p1, .ref o]) (MV (some (.int 3)) (fun _ => True) (fun _ => False)) 1 6 (fun _ => False) :=
  met_TW (by decide) (Nat.le_of_ble_eq_true rfl) (fun p e R s m args below meth c ls hRc hRs htab C0 hST hXT hK hP hl => by
    obtain ⟨hx', hb, hr, hml, hown, hts, hlocks, hRf, hRl⟩ := id C0
    refine lv_aload_n hx' hb d_LW_stretch_0 rfl (lv_at hl 3 rfl) ?_
    refine lv_iconst (v := 0) hx' hb d_LW_stretch_1 (by decide) ?_
    refine lv_aload_n hx' hb d_LW_stretch_2 rfl (lv_at hl 0 rfl) ?_
    refine lv_iload_n hx' hb d_LW_stretch_3 rfl (lv_at hl 1 rfl) ?_
    refine lv_iload_n hx' hb d_LW_stretch_4 rfl (lv_at hl 2 rfl) ?_
    refine wr_thr C0 (As := [.int p0, .int p1]) (hpc := 21) hM hRc hRs (cwV 2 hts (gdV m_5_216 m_5_217 m_5_218 m_1_1 m_5_219) rfl rfl rfl (by decide +kernel) ⟨Nat.le_trans (Nat.le_of_ble_eq_true rfl) hRf, Nat.le_trans (Nat.le_of_ble_eq_true rfl) hRl⟩) rfl (va_recv hK hP (ci := 9) (q0 := 0) rfl hw0) hP hK hST hXT hl.1 d_LW_stretch_5 (fun x V ce h1 h2 h3 h4 => ?_) (fun x H h1 h2 => ?_)
    · rw [tab_eq htab]
      refine cat_pass (X := "java/lang/IllegalStateException") h4 hown (hts _ m_3_126) h1 h3 h2 (x_at (hts _ m_5_54) h2) hXT.2.1.2.2.2.2.2.2.2.2.2.2.1 rfl rfl rfl (by decide) (fun v0 h4 => ?_)
      refine cat_pass (X := "java/lang/IllegalStateException") h4 hown (hts _ m_3_49) h1 h3 h2 (x_at (hts _ m_5_54) h2) hXT.2.1.2.2.2.2.2.2.2.2.2.2.2 rfl rfl rfl (by decide) (fun v1 h4 => ?_)
      exact cat_hit h4 hown (hts _ m_5_48) h1 h3 h2 (x_at (hts _ m_5_54) h2) hXT.2.1.2.2.2.2.2.1 rfl rfl rfl (by decide)
    · refine lv_astore hx' hb d_LW_stretch_21 (lv_sub hl [] rfl) (by decide) rfl (fun ls hl => ?_)
      refine lv_iconst (v := 3) hx' hb d_LW_stretch_23 (by decide) ?_
      exact wr_done C0 h1 h2 d_LW_stretch_24)
theorem cw_write (l : Launch) (dC : Nat → ClassId) (dI : Nat → Nat → Nat) {wc : va_W} {tc : List (ClassId × FieldType)} {hx o : Nat} {cA : ClassId} {f : Nat → Int64} {fs : List Value} (p0 : Int32) (p1 : Int32) {r : Int32} {F : va_W → List (ClassId × FieldType) → Prop} {kc ks : Nat} (hM : OM l y_ZF_write (wd y_ZF_write b_ZF_write 4 (some .int)) ({ frames := 7, cells := kc, slots := ks, locals := 150 }) dC dI wc tc [.ref hx, .int p0, .int p1] (some (.int r)) F kc ks) (hw0 : wc[0]? = some (hx, .inr (9, fs))) : OM l y_LW_write (wdW y_LW_write b_LW_write 5 (some .int) [(0, 10, 13, 19), (0, 10, 17, 13), (0, 10, 21, 54)]) ({ frames := 8, cells := kc, slots := ks, locals := 173 }) dC dI (oC o cA f :: wc) ((cA, .long) :: tc) [.ref hx, .int p0, .int p1, .ref o] (some (.int 0)) (oF F o cA f tc r.toInt64) kc ks := fun sz =>
  met_MW (by decide) (Nat.le_of_ble_eq_true rfl) (fun p e R s m args below meth c ls hRc hRs hsz C0 hST hK hP hD hl => by
    subst hsz
    obtain ⟨hx', hb, hr, hml, hown, hts, hlocks, hRf, hRl⟩ := id C0
    refine lv_aload_n hx' hb d_LW_write_0 rfl (lv_at hl 3 rfl) ?_
    refine lv_iconst (v := 0) hx' hb d_LW_write_1 (by decide) ?_
    refine lv_aload_n hx' hb d_LW_write_2 rfl (lv_at hl 0 rfl) ?_
    refine lv_iload_n hx' hb d_LW_write_3 rfl (lv_at hl 1 rfl) ?_
    refine lv_iload_n hx' hb d_LW_write_4 rfl (lv_at hl 2 rfl) ?_
    refine wr_ret C0 (As := [.int p0, .int p1]) hM hRc hRs (cwV 2 hts (gdV m_6_9 m_6_10 m_6_11 m_1_1 m_6_12) rfl rfl rfl (by decide +kernel) ⟨Nat.le_trans (Nat.le_of_ble_eq_true rfl) hRf, Nat.le_trans (Nat.le_of_ble_eq_true rfl) hRl⟩) rfl hw0 hP hK hD hST hl.1 d_LW_write_5 (fun H locs wf tf hF hP hK hD hS => ?_)
    refine lv_i2l hx' hb d_LW_write_8 rfl ?_
    exact wr_end C0 hF hP hK hD hS d_LW_write_9 d_LW_write_10 (by decide) d_LW_write_25 d_LW_write_26)
theorem tw_write_1 (l : Launch) (dC : Nat → ClassId) (dI : Nat → Nat → Nat) {wc : va_W} {tc : List (ClassId × FieldType)} {hx o : Nat} {fs : List Value} (p0 : Int32) (p1 : Int32) (hM : MetT l y_ZF_write (wd y_ZF_write b_ZF_write 4 (some .int)) ({ frames := 7, cells := 1, slots := 6, locals := 120 }) (ROX dC dI wc tc [.ref hx, .int p0, .int p1]) (TQ "java/lang/IndexOutOfBoundsException") 1 6) (hw0 : wc[0]? = some (hx, .inr (9, fs))) : Met l y_LW_write (wdW y_LW_write b_LW_write 5 (some .int) [(0, 10, 13, 19), (0, 10, 17, 13), (0, 10, 21, 54)]) ({ frames := 8, cells := 1, slots := 6, locals := 143 }) (ROX dC dI wc tc [.ref hx, .int p0, .int p1, .ref o]) (MV (some (.int 1)) (fun _ => True) (fun _ => False)) 1 6 (fun _ => False) :=
  met_TW (by decide) (Nat.le_of_ble_eq_true rfl) (fun p e R s m args below meth c ls hRc hRs htab C0 hST hXT hK hP hl => by
    obtain ⟨hx', hb, hr, hml, hown, hts, hlocks, hRf, hRl⟩ := id C0
    refine lv_aload_n hx' hb d_LW_write_0 rfl (lv_at hl 3 rfl) ?_
    refine lv_iconst (v := 0) hx' hb d_LW_write_1 (by decide) ?_
    refine lv_aload_n hx' hb d_LW_write_2 rfl (lv_at hl 0 rfl) ?_
    refine lv_iload_n hx' hb d_LW_write_3 rfl (lv_at hl 1 rfl) ?_
    refine lv_iload_n hx' hb d_LW_write_4 rfl (lv_at hl 2 rfl) ?_
    refine wr_thr C0 (As := [.int p0, .int p1]) (hpc := 13) hM hRc hRs (cwV 2 hts (gdV m_6_9 m_6_10 m_6_11 m_1_1 m_6_12) rfl rfl rfl (by decide +kernel) ⟨Nat.le_trans (Nat.le_of_ble_eq_true rfl) hRf, Nat.le_trans (Nat.le_of_ble_eq_true rfl) hRl⟩) rfl (va_recv hK hP (ci := 9) (q0 := 0) rfl hw0) hP hK hST hXT hl.1 d_LW_write_5 (fun x V ce h1 h2 h3 h4 => ?_) (fun x H h1 h2 => ?_)
    · rw [tab_eq htab]
      exact cat_hit h4 hown (hts _ m_3_126) h1 h3 h2 (x_at (hts _ m_3_135) h2) hXT.2.1.2.2.2.1 rfl rfl rfl (by decide)
    · refine lv_astore hx' hb d_LW_write_13 (lv_sub hl [] rfl) (by decide) rfl (fun ls hl => ?_)
      refine lv_iconst (v := 1) hx' hb d_LW_write_15 (by decide) ?_
      exact wr_done C0 h1 h2 d_LW_write_16)
theorem tw_write_2 (l : Launch) (dC : Nat → ClassId) (dI : Nat → Nat → Nat) {wc : va_W} {tc : List (ClassId × FieldType)} {hx o : Nat} {fs : List Value} (p0 : Int32) (p1 : Int32) (hM : MetT l y_ZF_write (wd y_ZF_write b_ZF_write 4 (some .int)) ({ frames := 7, cells := 1, slots := 6, locals := 120 }) (ROX dC dI wc tc [.ref hx, .int p0, .int p1]) (TQ "java/lang/IllegalArgumentException") 1 6) (hw0 : wc[0]? = some (hx, .inr (9, fs))) : Met l y_LW_write (wdW y_LW_write b_LW_write 5 (some .int) [(0, 10, 13, 19), (0, 10, 17, 13), (0, 10, 21, 54)]) ({ frames := 8, cells := 1, slots := 6, locals := 143 }) (ROX dC dI wc tc [.ref hx, .int p0, .int p1, .ref o]) (MV (some (.int 2)) (fun _ => True) (fun _ => False)) 1 6 (fun _ => False) :=
  met_TW (by decide) (Nat.le_of_ble_eq_true rfl) (fun p e R s m args below meth c ls hRc hRs htab C0 hST hXT hK hP hl => by
    obtain ⟨hx', hb, hr, hml, hown, hts, hlocks, hRf, hRl⟩ := id C0
    refine lv_aload_n hx' hb d_LW_write_0 rfl (lv_at hl 3 rfl) ?_
    refine lv_iconst (v := 0) hx' hb d_LW_write_1 (by decide) ?_
    refine lv_aload_n hx' hb d_LW_write_2 rfl (lv_at hl 0 rfl) ?_
    refine lv_iload_n hx' hb d_LW_write_3 rfl (lv_at hl 1 rfl) ?_
    refine lv_iload_n hx' hb d_LW_write_4 rfl (lv_at hl 2 rfl) ?_
    refine wr_thr C0 (As := [.int p0, .int p1]) (hpc := 17) hM hRc hRs (cwV 2 hts (gdV m_6_9 m_6_10 m_6_11 m_1_1 m_6_12) rfl rfl rfl (by decide +kernel) ⟨Nat.le_trans (Nat.le_of_ble_eq_true rfl) hRf, Nat.le_trans (Nat.le_of_ble_eq_true rfl) hRl⟩) rfl (va_recv hK hP (ci := 9) (q0 := 0) rfl hw0) hP hK hST hXT hl.1 d_LW_write_5 (fun x V ce h1 h2 h3 h4 => ?_) (fun x H h1 h2 => ?_)
    · rw [tab_eq htab]
      refine cat_pass (X := "java/lang/IllegalArgumentException") h4 hown (hts _ m_3_126) h1 h3 h2 (x_at (hts _ m_3_55) h2) hXT.2.1.2.2.2.2.2.2.2.2.1 rfl rfl rfl (by decide) (fun v0 h4 => ?_)
      exact cat_hit h4 hown (hts _ m_3_49) h1 h3 h2 (x_at (hts _ m_3_55) h2) hXT.2.1.2.2.2.2.1 rfl rfl rfl (by decide)
    · refine lv_astore hx' hb d_LW_write_17 (lv_sub hl [] rfl) (by decide) rfl (fun ls hl => ?_)
      refine lv_iconst (v := 2) hx' hb d_LW_write_19 (by decide) ?_
      exact wr_done C0 h1 h2 d_LW_write_20)
theorem tw_write_3 (l : Launch) (dC : Nat → ClassId) (dI : Nat → Nat → Nat) {wc : va_W} {tc : List (ClassId × FieldType)} {hx o : Nat} {fs : List Value} (p0 : Int32) (p1 : Int32) (hM : MetT l y_ZF_write (wd y_ZF_write b_ZF_write 4 (some .int)) ({ frames := 7, cells := 1, slots := 6, locals := 120 }) (ROX dC dI wc tc [.ref hx, .int p0, .int p1]) (TQ "java/lang/IllegalStateException") 1 6) (hw0 : wc[0]? = some (hx, .inr (9, fs))) : Met l y_LW_write (wdW y_LW_write b_LW_write 5 (some .int) [(0, 10, 13, 19), (0, 10, 17, 13), (0, 10, 21, 54)]) ({ frames := 8, cells := 1, slots := 6, locals := 143 }) (ROX dC dI wc tc [.ref hx, .int p0, .int p1, .ref o]) (MV (some (.int 3)) (fun _ => True) (fun _ => False)) 1 6 (fun _ => False) :=
  met_TW (by decide) (Nat.le_of_ble_eq_true rfl) (fun p e R s m args below meth c ls hRc hRs htab C0 hST hXT hK hP hl => by
    obtain ⟨hx', hb, hr, hml, hown, hts, hlocks, hRf, hRl⟩ := id C0
    refine lv_aload_n hx' hb d_LW_write_0 rfl (lv_at hl 3 rfl) ?_
    refine lv_iconst (v := 0) hx' hb d_LW_write_1 (by decide) ?_
    refine lv_aload_n hx' hb d_LW_write_2 rfl (lv_at hl 0 rfl) ?_
    refine lv_iload_n hx' hb d_LW_write_3 rfl (lv_at hl 1 rfl) ?_
    refine lv_iload_n hx' hb d_LW_write_4 rfl (lv_at hl 2 rfl) ?_
    refine wr_thr C0 (As := [.int p0, .int p1]) (hpc := 21) hM hRc hRs (cwV 2 hts (gdV m_6_9 m_6_10 m_6_11 m_1_1 m_6_12) rfl rfl rfl (by decide +kernel) ⟨Nat.le_trans (Nat.le_of_ble_eq_true rfl) hRf, Nat.le_trans (Nat.le_of_ble_eq_true rfl) hRl⟩) rfl (va_recv hK hP (ci := 9) (q0 := 0) rfl hw0) hP hK hST hXT hl.1 d_LW_write_5 (fun x V ce h1 h2 h3 h4 => ?_) (fun x H h1 h2 => ?_)
    · rw [tab_eq htab]
      refine cat_pass (X := "java/lang/IllegalStateException") h4 hown (hts _ m_3_126) h1 h3 h2 (x_at (hts _ m_5_54) h2) hXT.2.1.2.2.2.2.2.2.2.2.2.2.1 rfl rfl rfl (by decide) (fun v0 h4 => ?_)
      refine cat_pass (X := "java/lang/IllegalStateException") h4 hown (hts _ m_3_49) h1 h3 h2 (x_at (hts _ m_5_54) h2) hXT.2.1.2.2.2.2.2.2.2.2.2.2.2 rfl rfl rfl (by decide) (fun v1 h4 => ?_)
      exact cat_hit h4 hown (hts _ m_5_48) h1 h3 h2 (x_at (hts _ m_5_54) h2) hXT.2.1.2.2.2.2.2.1 rfl rfl rfl (by decide)
    · refine lv_astore hx' hb d_LW_write_21 (lv_sub hl [] rfl) (by decide) rfl (fun ls hl => ?_)
      refine lv_iconst (v := 3) hx' hb d_LW_write_23 (by decide) ?_
      exact wr_done C0 h1 h2 d_LW_write_24)
theorem cw_out (l : Launch) (dC : Nat → ClassId) (dI : Nat → Nat → Nat) {wc : va_W} {tc : List (ClassId × FieldType)} {hx o : Nat} {cA : ClassId} {f : Nat → Int64} {fs : List Value} (p0 : Int32) {r : Int32} {F : va_W → List (ClassId × FieldType) → Prop} {kc ks : Nat} (hM : OM l y_ZF_out (wd y_ZF_out b_ZF_out 2 (some .int)) ({ frames := 1, cells := kc, slots := ks, locals := 21 }) dC dI wc tc [.ref hx, .int p0] (some (.int r)) F kc ks) (hw0 : wc[0]? = some (hx, .inr (9, fs))) : OM l y_LW_out (wdW y_LW_out b_LW_out 4 (some .int) [(0, 9, 12, 19)]) ({ frames := 2, cells := kc, slots := ks, locals := 42 }) dC dI (oC o cA f :: wc) ((cA, .long) :: tc) [.ref hx, .int p0, .ref o] (some (.int 0)) (oF F o cA f tc r.toInt64) kc ks := fun sz =>
  met_MW (by decide) (Nat.le_of_ble_eq_true rfl) (fun p e R s m args below meth c ls hRc hRs hsz C0 hST hK hP hD hl => by
    subst hsz
    obtain ⟨hx', hb, hr, hml, hown, hts, hlocks, hRf, hRl⟩ := id C0
    refine lv_aload_n hx' hb d_LW_out_0 rfl (lv_at hl 2 rfl) ?_
    refine lv_iconst (v := 0) hx' hb d_LW_out_1 (by decide) ?_
    refine lv_aload_n hx' hb d_LW_out_2 rfl (lv_at hl 0 rfl) ?_
    refine lv_iload_n hx' hb d_LW_out_3 rfl (lv_at hl 1 rfl) ?_
    refine wr_ret C0 (As := [.int p0]) hM hRc hRs (cwV 1 hts (gdV m_6_50 m_6_51 m_6_52 m_1_1 m_6_53) rfl rfl rfl (by decide +kernel) ⟨Nat.le_trans (Nat.le_of_ble_eq_true rfl) hRf, Nat.le_trans (Nat.le_of_ble_eq_true rfl) hRl⟩) rfl hw0 hP hK hD hST hl.1 d_LW_out_4 (fun H locs wf tf hF hP hK hD hS => ?_)
    refine lv_i2l hx' hb d_LW_out_7 rfl ?_
    exact wr_end C0 hF hP hK hD hS d_LW_out_8 d_LW_out_9 (by decide) d_LW_out_15 d_LW_out_16)
theorem tw_out_1 (l : Launch) (dC : Nat → ClassId) (dI : Nat → Nat → Nat) {wc : va_W} {tc : List (ClassId × FieldType)} {hx o : Nat} {fs : List Value} (p0 : Int32) (hM : MetT l y_ZF_out (wd y_ZF_out b_ZF_out 2 (some .int)) ({ frames := 7, cells := 1, slots := 6, locals := 121 }) (ROX dC dI wc tc [.ref hx, .int p0]) (TQ "java/lang/IndexOutOfBoundsException") 1 6) (hw0 : wc[0]? = some (hx, .inr (9, fs))) : Met l y_LW_out (wdW y_LW_out b_LW_out 4 (some .int) [(0, 9, 12, 19)]) ({ frames := 8, cells := 1, slots := 6, locals := 142 }) (ROX dC dI wc tc [.ref hx, .int p0, .ref o]) (MV (some (.int 1)) (fun _ => True) (fun _ => False)) 1 6 (fun _ => False) :=
  met_TW (by decide) (Nat.le_of_ble_eq_true rfl) (fun p e R s m args below meth c ls hRc hRs htab C0 hST hXT hK hP hl => by
    obtain ⟨hx', hb, hr, hml, hown, hts, hlocks, hRf, hRl⟩ := id C0
    refine lv_aload_n hx' hb d_LW_out_0 rfl (lv_at hl 2 rfl) ?_
    refine lv_iconst (v := 0) hx' hb d_LW_out_1 (by decide) ?_
    refine lv_aload_n hx' hb d_LW_out_2 rfl (lv_at hl 0 rfl) ?_
    refine lv_iload_n hx' hb d_LW_out_3 rfl (lv_at hl 1 rfl) ?_
    refine wr_thr C0 (As := [.int p0]) (hpc := 12) hM hRc hRs (cwV 1 hts (gdV m_6_50 m_6_51 m_6_52 m_1_1 m_6_53) rfl rfl rfl (by decide +kernel) ⟨Nat.le_trans (Nat.le_of_ble_eq_true rfl) hRf, Nat.le_trans (Nat.le_of_ble_eq_true rfl) hRl⟩) rfl (va_recv hK hP (ci := 9) (q0 := 0) rfl hw0) hP hK hST hXT hl.1 d_LW_out_4 (fun x V ce h1 h2 h3 h4 => ?_) (fun x H h1 h2 => ?_)
    · rw [tab_eq htab]
      exact cat_hit h4 hown (hts _ m_3_126) h1 h3 h2 (x_at (hts _ m_3_135) h2) hXT.2.1.2.2.2.1 rfl rfl rfl (by decide)
    · refine lv_astore_n hx' hb d_LW_out_12 rfl (lv_sub hl [] rfl) (by decide) rfl (fun ls hl => ?_)
      refine lv_iconst (v := 1) hx' hb d_LW_out_13 (by decide) ?_
      exact wr_done C0 h1 h2 d_LW_out_14)
theorem cw_told (l : Launch) (dC : Nat → ClassId) (dI : Nat → Nat → Nat) {wc : va_W} {tc : List (ClassId × FieldType)} {hx o : Nat} {cA : ClassId} {f : Nat → Int64} {fs : List Value} (p0 : Int32) {r : Int64} {F : va_W → List (ClassId × FieldType) → Prop} {kc ks : Nat} (hM : OM l y_ZF_told (wd y_ZF_told b_ZF_told 2 (some .long)) ({ frames := 1, cells := kc, slots := ks, locals := 21 }) dC dI wc tc [.ref hx, .int p0] (some (.long r)) F kc ks) (hw0 : wc[0]? = some (hx, .inr (9, fs))) : OM l y_LW_told (wdW y_LW_told b_LW_told 4 (some .int) [(0, 8, 11, 19), (0, 8, 14, 54)]) ({ frames := 2, cells := kc, slots := ks, locals := 42 }) dC dI (oC o cA f :: wc) ((cA, .long) :: tc) [.ref hx, .int p0, .ref o] (some (.int 0)) (oF F o cA f tc r) kc ks := fun sz =>
  met_MW (by decide) (Nat.le_of_ble_eq_true rfl) (fun p e R s m args below meth c ls hRc hRs hsz C0 hST hK hP hD hl => by
    subst hsz
    obtain ⟨hx', hb, hr, hml, hown, hts, hlocks, hRf, hRl⟩ := id C0
    refine lv_aload_n hx' hb d_LW_told_0 rfl (lv_at hl 2 rfl) ?_
    refine lv_iconst (v := 0) hx' hb d_LW_told_1 (by decide) ?_
    refine lv_aload_n hx' hb d_LW_told_2 rfl (lv_at hl 0 rfl) ?_
    refine lv_iload_n hx' hb d_LW_told_3 rfl (lv_at hl 1 rfl) ?_
    refine wr_ret C0 (As := [.int p0]) hM hRc hRs (cwV 1 hts (gdV m_6_57 m_6_58 m_6_59 m_1_1 m_6_60) rfl rfl rfl (by decide +kernel) ⟨Nat.le_trans (Nat.le_of_ble_eq_true rfl) hRf, Nat.le_trans (Nat.le_of_ble_eq_true rfl) hRl⟩) rfl hw0 hP hK hD hST hl.1 d_LW_told_4 (fun H locs wf tf hF hP hK hD hS => ?_)
    exact wr_end C0 hF hP hK hD hS d_LW_told_7 d_LW_told_8 (by decide) d_LW_told_17 d_LW_told_18)
theorem tw_told_1 (l : Launch) (dC : Nat → ClassId) (dI : Nat → Nat → Nat) {wc : va_W} {tc : List (ClassId × FieldType)} {hx o : Nat} {fs : List Value} (p0 : Int32) (hM : MetT l y_ZF_told (wd y_ZF_told b_ZF_told 2 (some .long)) ({ frames := 7, cells := 1, slots := 6, locals := 121 }) (ROX dC dI wc tc [.ref hx, .int p0]) (TQ "java/lang/IndexOutOfBoundsException") 1 6) (hw0 : wc[0]? = some (hx, .inr (9, fs))) : Met l y_LW_told (wdW y_LW_told b_LW_told 4 (some .int) [(0, 8, 11, 19), (0, 8, 14, 54)]) ({ frames := 8, cells := 1, slots := 6, locals := 142 }) (ROX dC dI wc tc [.ref hx, .int p0, .ref o]) (MV (some (.int 1)) (fun _ => True) (fun _ => False)) 1 6 (fun _ => False) :=
  met_TW (by decide) (Nat.le_of_ble_eq_true rfl) (fun p e R s m args below meth c ls hRc hRs htab C0 hST hXT hK hP hl => by
    obtain ⟨hx', hb, hr, hml, hown, hts, hlocks, hRf, hRl⟩ := id C0
    refine lv_aload_n hx' hb d_LW_told_0 rfl (lv_at hl 2 rfl) ?_
    refine lv_iconst (v := 0) hx' hb d_LW_told_1 (by decide) ?_
    refine lv_aload_n hx' hb d_LW_told_2 rfl (lv_at hl 0 rfl) ?_
    refine lv_iload_n hx' hb d_LW_told_3 rfl (lv_at hl 1 rfl) ?_
    refine wr_thr C0 (As := [.int p0]) (hpc := 11) hM hRc hRs (cwV 1 hts (gdV m_6_57 m_6_58 m_6_59 m_1_1 m_6_60) rfl rfl rfl (by decide +kernel) ⟨Nat.le_trans (Nat.le_of_ble_eq_true rfl) hRf, Nat.le_trans (Nat.le_of_ble_eq_true rfl) hRl⟩) rfl (va_recv hK hP (ci := 9) (q0 := 0) rfl hw0) hP hK hST hXT hl.1 d_LW_told_4 (fun x V ce h1 h2 h3 h4 => ?_) (fun x H h1 h2 => ?_)
    · rw [tab_eq htab]
      exact cat_hit h4 hown (hts _ m_3_126) h1 h3 h2 (x_at (hts _ m_3_135) h2) hXT.2.1.2.2.2.1 rfl rfl rfl (by decide)
    · refine lv_astore_n hx' hb d_LW_told_11 rfl (lv_sub hl [] rfl) (by decide) rfl (fun ls hl => ?_)
      refine lv_iconst (v := 1) hx' hb d_LW_told_12 (by decide) ?_
      exact wr_done C0 h1 h2 d_LW_told_13)
theorem tw_told_3 (l : Launch) (dC : Nat → ClassId) (dI : Nat → Nat → Nat) {wc : va_W} {tc : List (ClassId × FieldType)} {hx o : Nat} {fs : List Value} (p0 : Int32) (hM : MetT l y_ZF_told (wd y_ZF_told b_ZF_told 2 (some .long)) ({ frames := 7, cells := 1, slots := 6, locals := 121 }) (ROX dC dI wc tc [.ref hx, .int p0]) (TQ "java/lang/IllegalStateException") 1 6) (hw0 : wc[0]? = some (hx, .inr (9, fs))) : Met l y_LW_told (wdW y_LW_told b_LW_told 4 (some .int) [(0, 8, 11, 19), (0, 8, 14, 54)]) ({ frames := 8, cells := 1, slots := 6, locals := 142 }) (ROX dC dI wc tc [.ref hx, .int p0, .ref o]) (MV (some (.int 2)) (fun _ => True) (fun _ => False)) 1 6 (fun _ => False) :=
  met_TW (by decide) (Nat.le_of_ble_eq_true rfl) (fun p e R s m args below meth c ls hRc hRs htab C0 hST hXT hK hP hl => by
    obtain ⟨hx', hb, hr, hml, hown, hts, hlocks, hRf, hRl⟩ := id C0
    refine lv_aload_n hx' hb d_LW_told_0 rfl (lv_at hl 2 rfl) ?_
    refine lv_iconst (v := 0) hx' hb d_LW_told_1 (by decide) ?_
    refine lv_aload_n hx' hb d_LW_told_2 rfl (lv_at hl 0 rfl) ?_
    refine lv_iload_n hx' hb d_LW_told_3 rfl (lv_at hl 1 rfl) ?_
    refine wr_thr C0 (As := [.int p0]) (hpc := 14) hM hRc hRs (cwV 1 hts (gdV m_6_57 m_6_58 m_6_59 m_1_1 m_6_60) rfl rfl rfl (by decide +kernel) ⟨Nat.le_trans (Nat.le_of_ble_eq_true rfl) hRf, Nat.le_trans (Nat.le_of_ble_eq_true rfl) hRl⟩) rfl (va_recv hK hP (ci := 9) (q0 := 0) rfl hw0) hP hK hST hXT hl.1 d_LW_told_4 (fun x V ce h1 h2 h3 h4 => ?_) (fun x H h1 h2 => ?_)
    · rw [tab_eq htab]
      refine cat_pass (X := "java/lang/IllegalStateException") h4 hown (hts _ m_3_126) h1 h3 h2 (x_at (hts _ m_5_54) h2) hXT.2.1.2.2.2.2.2.2.2.2.2.2.1 rfl rfl rfl (by decide) (fun v0 h4 => ?_)
      exact cat_hit h4 hown (hts _ m_5_48) h1 h3 h2 (x_at (hts _ m_5_54) h2) hXT.2.1.2.2.2.2.2.1 rfl rfl rfl (by decide)
    · refine lv_astore_n hx' hb d_LW_told_14 rfl (lv_sub hl [] rfl) (by decide) rfl (fun ls hl => ?_)
      refine lv_iconst (v := 2) hx' hb d_LW_told_15 (by decide) ?_
      exact wr_done C0 h1 h2 d_LW_told_16)
theorem cw_row (l : Launch) (dC : Nat → ClassId) (dI : Nat → Nat → Nat) {wc : va_W} {tc : List (ClassId × FieldType)} {hx o : Nat} {cA : ClassId} {f : Nat → Int64} {fs : List Value} (p0 : Int32) (p1 : Int32) {r : Int64} {F : va_W → List (ClassId × FieldType) → Prop} {kc ks : Nat} (hM : OM l y_ZF_row (wd y_ZF_row b_ZF_row 3 (some .long)) ({ frames := 1, cells := kc, slots := ks, locals := 21 }) dC dI wc tc [.ref hx, .int p0, .int p1] (some (.long r)) F kc ks) (hw0 : wc[0]? = some (hx, .inr (9, fs))) : OM l y_LW_row (wdW y_LW_row b_LW_row 5 (some .int) [(0, 9, 12, 19)]) ({ frames := 2, cells := kc, slots := ks, locals := 43 }) dC dI (oC o cA f :: wc) ((cA, .long) :: tc) [.ref hx, .int p0, .int p1, .ref o] (some (.int 0)) (oF F o cA f tc r) kc ks := fun sz =>
  met_MW (by decide) (Nat.le_of_ble_eq_true rfl) (fun p e R s m args below meth c ls hRc hRs hsz C0 hST hK hP hD hl => by
    subst hsz
    obtain ⟨hx', hb, hr, hml, hown, hts, hlocks, hRf, hRl⟩ := id C0
    refine lv_aload_n hx' hb d_LW_row_0 rfl (lv_at hl 3 rfl) ?_
    refine lv_iconst (v := 0) hx' hb d_LW_row_1 (by decide) ?_
    refine lv_aload_n hx' hb d_LW_row_2 rfl (lv_at hl 0 rfl) ?_
    refine lv_iload_n hx' hb d_LW_row_3 rfl (lv_at hl 1 rfl) ?_
    refine lv_iload_n hx' hb d_LW_row_4 rfl (lv_at hl 2 rfl) ?_
    refine wr_ret C0 (As := [.int p0, .int p1]) hM hRc hRs (cwV 2 hts (gdV m_6_65 m_6_66 m_6_67 m_1_1 m_6_68) rfl rfl rfl (by decide +kernel) ⟨Nat.le_trans (Nat.le_of_ble_eq_true rfl) hRf, Nat.le_trans (Nat.le_of_ble_eq_true rfl) hRl⟩) rfl hw0 hP hK hD hST hl.1 d_LW_row_5 (fun H locs wf tf hF hP hK hD hS => ?_)
    exact wr_end C0 hF hP hK hD hS d_LW_row_8 d_LW_row_9 (by decide) d_LW_row_16 d_LW_row_17)
theorem tw_row_1 (l : Launch) (dC : Nat → ClassId) (dI : Nat → Nat → Nat) {wc : va_W} {tc : List (ClassId × FieldType)} {hx o : Nat} {fs : List Value} (p0 : Int32) (p1 : Int32) (hM : MetT l y_ZF_row (wd y_ZF_row b_ZF_row 3 (some .long)) ({ frames := 7, cells := 1, slots := 6, locals := 121 }) (ROX dC dI wc tc [.ref hx, .int p0, .int p1]) (TQ "java/lang/IndexOutOfBoundsException") 1 6) (hw0 : wc[0]? = some (hx, .inr (9, fs))) : Met l y_LW_row (wdW y_LW_row b_LW_row 5 (some .int) [(0, 9, 12, 19)]) ({ frames := 8, cells := 1, slots := 6, locals := 143 }) (ROX dC dI wc tc [.ref hx, .int p0, .int p1, .ref o]) (MV (some (.int 1)) (fun _ => True) (fun _ => False)) 1 6 (fun _ => False) :=
  met_TW (by decide) (Nat.le_of_ble_eq_true rfl) (fun p e R s m args below meth c ls hRc hRs htab C0 hST hXT hK hP hl => by
    obtain ⟨hx', hb, hr, hml, hown, hts, hlocks, hRf, hRl⟩ := id C0
    refine lv_aload_n hx' hb d_LW_row_0 rfl (lv_at hl 3 rfl) ?_
    refine lv_iconst (v := 0) hx' hb d_LW_row_1 (by decide) ?_
    refine lv_aload_n hx' hb d_LW_row_2 rfl (lv_at hl 0 rfl) ?_
    refine lv_iload_n hx' hb d_LW_row_3 rfl (lv_at hl 1 rfl) ?_
    refine lv_iload_n hx' hb d_LW_row_4 rfl (lv_at hl 2 rfl) ?_
    refine wr_thr C0 (As := [.int p0, .int p1]) (hpc := 12) hM hRc hRs (cwV 2 hts (gdV m_6_65 m_6_66 m_6_67 m_1_1 m_6_68) rfl rfl rfl (by decide +kernel) ⟨Nat.le_trans (Nat.le_of_ble_eq_true rfl) hRf, Nat.le_trans (Nat.le_of_ble_eq_true rfl) hRl⟩) rfl (va_recv hK hP (ci := 9) (q0 := 0) rfl hw0) hP hK hST hXT hl.1 d_LW_row_5 (fun x V ce h1 h2 h3 h4 => ?_) (fun x H h1 h2 => ?_)
    · rw [tab_eq htab]
      exact cat_hit h4 hown (hts _ m_3_126) h1 h3 h2 (x_at (hts _ m_3_135) h2) hXT.2.1.2.2.2.1 rfl rfl rfl (by decide)
    · refine lv_astore hx' hb d_LW_row_12 (lv_sub hl [] rfl) (by decide) rfl (fun ls hl => ?_)
      refine lv_iconst (v := 1) hx' hb d_LW_row_14 (by decide) ?_
      exact wr_done C0 h1 h2 d_LW_row_15)
