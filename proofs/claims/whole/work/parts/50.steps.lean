theorem m_1_0 : Cond.initialized "ZoneFilesLaw" ∈ T0 := tb_1 0 rfl rfl
theorem m_2_145 : Cond.methodLink "ZoneFilesLaw" 117 ⟨"ZoneFiles", "table", "()I"⟩ ∈ T0 := tb_2 145 rfl rfl
theorem m_2_146 : Cond.instanceMethod ⟨"ZoneFiles", "table", "()I"⟩ ∈ T0 := tb_2 146 rfl rfl
theorem m_2_147 : Cond.selects "ZoneFiles" ⟨"ZoneFiles", "table", "()I"⟩ ⟨"ZoneFiles", "table", "()I"⟩ ∈ T0 := tb_2 147 rfl rfl
theorem m_2_148 : Cond.code ⟨"ZoneFiles", "table", "()I"⟩ prog_1_method_5_code 4 (some .int) ∈ T0 := tb_2 148 rfl rfl
theorem m_2_239 : Cond.methodLink "ZoneFilesLaw" 121 ⟨"ZoneFiles", "place", "()I"⟩ ∈ T0 := tb_2 239 rfl rfl
theorem m_3_0 : Cond.instanceMethod ⟨"ZoneFiles", "place", "()I"⟩ ∈ T0 := tb_3 0 rfl rfl
theorem m_3_1 : Cond.selects "ZoneFiles" ⟨"ZoneFiles", "place", "()I"⟩ ⟨"ZoneFiles", "place", "()I"⟩ ∈ T0 := tb_3 1 rfl rfl
theorem m_3_2 : Cond.code ⟨"ZoneFiles", "place", "()I"⟩ prog_1_method_6_code 1 (some .int) ∈ T0 := tb_3 2 rfl rfl
theorem m_3_3 : Cond.methodLink "ZoneFilesLaw" 181 ⟨"ZoneFiles", "again", "()I"⟩ ∈ T0 := tb_3 3 rfl rfl
theorem m_3_4 : Cond.instanceMethod ⟨"ZoneFiles", "again", "()I"⟩ ∈ T0 := tb_3 4 rfl rfl
theorem m_3_5 : Cond.selects "ZoneFiles" ⟨"ZoneFiles", "again", "()I"⟩ ⟨"ZoneFiles", "again", "()I"⟩ ∈ T0 := tb_3 5 rfl rfl
theorem m_3_6 : Cond.code ⟨"ZoneFiles", "again", "()I"⟩ prog_1_method_24_code 1 (some .int) ∈ T0 := tb_3 6 rfl rfl
theorem m_3_13 : Cond.methodLink "ZoneFilesLaw" 191 ⟨"ZoneFiles", "atomic", "(J)J"⟩ ∈ T0 := tb_3 13 rfl rfl
theorem m_3_14 : Cond.instanceMethod ⟨"ZoneFiles", "atomic", "(J)J"⟩ ∈ T0 := tb_3 14 rfl rfl
theorem m_3_15 : Cond.selects "ZoneFiles" ⟨"ZoneFiles", "atomic", "(J)J"⟩ ⟨"ZoneFiles", "atomic", "(J)J"⟩ ∈ T0 := tb_3 15 rfl rfl
theorem m_3_16 : Cond.code ⟨"ZoneFiles", "atomic", "(J)J"⟩ prog_1_method_27_code 3 (some .long) ∈ T0 := tb_3 16 rfl rfl
theorem m_3_22 : Cond.methodLink "ZoneFilesLaw" 196 ⟨"ZoneFiles", "instant", "(J)J"⟩ ∈ T0 := tb_3 22 rfl rfl
theorem m_3_23 : Cond.instanceMethod ⟨"ZoneFiles", "instant", "(J)J"⟩ ∈ T0 := tb_3 23 rfl rfl
theorem m_3_24 : Cond.selects "ZoneFiles" ⟨"ZoneFiles", "instant", "(J)J"⟩ ⟨"ZoneFiles", "instant", "(J)J"⟩ ∈ T0 := tb_3 24 rfl rfl
theorem m_3_25 : Cond.code ⟨"ZoneFiles", "instant", "(J)J"⟩ prog_1_method_28_code 3 (some .long) ∈ T0 := tb_3 25 rfl rfl
theorem m_3_38 : Cond.methodLink "ZoneFilesLaw" 200 ⟨"ZoneFiles", "isLeap", "(J)Z"⟩ ∈ T0 := tb_3 38 rfl rfl
theorem m_3_39 : Cond.instanceMethod ⟨"ZoneFiles", "isLeap", "(J)Z"⟩ ∈ T0 := tb_3 39 rfl rfl
theorem m_3_40 : Cond.selects "ZoneFiles" ⟨"ZoneFiles", "isLeap", "(J)Z"⟩ ⟨"ZoneFiles", "isLeap", "(J)Z"⟩ ∈ T0 := tb_3 40 rfl rfl
theorem m_3_41 : Cond.code ⟨"ZoneFiles", "isLeap", "(J)Z"⟩ prog_1_method_29_code 3 (some .boolean) ∈ T0 := tb_3 41 rfl rfl
theorem m_3_46 : Cond.methodLink "ZoneFilesLaw" 99 ⟨"ZoneFilesLaw", "feed", "(LZoneFiles;IJ[J)I"⟩ ∈ T0 := tb_3 46 rfl rfl
theorem m_3_47 : Cond.static ⟨"ZoneFilesLaw", "feed", "(LZoneFiles;IJ[J)I"⟩ ∈ T0 := tb_3 47 rfl rfl
theorem m_3_123 : Cond.methodLink "ZoneFilesLaw" 109 ⟨"ZoneFilesLaw", "read", "(LZoneFiles;I[J)I"⟩ ∈ T0 := tb_3 123 rfl rfl
theorem m_3_124 : Cond.static ⟨"ZoneFilesLaw", "read", "(LZoneFiles;I[J)I"⟩ ∈ T0 := tb_3 124 rfl rfl
theorem m_4_208 : Cond.methodLink "ZoneFilesLaw" 113 ⟨"ZoneFilesLaw", "rule", "(LZoneFiles;IZ[J)I"⟩ ∈ T0 := tb_4 208 rfl rfl
theorem m_4_209 : Cond.static ⟨"ZoneFilesLaw", "rule", "(LZoneFiles;IZ[J)I"⟩ ∈ T0 := tb_4 209 rfl rfl
theorem m_4_219 : Cond.methodLink "ZoneFilesLaw" 125 ⟨"ZoneFilesLaw", "zone", "(LZoneFiles;II[J)I"⟩ ∈ T0 := tb_4 219 rfl rfl
theorem m_4_220 : Cond.static ⟨"ZoneFilesLaw", "zone", "(LZoneFiles;II[J)I"⟩ ∈ T0 := tb_4 220 rfl rfl
theorem m_4_227 : Cond.methodLink "ZoneFilesLaw" 129 ⟨"ZoneFilesLaw", "time", "(LZoneFiles;II[J)I"⟩ ∈ T0 := tb_4 227 rfl rfl
theorem m_4_228 : Cond.static ⟨"ZoneFilesLaw", "time", "(LZoneFiles;II[J)I"⟩ ∈ T0 := tb_4 228 rfl rfl
theorem m_4_238 : Cond.methodLink "ZoneFilesLaw" 132 ⟨"ZoneFilesLaw", "typeAt", "(LZoneFiles;II[J)I"⟩ ∈ T0 := tb_4 238 rfl rfl
theorem m_4_239 : Cond.static ⟨"ZoneFilesLaw", "typeAt", "(LZoneFiles;II[J)I"⟩ ∈ T0 := tb_4 239 rfl rfl
theorem m_5_5 : Cond.methodLink "ZoneFilesLaw" 135 ⟨"ZoneFilesLaw", "type", "(LZoneFiles;III[J)I"⟩ ∈ T0 := tb_5 5 rfl rfl
theorem m_5_6 : Cond.static ⟨"ZoneFilesLaw", "type", "(LZoneFiles;III[J)I"⟩ ∈ T0 := tb_5 6 rfl rfl
theorem m_5_14 : Cond.methodLink "ZoneFilesLaw" 139 ⟨"ZoneFilesLaw", "letter", "(LZoneFiles;III[J)I"⟩ ∈ T0 := tb_5 14 rfl rfl
theorem m_5_15 : Cond.static ⟨"ZoneFilesLaw", "letter", "(LZoneFiles;III[J)I"⟩ ∈ T0 := tb_5 15 rfl rfl
theorem m_5_22 : Cond.methodLink "ZoneFilesLaw" 142 ⟨"ZoneFilesLaw", "leap", "(LZoneFiles;III[J)I"⟩ ∈ T0 := tb_5 22 rfl rfl
theorem m_5_23 : Cond.static ⟨"ZoneFilesLaw", "leap", "(LZoneFiles;III[J)I"⟩ ∈ T0 := tb_5 23 rfl rfl
theorem m_5_29 : Cond.methodLink "ZoneFilesLaw" 145 ⟨"ZoneFilesLaw", "at", "(LZoneFiles;IJI[J)I"⟩ ∈ T0 := tb_5 29 rfl rfl
theorem m_5_30 : Cond.static ⟨"ZoneFilesLaw", "at", "(LZoneFiles;IJI[J)I"⟩ ∈ T0 := tb_5 30 rfl rfl
theorem m_5_45 : Cond.methodLink "ZoneFilesLaw" 149 ⟨"ZoneFilesLaw", "name", "(LZoneFiles;IJI[J)I"⟩ ∈ T0 := tb_5 45 rfl rfl
theorem m_5_46 : Cond.static ⟨"ZoneFilesLaw", "name", "(LZoneFiles;IJI[J)I"⟩ ∈ T0 := tb_5 46 rfl rfl
theorem m_5_70 : Cond.methodLink "ZoneFilesLaw" 152 ⟨"ZoneFilesLaw", "clock", "(LZoneFiles;JI[J)I"⟩ ∈ T0 := tb_5 70 rfl rfl
theorem m_5_71 : Cond.static ⟨"ZoneFilesLaw", "clock", "(LZoneFiles;JI[J)I"⟩ ∈ T0 := tb_5 71 rfl rfl
theorem m_5_95 : Cond.methodLink "ZoneFilesLaw" 156 ⟨"ZoneFilesLaw", "seconds", "(LZoneFiles;JIII[J)I"⟩ ∈ T0 := tb_5 95 rfl rfl
theorem m_5_96 : Cond.static ⟨"ZoneFilesLaw", "seconds", "(LZoneFiles;JIII[J)I"⟩ ∈ T0 := tb_5 96 rfl rfl
theorem m_5_111 : Cond.methodLink "ZoneFilesLaw" 160 ⟨"ZoneFilesLaw", "find", "(LZoneFiles;IJ[J)I"⟩ ∈ T0 := tb_5 111 rfl rfl
theorem m_5_112 : Cond.static ⟨"ZoneFilesLaw", "find", "(LZoneFiles;IJ[J)I"⟩ ∈ T0 := tb_5 112 rfl rfl
theorem m_5_122 : Cond.methodLink "ZoneFilesLaw" 163 ⟨"ZoneFilesLaw", "found", "(LZoneFiles;I[J)I"⟩ ∈ T0 := tb_5 122 rfl rfl
theorem m_5_123 : Cond.static ⟨"ZoneFilesLaw", "found", "(LZoneFiles;I[J)I"⟩ ∈ T0 := tb_5 123 rfl rfl
theorem m_5_129 : Cond.methodLink "ZoneFilesLaw" 166 ⟨"ZoneFilesLaw", "next", "(LZoneFiles;IJ[J)I"⟩ ∈ T0 := tb_5 129 rfl rfl
theorem m_5_130 : Cond.static ⟨"ZoneFilesLaw", "next", "(LZoneFiles;IJ[J)I"⟩ ∈ T0 := tb_5 130 rfl rfl
theorem m_5_193 : Cond.methodLink "ZoneFilesLaw" 169 ⟨"ZoneFilesLaw", "last", "(LZoneFiles;IJ[J)I"⟩ ∈ T0 := tb_5 193 rfl rfl
theorem m_5_194 : Cond.static ⟨"ZoneFilesLaw", "last", "(LZoneFiles;IJ[J)I"⟩ ∈ T0 := tb_5 194 rfl rfl
theorem m_5_213 : Cond.methodLink "ZoneFilesLaw" 172 ⟨"ZoneFilesLaw", "stretch", "(LZoneFiles;II[J)I"⟩ ∈ T0 := tb_5 213 rfl rfl
theorem m_5_214 : Cond.static ⟨"ZoneFilesLaw", "stretch", "(LZoneFiles;II[J)I"⟩ ∈ T0 := tb_5 214 rfl rfl
theorem m_6_6 : Cond.methodLink "ZoneFilesLaw" 175 ⟨"ZoneFilesLaw", "write", "(LZoneFiles;II[J)I"⟩ ∈ T0 := tb_6 6 rfl rfl
theorem m_6_7 : Cond.static ⟨"ZoneFilesLaw", "write", "(LZoneFiles;II[J)I"⟩ ∈ T0 := tb_6 7 rfl rfl
theorem m_6_47 : Cond.methodLink "ZoneFilesLaw" 178 ⟨"ZoneFilesLaw", "out", "(LZoneFiles;I[J)I"⟩ ∈ T0 := tb_6 47 rfl rfl
theorem m_6_48 : Cond.static ⟨"ZoneFilesLaw", "out", "(LZoneFiles;I[J)I"⟩ ∈ T0 := tb_6 48 rfl rfl
theorem m_6_54 : Cond.methodLink "ZoneFilesLaw" 185 ⟨"ZoneFilesLaw", "told", "(LZoneFiles;I[J)I"⟩ ∈ T0 := tb_6 54 rfl rfl
theorem m_6_55 : Cond.static ⟨"ZoneFilesLaw", "told", "(LZoneFiles;I[J)I"⟩ ∈ T0 := tb_6 55 rfl rfl
theorem m_6_62 : Cond.methodLink "ZoneFilesLaw" 188 ⟨"ZoneFilesLaw", "row", "(LZoneFiles;II[J)I"⟩ ∈ T0 := tb_6 62 rfl rfl
theorem m_6_63 : Cond.static ⟨"ZoneFilesLaw", "row", "(LZoneFiles;II[J)I"⟩ ∈ T0 := tb_6 63 rfl rfl
theorem m_7_105 : Cond.methodLink "ZoneFilesLaw" 105 ⟨"ZoneFilesModel", "thrown", "()I"⟩ ∈ T0 := tb_7 105 rfl rfl
theorem m_7_106 : Cond.instanceMethod ⟨"ZoneFilesModel", "thrown", "()I"⟩ ∈ T0 := tb_7 106 rfl rfl
theorem m_7_107 : Cond.selects "ZoneFilesModel" ⟨"ZoneFilesModel", "thrown", "()I"⟩ ⟨"ZoneFilesModel", "thrown", "()I"⟩ ∈ T0 := tb_7 107 rfl rfl
theorem m_7_108 : Cond.code ⟨"ZoneFilesModel", "thrown", "()I"⟩ prog_14_method_2_code 1 (some .int) ∈ T0 := tb_7 108 rfl rfl
theorem m_7_109 : Cond.methodLink "ZoneFilesLaw" 104 ⟨"ZoneFilesModel", "feed", "(IJ)I"⟩ ∈ T0 := tb_7 109 rfl rfl
theorem m_7_110 : Cond.instanceMethod ⟨"ZoneFilesModel", "feed", "(IJ)I"⟩ ∈ T0 := tb_7 110 rfl rfl
theorem m_7_111 : Cond.selects "ZoneFilesModel" ⟨"ZoneFilesModel", "feed", "(IJ)I"⟩ ⟨"ZoneFilesModel", "feed", "(IJ)I"⟩ ∈ T0 := tb_7 111 rfl rfl
theorem m_7_112 : Cond.code ⟨"ZoneFilesModel", "feed", "(IJ)I"⟩ prog_14_method_3_code 5 (some .int) ∈ T0 := tb_7 112 rfl rfl
theorem m_7_114 : Cond.methodLink "ZoneFilesLaw" 116 ⟨"ZoneFilesModel", "rule", "(IZ)I"⟩ ∈ T0 := tb_7 114 rfl rfl
theorem m_7_115 : Cond.instanceMethod ⟨"ZoneFilesModel", "rule", "(IZ)I"⟩ ∈ T0 := tb_7 115 rfl rfl
theorem m_7_116 : Cond.selects "ZoneFilesModel" ⟨"ZoneFilesModel", "rule", "(IZ)I"⟩ ⟨"ZoneFilesModel", "rule", "(IZ)I"⟩ ∈ T0 := tb_7 116 rfl rfl
theorem m_7_117 : Cond.code ⟨"ZoneFilesModel", "rule", "(IZ)I"⟩ prog_14_method_18_code 5 (some .int) ∈ T0 := tb_7 117 rfl rfl
theorem m_7_118 : Cond.methodLink "ZoneFilesLaw" 112 ⟨"ZoneFilesModel", "read", "(I)I"⟩ ∈ T0 := tb_7 118 rfl rfl
theorem m_7_119 : Cond.instanceMethod ⟨"ZoneFilesModel", "read", "(I)I"⟩ ∈ T0 := tb_7 119 rfl rfl
theorem m_7_120 : Cond.selects "ZoneFilesModel" ⟨"ZoneFilesModel", "read", "(I)I"⟩ ⟨"ZoneFilesModel", "read", "(I)I"⟩ ∈ T0 := tb_7 120 rfl rfl
theorem m_7_121 : Cond.code ⟨"ZoneFilesModel", "read", "(I)I"⟩ prog_14_method_34_code 3 (some .int) ∈ T0 := tb_7 121 rfl rfl
theorem m_8_28 : Cond.methodLink "ZoneFilesLaw" 155 ⟨"ZoneFilesModel", "clock", "(JI)J"⟩ ∈ T0 := tb_8 28 rfl rfl
theorem m_8_29 : Cond.instanceMethod ⟨"ZoneFilesModel", "clock", "(JI)J"⟩ ∈ T0 := tb_8 29 rfl rfl
theorem m_8_30 : Cond.selects "ZoneFilesModel" ⟨"ZoneFilesModel", "clock", "(JI)J"⟩ ⟨"ZoneFilesModel", "clock", "(JI)J"⟩ ∈ T0 := tb_8 30 rfl rfl
theorem m_8_31 : Cond.code ⟨"ZoneFilesModel", "clock", "(JI)J"⟩ prog_14_method_42_code 8 (some .long) ∈ T0 := tb_8 31 rfl rfl
theorem m_8_34 : Cond.methodLink "ZoneFilesLaw" 159 ⟨"ZoneFilesModel", "seconds", "(JIII)J"⟩ ∈ T0 := tb_8 34 rfl rfl
theorem m_8_35 : Cond.instanceMethod ⟨"ZoneFilesModel", "seconds", "(JIII)J"⟩ ∈ T0 := tb_8 35 rfl rfl
theorem m_8_36 : Cond.selects "ZoneFilesModel" ⟨"ZoneFilesModel", "seconds", "(JIII)J"⟩ ⟨"ZoneFilesModel", "seconds", "(JIII)J"⟩ ∈ T0 := tb_8 36 rfl rfl
theorem m_8_37 : Cond.code ⟨"ZoneFilesModel", "seconds", "(JIII)J"⟩ prog_14_method_43_code 7 (some .long) ∈ T0 := tb_8 37 rfl rfl
theorem m_8_41 : Cond.methodLink "ZoneFilesLaw" 148 ⟨"ZoneFilesModel", "at", "(IJI)I"⟩ ∈ T0 := tb_8 41 rfl rfl
theorem m_8_42 : Cond.instanceMethod ⟨"ZoneFilesModel", "at", "(IJI)I"⟩ ∈ T0 := tb_8 42 rfl rfl
theorem m_8_43 : Cond.selects "ZoneFilesModel" ⟨"ZoneFilesModel", "at", "(IJI)I"⟩ ⟨"ZoneFilesModel", "at", "(IJI)I"⟩ ∈ T0 := tb_8 43 rfl rfl
theorem m_8_44 : Cond.code ⟨"ZoneFilesModel", "at", "(IJI)I"⟩ prog_14_method_56_code 5 (some .int) ∈ T0 := tb_8 44 rfl rfl
theorem m_8_54 : Cond.methodLink "ZoneFilesLaw" 151 ⟨"ZoneFilesModel", "name", "(IJI)I"⟩ ∈ T0 := tb_8 54 rfl rfl
theorem m_8_55 : Cond.instanceMethod ⟨"ZoneFilesModel", "name", "(IJI)I"⟩ ∈ T0 := tb_8 55 rfl rfl
theorem m_8_56 : Cond.selects "ZoneFilesModel" ⟨"ZoneFilesModel", "name", "(IJI)I"⟩ ⟨"ZoneFilesModel", "name", "(IJI)I"⟩ ∈ T0 := tb_8 56 rfl rfl
theorem m_8_57 : Cond.code ⟨"ZoneFilesModel", "name", "(IJI)I"⟩ prog_14_method_57_code 5 (some .int) ∈ T0 := tb_8 57 rfl rfl
theorem m_8_58 : Cond.methodLink "ZoneFilesLaw" 162 ⟨"ZoneFilesModel", "find", "(IJ)I"⟩ ∈ T0 := tb_8 58 rfl rfl
theorem m_8_59 : Cond.instanceMethod ⟨"ZoneFilesModel", "find", "(IJ)I"⟩ ∈ T0 := tb_8 59 rfl rfl
theorem m_8_60 : Cond.selects "ZoneFilesModel" ⟨"ZoneFilesModel", "find", "(IJ)I"⟩ ⟨"ZoneFilesModel", "find", "(IJ)I"⟩ ∈ T0 := tb_8 60 rfl rfl
theorem m_8_61 : Cond.code ⟨"ZoneFilesModel", "find", "(IJ)I"⟩ prog_14_method_59_code 5 (some .int) ∈ T0 := tb_8 61 rfl rfl
theorem m_8_66 : Cond.methodLink "ZoneFilesLaw" 165 ⟨"ZoneFilesModel", "found", "(I)J"⟩ ∈ T0 := tb_8 66 rfl rfl
theorem m_8_67 : Cond.instanceMethod ⟨"ZoneFilesModel", "found", "(I)J"⟩ ∈ T0 := tb_8 67 rfl rfl
theorem m_8_68 : Cond.selects "ZoneFilesModel" ⟨"ZoneFilesModel", "found", "(I)J"⟩ ⟨"ZoneFilesModel", "found", "(I)J"⟩ ∈ T0 := tb_8 68 rfl rfl
theorem m_8_69 : Cond.code ⟨"ZoneFilesModel", "found", "(I)J"⟩ prog_14_method_60_code 2 (some .long) ∈ T0 := tb_8 69 rfl rfl
theorem m_8_70 : Cond.methodLink "ZoneFilesLaw" 168 ⟨"ZoneFilesModel", "next", "(IJ)J"⟩ ∈ T0 := tb_8 70 rfl rfl
theorem m_8_71 : Cond.instanceMethod ⟨"ZoneFilesModel", "next", "(IJ)J"⟩ ∈ T0 := tb_8 71 rfl rfl
theorem m_8_72 : Cond.selects "ZoneFilesModel" ⟨"ZoneFilesModel", "next", "(IJ)J"⟩ ⟨"ZoneFilesModel", "next", "(IJ)J"⟩ ∈ T0 := tb_8 72 rfl rfl
theorem m_8_73 : Cond.code ⟨"ZoneFilesModel", "next", "(IJ)J"⟩ prog_14_method_64_code 9 (some .long) ∈ T0 := tb_8 73 rfl rfl
theorem m_8_84 : Cond.methodLink "ZoneFilesLaw" 171 ⟨"ZoneFilesModel", "last", "(IJ)J"⟩ ∈ T0 := tb_8 84 rfl rfl
theorem m_8_85 : Cond.instanceMethod ⟨"ZoneFilesModel", "last", "(IJ)J"⟩ ∈ T0 := tb_8 85 rfl rfl
theorem m_8_86 : Cond.selects "ZoneFilesModel" ⟨"ZoneFilesModel", "last", "(IJ)J"⟩ ⟨"ZoneFilesModel", "last", "(IJ)J"⟩ ∈ T0 := tb_8 86 rfl rfl
theorem m_8_87 : Cond.code ⟨"ZoneFilesModel", "last", "(IJ)J"⟩ prog_14_method_65_code 12 (some .long) ∈ T0 := tb_8 87 rfl rfl
theorem m_8_92 : Cond.methodLink "ZoneFilesLaw" 174 ⟨"ZoneFilesModel", "stretch", "(II)I"⟩ ∈ T0 := tb_8 92 rfl rfl
theorem m_8_93 : Cond.instanceMethod ⟨"ZoneFilesModel", "stretch", "(II)I"⟩ ∈ T0 := tb_8 93 rfl rfl
theorem m_8_94 : Cond.selects "ZoneFilesModel" ⟨"ZoneFilesModel", "stretch", "(II)I"⟩ ⟨"ZoneFilesModel", "stretch", "(II)I"⟩ ∈ T0 := tb_8 94 rfl rfl
theorem m_8_95 : Cond.code ⟨"ZoneFilesModel", "stretch", "(II)I"⟩ prog_14_method_69_code 14 (some .int) ∈ T0 := tb_8 95 rfl rfl
theorem m_8_108 : Cond.methodLink "ZoneFilesLaw" 177 ⟨"ZoneFilesModel", "write", "(II)I"⟩ ∈ T0 := tb_8 108 rfl rfl
theorem m_8_109 : Cond.instanceMethod ⟨"ZoneFilesModel", "write", "(II)I"⟩ ∈ T0 := tb_8 109 rfl rfl
theorem m_8_110 : Cond.selects "ZoneFilesModel" ⟨"ZoneFilesModel", "write", "(II)I"⟩ ⟨"ZoneFilesModel", "write", "(II)I"⟩ ∈ T0 := tb_8 110 rfl rfl
theorem m_8_111 : Cond.code ⟨"ZoneFilesModel", "write", "(II)I"⟩ prog_14_method_75_code 4 (some .int) ∈ T0 := tb_8 111 rfl rfl
theorem m_8_133 : Cond.methodLink "ZoneFilesLaw" 180 ⟨"ZoneFilesModel", "out", "(I)I"⟩ ∈ T0 := tb_8 133 rfl rfl
theorem m_8_134 : Cond.instanceMethod ⟨"ZoneFilesModel", "out", "(I)I"⟩ ∈ T0 := tb_8 134 rfl rfl
theorem m_8_135 : Cond.selects "ZoneFilesModel" ⟨"ZoneFilesModel", "out", "(I)I"⟩ ⟨"ZoneFilesModel", "out", "(I)I"⟩ ∈ T0 := tb_8 135 rfl rfl
theorem m_8_136 : Cond.code ⟨"ZoneFilesModel", "out", "(I)I"⟩ prog_14_method_76_code 2 (some .int) ∈ T0 := tb_8 136 rfl rfl
theorem m_8_137 : Cond.methodLink "ZoneFilesLaw" 184 ⟨"ZoneFilesModel", "again", "()I"⟩ ∈ T0 := tb_8 137 rfl rfl
theorem m_8_138 : Cond.instanceMethod ⟨"ZoneFilesModel", "again", "()I"⟩ ∈ T0 := tb_8 138 rfl rfl
theorem m_8_139 : Cond.selects "ZoneFilesModel" ⟨"ZoneFilesModel", "again", "()I"⟩ ⟨"ZoneFilesModel", "again", "()I"⟩ ∈ T0 := tb_8 139 rfl rfl
theorem m_8_140 : Cond.code ⟨"ZoneFilesModel", "again", "()I"⟩ prog_14_method_77_code 2 (some .int) ∈ T0 := tb_8 140 rfl rfl
theorem m_8_141 : Cond.methodLink "ZoneFilesLaw" 124 ⟨"ZoneFilesModel", "place", "()I"⟩ ∈ T0 := tb_8 141 rfl rfl
theorem m_8_142 : Cond.instanceMethod ⟨"ZoneFilesModel", "place", "()I"⟩ ∈ T0 := tb_8 142 rfl rfl
theorem m_8_143 : Cond.selects "ZoneFilesModel" ⟨"ZoneFilesModel", "place", "()I"⟩ ⟨"ZoneFilesModel", "place", "()I"⟩ ∈ T0 := tb_8 143 rfl rfl
theorem m_8_144 : Cond.code ⟨"ZoneFilesModel", "place", "()I"⟩ prog_14_method_78_code 1 (some .int) ∈ T0 := tb_8 144 rfl rfl
theorem m_8_145 : Cond.methodLink "ZoneFilesLaw" 128 ⟨"ZoneFilesModel", "zone", "(II)I"⟩ ∈ T0 := tb_8 145 rfl rfl
theorem m_8_146 : Cond.instanceMethod ⟨"ZoneFilesModel", "zone", "(II)I"⟩ ∈ T0 := tb_8 146 rfl rfl
theorem m_8_147 : Cond.selects "ZoneFilesModel" ⟨"ZoneFilesModel", "zone", "(II)I"⟩ ⟨"ZoneFilesModel", "zone", "(II)I"⟩ ∈ T0 := tb_8 147 rfl rfl
theorem m_8_148 : Cond.code ⟨"ZoneFilesModel", "zone", "(II)I"⟩ prog_14_method_79_code 3 (some .int) ∈ T0 := tb_8 148 rfl rfl
theorem m_8_149 : Cond.methodLink "ZoneFilesLaw" 131 ⟨"ZoneFilesModel", "time", "(II)J"⟩ ∈ T0 := tb_8 149 rfl rfl
theorem m_8_150 : Cond.instanceMethod ⟨"ZoneFilesModel", "time", "(II)J"⟩ ∈ T0 := tb_8 150 rfl rfl
theorem m_8_151 : Cond.selects "ZoneFilesModel" ⟨"ZoneFilesModel", "time", "(II)J"⟩ ⟨"ZoneFilesModel", "time", "(II)J"⟩ ∈ T0 := tb_8 151 rfl rfl
theorem m_8_152 : Cond.code ⟨"ZoneFilesModel", "time", "(II)J"⟩ prog_14_method_80_code 3 (some .long) ∈ T0 := tb_8 152 rfl rfl
theorem m_8_153 : Cond.methodLink "ZoneFilesLaw" 134 ⟨"ZoneFilesModel", "typeAt", "(II)I"⟩ ∈ T0 := tb_8 153 rfl rfl
theorem m_8_154 : Cond.instanceMethod ⟨"ZoneFilesModel", "typeAt", "(II)I"⟩ ∈ T0 := tb_8 154 rfl rfl
theorem m_8_155 : Cond.selects "ZoneFilesModel" ⟨"ZoneFilesModel", "typeAt", "(II)I"⟩ ⟨"ZoneFilesModel", "typeAt", "(II)I"⟩ ∈ T0 := tb_8 155 rfl rfl
theorem m_8_156 : Cond.code ⟨"ZoneFilesModel", "typeAt", "(II)I"⟩ prog_14_method_81_code 3 (some .int) ∈ T0 := tb_8 156 rfl rfl
theorem m_8_157 : Cond.methodLink "ZoneFilesLaw" 138 ⟨"ZoneFilesModel", "type", "(III)I"⟩ ∈ T0 := tb_8 157 rfl rfl
theorem m_8_158 : Cond.instanceMethod ⟨"ZoneFilesModel", "type", "(III)I"⟩ ∈ T0 := tb_8 158 rfl rfl
theorem m_8_159 : Cond.selects "ZoneFilesModel" ⟨"ZoneFilesModel", "type", "(III)I"⟩ ⟨"ZoneFilesModel", "type", "(III)I"⟩ ∈ T0 := tb_8 159 rfl rfl
theorem m_8_160 : Cond.code ⟨"ZoneFilesModel", "type", "(III)I"⟩ prog_14_method_82_code 5 (some .int) ∈ T0 := tb_8 160 rfl rfl
theorem m_8_161 : Cond.methodLink "ZoneFilesLaw" 141 ⟨"ZoneFilesModel", "letter", "(III)I"⟩ ∈ T0 := tb_8 161 rfl rfl
theorem m_8_162 : Cond.instanceMethod ⟨"ZoneFilesModel", "letter", "(III)I"⟩ ∈ T0 := tb_8 162 rfl rfl
theorem m_8_163 : Cond.selects "ZoneFilesModel" ⟨"ZoneFilesModel", "letter", "(III)I"⟩ ⟨"ZoneFilesModel", "letter", "(III)I"⟩ ∈ T0 := tb_8 163 rfl rfl
theorem m_8_164 : Cond.code ⟨"ZoneFilesModel", "letter", "(III)I"⟩ prog_14_method_83_code 4 (some .int) ∈ T0 := tb_8 164 rfl rfl
theorem m_8_165 : Cond.methodLink "ZoneFilesLaw" 144 ⟨"ZoneFilesModel", "leap", "(III)J"⟩ ∈ T0 := tb_8 165 rfl rfl
theorem m_8_166 : Cond.instanceMethod ⟨"ZoneFilesModel", "leap", "(III)J"⟩ ∈ T0 := tb_8 166 rfl rfl
theorem m_8_167 : Cond.selects "ZoneFilesModel" ⟨"ZoneFilesModel", "leap", "(III)J"⟩ ⟨"ZoneFilesModel", "leap", "(III)J"⟩ ∈ T0 := tb_8 167 rfl rfl
theorem m_8_168 : Cond.code ⟨"ZoneFilesModel", "leap", "(III)J"⟩ prog_14_method_84_code 4 (some .long) ∈ T0 := tb_8 168 rfl rfl
theorem m_8_169 : Cond.methodLink "ZoneFilesLaw" 120 ⟨"ZoneFilesModel", "table", "()I"⟩ ∈ T0 := tb_8 169 rfl rfl
theorem m_8_170 : Cond.instanceMethod ⟨"ZoneFilesModel", "table", "()I"⟩ ∈ T0 := tb_8 170 rfl rfl
theorem m_8_171 : Cond.selects "ZoneFilesModel" ⟨"ZoneFilesModel", "table", "()I"⟩ ⟨"ZoneFilesModel", "table", "()I"⟩ ∈ T0 := tb_8 171 rfl rfl
theorem m_8_172 : Cond.code ⟨"ZoneFilesModel", "table", "()I"⟩ prog_14_method_94_code 3 (some .int) ∈ T0 := tb_8 172 rfl rfl
theorem m_8_210 : Cond.methodLink "ZoneFilesLaw" 187 ⟨"ZoneFilesModel", "told", "(I)J"⟩ ∈ T0 := tb_8 210 rfl rfl
theorem m_8_211 : Cond.instanceMethod ⟨"ZoneFilesModel", "told", "(I)J"⟩ ∈ T0 := tb_8 211 rfl rfl
theorem m_8_212 : Cond.selects "ZoneFilesModel" ⟨"ZoneFilesModel", "told", "(I)J"⟩ ⟨"ZoneFilesModel", "told", "(I)J"⟩ ∈ T0 := tb_8 212 rfl rfl
theorem m_8_213 : Cond.code ⟨"ZoneFilesModel", "told", "(I)J"⟩ prog_14_method_95_code 2 (some .long) ∈ T0 := tb_8 213 rfl rfl
theorem m_8_214 : Cond.methodLink "ZoneFilesLaw" 190 ⟨"ZoneFilesModel", "row", "(II)J"⟩ ∈ T0 := tb_8 214 rfl rfl
theorem m_8_215 : Cond.instanceMethod ⟨"ZoneFilesModel", "row", "(II)J"⟩ ∈ T0 := tb_8 215 rfl rfl
theorem m_8_216 : Cond.selects "ZoneFilesModel" ⟨"ZoneFilesModel", "row", "(II)J"⟩ ⟨"ZoneFilesModel", "row", "(II)J"⟩ ∈ T0 := tb_8 216 rfl rfl
theorem m_8_217 : Cond.code ⟨"ZoneFilesModel", "row", "(II)J"⟩ prog_14_method_96_code 3 (some .long) ∈ T0 := tb_8 217 rfl rfl
theorem m_8_218 : Cond.methodLink "ZoneFilesLaw" 195 ⟨"ZoneFilesModel", "atomic", "(J)J"⟩ ∈ T0 := tb_8 218 rfl rfl
theorem m_8_219 : Cond.instanceMethod ⟨"ZoneFilesModel", "atomic", "(J)J"⟩ ∈ T0 := tb_8 219 rfl rfl
theorem m_8_220 : Cond.selects "ZoneFilesModel" ⟨"ZoneFilesModel", "atomic", "(J)J"⟩ ⟨"ZoneFilesModel", "atomic", "(J)J"⟩ ∈ T0 := tb_8 220 rfl rfl
theorem m_8_221 : Cond.code ⟨"ZoneFilesModel", "atomic", "(J)J"⟩ prog_14_method_97_code 5 (some .long) ∈ T0 := tb_8 221 rfl rfl
theorem m_8_222 : Cond.methodLink "ZoneFilesLaw" 204 ⟨"ZoneFilesModel", "isLeap", "(J)Z"⟩ ∈ T0 := tb_8 222 rfl rfl
theorem m_8_223 : Cond.instanceMethod ⟨"ZoneFilesModel", "isLeap", "(J)Z"⟩ ∈ T0 := tb_8 223 rfl rfl
theorem m_8_224 : Cond.selects "ZoneFilesModel" ⟨"ZoneFilesModel", "isLeap", "(J)Z"⟩ ⟨"ZoneFilesModel", "isLeap", "(J)Z"⟩ ∈ T0 := tb_8 224 rfl rfl
theorem m_8_225 : Cond.code ⟨"ZoneFilesModel", "isLeap", "(J)Z"⟩ prog_14_method_99_code 4 (some .boolean) ∈ T0 := tb_8 225 rfl rfl
theorem m_8_230 : Cond.methodLink "ZoneFilesLaw" 199 ⟨"ZoneFilesModel", "instant", "(J)J"⟩ ∈ T0 := tb_8 230 rfl rfl
theorem m_8_231 : Cond.instanceMethod ⟨"ZoneFilesModel", "instant", "(J)J"⟩ ∈ T0 := tb_8 231 rfl rfl
theorem m_8_232 : Cond.selects "ZoneFilesModel" ⟨"ZoneFilesModel", "instant", "(J)J"⟩ ⟨"ZoneFilesModel", "instant", "(J)J"⟩ ∈ T0 := tb_8 232 rfl rfl
theorem m_8_233 : Cond.code ⟨"ZoneFilesModel", "instant", "(J)J"⟩ prog_14_method_100_code 6 (some .long) ∈ T0 := tb_8 233 rfl rfl
theorem m_8_234 : Cond.constantLong "ZoneFilesLaw" 97 4294967295 ∈ T0 := tb_8 234 rfl rfl
/-! ===== the law's loop ===== -/
def phi (S : CS) : Nat := S.1.2.1 + S.1.2.2.2.2.1 + ((S.2 0).2.2.2.2.2.2.2.2.2.2.2.2.2.2.1 + (S.2 0).2.2.2.2.2.2.2.2.2.2.2.2.2.2.2.2.2.2.2.2.2.2.2.2.2.2.2.2.1 + ((S.2 1).2.2.2.2.2.2.2.2.2.2.2.2.2.2.1 + (S.2 1).2.2.2.2.2.2.2.2.2.2.2.2.2.2.2.2.2.2.2.2.2.2.2.2.2.2.2.2.1) + ((S.2 2).2.2.2.2.2.2.2.2.2.2.2.2.2.2.1 + (S.2 2).2.2.2.2.2.2.2.2.2.2.2.2.2.2.2.2.2.2.2.2.2.2.2.2.2.2.2.2.1) + ((S.2 3).2.2.2.2.2.2.2.2.2.2.2.2.2.2.1 + (S.2 3).2.2.2.2.2.2.2.2.2.2.2.2.2.2.2.2.2.2.2.2.2.2.2.2.2.2.2.2.1) + ((S.2 4).2.2.2.2.2.2.2.2.2.2.2.2.2.2.1 + (S.2 4).2.2.2.2.2.2.2.2.2.2.2.2.2.2.2.2.2.2.2.2.2.2.2.2.2.2.2.2.1))
def STWj (nf : Nat) (RR : CS → MS → Prop) (S : CS) (c : Option (Int32 × Int64 × CS × Nat × Nat)) (q : Option (Int64 × MS)) : Prop := ∃ (k : Int32) (ans : Int64) (S' : CS) (kc ks : Nat) (r0 : Int64) (M' : MS), c = some (k, ans, S', kc, ks) ∧ q = some (r0, M') ∧ f_Mo_thrown nf M'.1 M'.2.1 M'.2.2.1 M'.2.2.2 = some k ∧ (k = 0 → ans = r0) ∧ RR S' M' ∧ kc + phi S ≤ 10 + phi S' ∧ ks + 2 * phi S ≤ 100 + 2 * phi S'
def STWi (nf : Nat) (RR : CS → MS → Prop) (S : CS) (c : Option (Int32 × Int64 × CS × Nat × Nat)) (q : Option (Int32 × MS)) : Prop := ∃ (k : Int32) (ans : Int64) (S' : CS) (kc ks : Nat) (r0 : Int32) (M' : MS), c = some (k, ans, S', kc, ks) ∧ q = some (r0, M') ∧ f_Mo_thrown nf M'.1 M'.2.1 M'.2.2.1 M'.2.2.2 = some k ∧ (k = 0 → ans = r0.toInt64) ∧ RR S' M' ∧ kc + phi S ≤ 10 + phi S' ∧ ks + 2 * phi S ≤ 100 + 2 * phi S'
def STDj (RR : CS → MS → Prop) (S : CS) (c : Option (Int64 × CS × Nat × Nat)) (q : Option (Int64 × MS)) : Prop := ∃ (rc : Int64) (S' : CS) (kc ks : Nat) (r0 : Int64) (M' : MS), c = some (rc, S', kc, ks) ∧ q = some (r0, M') ∧ rc = r0 ∧ RR S' M' ∧ kc + phi S ≤ 10 + phi S' ∧ ks + 2 * phi S ≤ 100 + 2 * phi S'
def STDi (RR : CS → MS → Prop) (S : CS) (c : Option (Int32 × CS × Nat × Nat)) (q : Option (Int32 × MS)) : Prop := ∃ (rc : Int32) (S' : CS) (kc ks : Nat) (r0 : Int32) (M' : MS), c = some (rc, S', kc, ks) ∧ q = some (r0, M') ∧ rc = r0 ∧ RR S' M' ∧ kc + phi S ≤ 10 + phi S' ∧ ks + 2 * phi S ≤ 100 + 2 * phi S'
def STEPS (nf : Nat) (RR : CS → MS → Prop) : Prop :=
  (∀ (S : CS) (M : MS) (p0 : Int32) (p1 : Int64), RR S M → STWi nf RR S (cq_feed nf S p0 p1) (f_Mo_feed nf p0 p1 M.1 M.2.1 M.2.2.1 M.2.2.2)) ∧
  (∀ (S : CS) (M : MS) (p0 : Int32), RR S M → STWi nf RR S (cq_read nf S p0) (f_Mo_read nf p0 M.1 M.2.1 M.2.2.1 M.2.2.2)) ∧
  (∀ (S : CS) (M : MS) (p0 : Int32) (p1 : Int32), (p1 = 0 ∨ p1 = 1) → RR S M → STWi nf RR S (cq_rule nf S p0 p1) (f_Mo_rule nf p0 p1 M.1 M.2.1 M.2.2.1 M.2.2.2)) ∧
  (∀ (S : CS) (M : MS), RR S M → STDi RR S (cq_table nf S) (f_Mo_table nf M.1 M.2.1 M.2.2.1 M.2.2.2)) ∧
  (∀ (S : CS) (M : MS), RR S M → STDi RR S (cq_place nf S) (f_Mo_place nf M.1 M.2.1 M.2.2.1 M.2.2.2)) ∧
  (∀ (S : CS) (M : MS) (p0 : Int32) (p1 : Int32), RR S M → STWi nf RR S (cq_zone nf S p0 p1) (f_Mo_zone nf p0 p1 M.1 M.2.1 M.2.2.1 M.2.2.2)) ∧
  (∀ (S : CS) (M : MS) (p0 : Int32) (p1 : Int32), RR S M → STWj nf RR S (cq_time nf S p0 p1) (f_Mo_time nf p0 p1 M.1 M.2.1 M.2.2.1 M.2.2.2)) ∧
  (∀ (S : CS) (M : MS) (p0 : Int32) (p1 : Int32), RR S M → STWi nf RR S (cq_typeAt nf S p0 p1) (f_Mo_typeAt nf p0 p1 M.1 M.2.1 M.2.2.1 M.2.2.2)) ∧
  (∀ (S : CS) (M : MS) (p0 : Int32) (p1 : Int32) (p2 : Int32), RR S M → STWi nf RR S (cq_type nf S p0 p1 p2) (f_Mo_type nf p0 p1 p2 M.1 M.2.1 M.2.2.1 M.2.2.2)) ∧
  (∀ (S : CS) (M : MS) (p0 : Int32) (p1 : Int32) (p2 : Int32), RR S M → STWi nf RR S (cq_letter nf S p0 p1 p2) (f_Mo_letter nf p0 p1 p2 M.1 M.2.1 M.2.2.1 M.2.2.2)) ∧
  (∀ (S : CS) (M : MS) (p0 : Int32) (p1 : Int32) (p2 : Int32), RR S M → STWj nf RR S (cq_leap nf S p0 p1 p2) (f_Mo_leap nf p0 p1 p2 M.1 M.2.1 M.2.2.1 M.2.2.2)) ∧
  (∀ (S : CS) (M : MS) (p0 : Int32) (p1 : Int64) (p2 : Int32), RR S M → STWi nf RR S (cq_at nf S p0 p1 p2) (f_Mo_at nf p0 p1 p2 M.1 M.2.1 M.2.2.1 M.2.2.2)) ∧
  (∀ (S : CS) (M : MS) (p0 : Int32) (p1 : Int64) (p2 : Int32), RR S M → STWi nf RR S (cq_name nf S p0 p1 p2) (f_Mo_name nf p0 p1 p2 M.1 M.2.1 M.2.2.1 M.2.2.2)) ∧
  (∀ (S : CS) (M : MS) (p0 : Int64) (p1 : Int32), RR S M → STWj nf RR S (cq_clock nf S p0 p1) (f_Mo_clock nf p0 p1 M.1 M.2.1 M.2.2.1 M.2.2.2)) ∧
  (∀ (S : CS) (M : MS) (p0 : Int64) (p1 : Int32) (p2 : Int32) (p3 : Int32), RR S M → STWj nf RR S (cq_seconds nf S p0 p1 p2 p3) (f_Mo_seconds nf p0 p1 p2 p3 M.1 M.2.1 M.2.2.1 M.2.2.2)) ∧
  (∀ (S : CS) (M : MS) (p0 : Int32) (p1 : Int64), RR S M → STWi nf RR S (cq_find nf S p0 p1) (f_Mo_find nf p0 p1 M.1 M.2.1 M.2.2.1 M.2.2.2)) ∧
  (∀ (S : CS) (M : MS) (p0 : Int32), RR S M → STWj nf RR S (cq_found nf S p0) (f_Mo_found nf p0 M.1 M.2.1 M.2.2.1 M.2.2.2)) ∧
  (∀ (S : CS) (M : MS) (p0 : Int32) (p1 : Int64), RR S M → STWj nf RR S (cq_next nf S p0 p1) (f_Mo_next nf p0 p1 M.1 M.2.1 M.2.2.1 M.2.2.2)) ∧
  (∀ (S : CS) (M : MS) (p0 : Int32) (p1 : Int64), RR S M → STWj nf RR S (cq_last nf S p0 p1) (f_Mo_last nf p0 p1 M.1 M.2.1 M.2.2.1 M.2.2.2)) ∧
  (∀ (S : CS) (M : MS) (p0 : Int32) (p1 : Int32), RR S M → STWi nf RR S (cq_stretch nf S p0 p1) (f_Mo_stretch nf p0 p1 M.1 M.2.1 M.2.2.1 M.2.2.2)) ∧
  (∀ (S : CS) (M : MS) (p0 : Int32) (p1 : Int32), RR S M → STWi nf RR S (cq_write nf S p0 p1) (f_Mo_write nf p0 p1 M.1 M.2.1 M.2.2.1 M.2.2.2)) ∧
  (∀ (S : CS) (M : MS) (p0 : Int32), RR S M → STWi nf RR S (cq_out nf S p0) (f_Mo_out nf p0 M.1 M.2.1 M.2.2.1 M.2.2.2)) ∧
  (∀ (S : CS) (M : MS), RR S M → STDi RR S (cq_again nf S) (f_Mo_again nf M.1 M.2.1 M.2.2.1 M.2.2.2)) ∧
  (∀ (S : CS) (M : MS) (p0 : Int32), RR S M → STWj nf RR S (cq_told nf S p0) (f_Mo_told nf p0 M.1 M.2.1 M.2.2.1 M.2.2.2)) ∧
  (∀ (S : CS) (M : MS) (p0 : Int32) (p1 : Int32), RR S M → STWj nf RR S (cq_row nf S p0 p1) (f_Mo_row nf p0 p1 M.1 M.2.1 M.2.2.1 M.2.2.2)) ∧
  (∀ (S : CS) (M : MS) (p0 : Int64), RR S M → STDj RR S (cq_atomic nf S p0) (f_Mo_atomic nf p0 M.1 M.2.1 M.2.2.1 M.2.2.2)) ∧
  (∀ (S : CS) (M : MS) (p0 : Int64), RR S M → STDj RR S (cq_instant nf S p0) (f_Mo_instant nf p0 M.1 M.2.1 M.2.2.1 M.2.2.2)) ∧
  (∀ (S : CS) (M : MS) (p0 : Int64), RR S M → STDi RR S (cq_isLeap nf S p0) (f_Mo_isLeap nf p0 M.1 M.2.1 M.2.2.1 M.2.2.2))
