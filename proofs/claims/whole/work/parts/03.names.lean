theorem m_1_45 : Cond.lays "ZoneFiles$Bytes" "ZoneFiles$Bytes" "row" "[B" ∈ T0 := tb_1 45 rfl rfl
theorem m_1_47 : Cond.lays "ZoneFiles$Bytes" "ZoneFiles$Bytes" "size" "I" ∈ T0 := tb_1 47 rfl rfl
theorem m_1_86 : Cond.lays "ZoneFiles$Edge" "ZoneFiles$Edge" "kind" "I" ∈ T0 := tb_1 86 rfl rfl
theorem m_1_88 : Cond.lays "ZoneFiles$Edge" "ZoneFiles$Edge" "month" "I" ∈ T0 := tb_1 88 rfl rfl
theorem m_1_90 : Cond.lays "ZoneFiles$Edge" "ZoneFiles$Edge" "week" "I" ∈ T0 := tb_1 90 rfl rfl
theorem m_1_92 : Cond.lays "ZoneFiles$Edge" "ZoneFiles$Edge" "day" "I" ∈ T0 := tb_1 92 rfl rfl
theorem m_1_94 : Cond.lays "ZoneFiles$Edge" "ZoneFiles$Edge" "timeOfDay" "I" ∈ T0 := tb_1 94 rfl rfl
theorem m_1_96 : Cond.lays "ZoneFiles$Edge" "ZoneFiles$Edge" "clockOffset" "I" ∈ T0 := tb_1 96 rfl rfl
theorem m_1_138 : Cond.laysFinal "ZoneFiles$Rule" "ZoneFiles$Rule" "text" "LZoneFiles$Bytes;" ∈ T0 := tb_1 138 rfl rfl
theorem m_1_140 : Cond.laysFinal "ZoneFiles$Rule" "ZoneFiles$Rule" "begin" "LZoneFiles$Edge;" ∈ T0 := tb_1 140 rfl rfl
theorem m_1_142 : Cond.laysFinal "ZoneFiles$Rule" "ZoneFiles$Rule" "end" "LZoneFiles$Edge;" ∈ T0 := tb_1 142 rfl rfl
theorem m_1_144 : Cond.lays "ZoneFiles$Rule" "ZoneFiles$Rule" "hasSummer" "Z" ∈ T0 := tb_1 144 rfl rfl
theorem m_1_146 : Cond.lays "ZoneFiles$Rule" "ZoneFiles$Rule" "needsWide" "Z" ∈ T0 := tb_1 146 rfl rfl
theorem m_1_148 : Cond.lays "ZoneFiles$Rule" "ZoneFiles$Rule" "standardOffset" "I" ∈ T0 := tb_1 148 rfl rfl
theorem m_1_150 : Cond.lays "ZoneFiles$Rule" "ZoneFiles$Rule" "summerOffset" "I" ∈ T0 := tb_1 150 rfl rfl
theorem m_1_152 : Cond.lays "ZoneFiles$Rule" "ZoneFiles$Rule" "standardNamePlace" "I" ∈ T0 := tb_1 152 rfl rfl
theorem m_1_154 : Cond.lays "ZoneFiles$Rule" "ZoneFiles$Rule" "standardNameSize" "I" ∈ T0 := tb_1 154 rfl rfl
theorem m_1_156 : Cond.lays "ZoneFiles$Rule" "ZoneFiles$Rule" "summerNamePlace" "I" ∈ T0 := tb_1 156 rfl rfl
theorem m_1_158 : Cond.lays "ZoneFiles$Rule" "ZoneFiles$Rule" "summerNameSize" "I" ∈ T0 := tb_1 158 rfl rfl
theorem m_1_160 : Cond.lays "ZoneFiles$Rule" "ZoneFiles$Rule" "neverChanges" "Z" ∈ T0 := tb_1 160 rfl rfl
theorem m_1_230 : Cond.lays "ZoneFiles$Zone" "ZoneFiles$Zone" "version" "I" ∈ T0 := tb_1 230 rfl rfl
theorem m_1_232 : Cond.lays "ZoneFiles$Zone" "ZoneFiles$Zone" "timeCount" "I" ∈ T0 := tb_1 232 rfl rfl
theorem m_1_234 : Cond.lays "ZoneFiles$Zone" "ZoneFiles$Zone" "typeCount" "I" ∈ T0 := tb_1 234 rfl rfl
theorem m_1_236 : Cond.lays "ZoneFiles$Zone" "ZoneFiles$Zone" "leapCount" "I" ∈ T0 := tb_1 236 rfl rfl
theorem m_1_238 : Cond.lays "ZoneFiles$Zone" "ZoneFiles$Zone" "stdCount" "I" ∈ T0 := tb_1 238 rfl rfl
theorem m_2_0 : Cond.lays "ZoneFiles$Zone" "ZoneFiles$Zone" "utCount" "I" ∈ T0 := tb_2 0 rfl rfl
theorem m_2_2 : Cond.laysFinal "ZoneFiles$Zone" "ZoneFiles$Zone" "times" "[J" ∈ T0 := tb_2 2 rfl rfl
theorem m_2_4 : Cond.laysFinal "ZoneFiles$Zone" "ZoneFiles$Zone" "timeTypes" "[I" ∈ T0 := tb_2 4 rfl rfl
theorem m_2_6 : Cond.laysFinal "ZoneFiles$Zone" "ZoneFiles$Zone" "offsets" "[I" ∈ T0 := tb_2 6 rfl rfl
theorem m_2_8 : Cond.laysFinal "ZoneFiles$Zone" "ZoneFiles$Zone" "dsts" "[I" ∈ T0 := tb_2 8 rfl rfl
theorem m_2_10 : Cond.laysFinal "ZoneFiles$Zone" "ZoneFiles$Zone" "indexes" "[I" ∈ T0 := tb_2 10 rfl rfl
theorem m_2_12 : Cond.laysFinal "ZoneFiles$Zone" "ZoneFiles$Zone" "stds" "[I" ∈ T0 := tb_2 12 rfl rfl
theorem m_2_14 : Cond.laysFinal "ZoneFiles$Zone" "ZoneFiles$Zone" "uts" "[I" ∈ T0 := tb_2 14 rfl rfl
theorem m_2_16 : Cond.laysFinal "ZoneFiles$Zone" "ZoneFiles$Zone" "chars" "LZoneFiles$Bytes;" ∈ T0 := tb_2 16 rfl rfl
theorem m_2_18 : Cond.laysFinal "ZoneFiles$Zone" "ZoneFiles$Zone" "leapTimes" "[J" ∈ T0 := tb_2 18 rfl rfl
theorem m_2_20 : Cond.laysFinal "ZoneFiles$Zone" "ZoneFiles$Zone" "leapCorrections" "[I" ∈ T0 := tb_2 20 rfl rfl
theorem m_2_22 : Cond.laysFinal "ZoneFiles$Zone" "ZoneFiles$Zone" "rule" "LZoneFiles$Rule;" ∈ T0 := tb_2 22 rfl rfl
theorem m_2_108 : Cond.lays "ZoneFiles$LeapTable" "ZoneFiles$LeapTable" "count" "I" ∈ T0 := tb_2 108 rfl rfl
theorem m_2_110 : Cond.laysFinal "ZoneFiles$LeapTable" "ZoneFiles$LeapTable" "times" "[J" ∈ T0 := tb_2 110 rfl rfl
theorem m_2_112 : Cond.laysFinal "ZoneFiles$LeapTable" "ZoneFiles$LeapTable" "aheads" "[J" ∈ T0 := tb_2 112 rfl rfl
theorem m_2_114 : Cond.lays "ZoneFiles$LeapTable" "ZoneFiles$LeapTable" "expires" "J" ∈ T0 := tb_2 114 rfl rfl
theorem m_2_126 : Cond.laysFinal "ZoneFiles" "ZoneFiles" "tape" "LZoneFiles$Bytes;" ∈ T0 := tb_2 126 rfl rfl
theorem m_2_128 : Cond.laysFinal "ZoneFiles" "ZoneFiles" "written" "LZoneFiles$Bytes;" ∈ T0 := tb_2 128 rfl rfl
theorem m_2_130 : Cond.laysFinal "ZoneFiles" "ZoneFiles" "zones" "[LZoneFiles$Zone;" ∈ T0 := tb_2 130 rfl rfl
theorem m_2_132 : Cond.lays "ZoneFiles" "ZoneFiles" "spareZone" "LZoneFiles$Zone;" ∈ T0 := tb_2 132 rfl rfl
theorem m_2_134 : Cond.lays "ZoneFiles" "ZoneFiles" "leapTable" "LZoneFiles$LeapTable;" ∈ T0 := tb_2 134 rfl rfl
theorem m_2_136 : Cond.lays "ZoneFiles" "ZoneFiles" "spareTable" "LZoneFiles$LeapTable;" ∈ T0 := tb_2 136 rfl rfl
theorem m_2_138 : Cond.laysFinal "ZoneFiles" "ZoneFiles" "foundInstants" "[J" ∈ T0 := tb_2 138 rfl rfl
theorem m_2_140 : Cond.lays "ZoneFiles" "ZoneFiles" "foundCount" "I" ∈ T0 := tb_2 140 rfl rfl
theorem m_2_142 : Cond.lays "ZoneFiles" "ZoneFiles" "faultPlace" "I" ∈ T0 := tb_2 142 rfl rfl
theorem m_2_163 : Cond.lays "ZoneFiles$TableParser" "ZoneFiles$TableParser" "fault" "I" ∈ T0 := tb_2 163 rfl rfl
theorem m_2_165 : Cond.lays "ZoneFiles$TableParser" "ZoneFiles$TableParser" "place" "I" ∈ T0 := tb_2 165 rfl rfl
theorem m_2_167 : Cond.laysFinal "ZoneFiles$TableParser" "ZoneFiles$TableParser" "tape" "LZoneFiles$Bytes;" ∈ T0 := tb_2 167 rfl rfl
theorem m_2_169 : Cond.laysFinal "ZoneFiles$TableParser" "ZoneFiles$TableParser" "table" "LZoneFiles$LeapTable;" ∈ T0 := tb_2 169 rfl rfl
theorem m_2_171 : Cond.lays "ZoneFiles$TableParser" "ZoneFiles$TableParser" "pos" "I" ∈ T0 := tb_2 171 rfl rfl
theorem m_2_173 : Cond.lays "ZoneFiles$TableParser" "ZoneFiles$TableParser" "hasExpiry" "Z" ∈ T0 := tb_2 173 rfl rfl
theorem m_3_165 : Cond.lays "ZoneFiles$FileParser" "ZoneFiles$FileParser" "fault" "I" ∈ T0 := tb_3 165 rfl rfl
theorem m_3_167 : Cond.lays "ZoneFiles$FileParser" "ZoneFiles$FileParser" "place" "I" ∈ T0 := tb_3 167 rfl rfl
theorem m_3_169 : Cond.laysFinal "ZoneFiles$FileParser" "ZoneFiles$FileParser" "tape" "LZoneFiles$Bytes;" ∈ T0 := tb_3 169 rfl rfl
theorem m_3_171 : Cond.laysFinal "ZoneFiles$FileParser" "ZoneFiles$FileParser" "zone" "LZoneFiles$Zone;" ∈ T0 := tb_3 171 rfl rfl
theorem m_3_173 : Cond.laysFinal "ZoneFiles$FileParser" "ZoneFiles$FileParser" "counts" "[J" ∈ T0 := tb_3 173 rfl rfl
theorem m_3_175 : Cond.lays "ZoneFiles$FileParser" "ZoneFiles$FileParser" "pos" "I" ∈ T0 := tb_3 175 rfl rfl
theorem m_3_177 : Cond.lays "ZoneFiles$FileParser" "ZoneFiles$FileParser" "textPlace" "I" ∈ T0 := tb_3 177 rfl rfl
theorem m_4_63 : Cond.lays "ZoneFiles$RuleParser" "ZoneFiles$RuleParser" "pos" "I" ∈ T0 := tb_4 63 rfl rfl
theorem m_4_65 : Cond.laysFinal "ZoneFiles$RuleParser" "ZoneFiles$RuleParser" "tape" "LZoneFiles$Bytes;" ∈ T0 := tb_4 65 rfl rfl
theorem m_4_67 : Cond.laysFinal "ZoneFiles$RuleParser" "ZoneFiles$RuleParser" "start" "I" ∈ T0 := tb_4 67 rfl rfl
theorem m_4_69 : Cond.laysFinal "ZoneFiles$RuleParser" "ZoneFiles$RuleParser" "end" "I" ∈ T0 := tb_4 69 rfl rfl
theorem m_4_71 : Cond.laysFinal "ZoneFiles$RuleParser" "ZoneFiles$RuleParser" "wide" "Z" ∈ T0 := tb_4 71 rfl rfl
theorem m_4_73 : Cond.laysFinal "ZoneFiles$RuleParser" "ZoneFiles$RuleParser" "rule" "LZoneFiles$Rule;" ∈ T0 := tb_4 73 rfl rfl
theorem m_4_75 : Cond.lays "ZoneFiles$RuleParser" "ZoneFiles$RuleParser" "namePlace" "I" ∈ T0 := tb_4 75 rfl rfl
theorem m_4_77 : Cond.lays "ZoneFiles$RuleParser" "ZoneFiles$RuleParser" "nameSize" "I" ∈ T0 := tb_4 77 rfl rfl
theorem m_4_79 : Cond.lays "ZoneFiles$RuleParser" "ZoneFiles$RuleParser" "amount" "I" ∈ T0 := tb_4 79 rfl rfl
theorem m_4_81 : Cond.lays "ZoneFiles$RuleParser" "ZoneFiles$RuleParser" "amountIsWide" "Z" ∈ T0 := tb_4 81 rfl rfl
theorem m_5_168 : Cond.laysFinal "ZoneFiles$EdgeWalk" "ZoneFiles$EdgeWalk" "rule" "LZoneFiles$Rule;" ∈ T0 := tb_5 168 rfl rfl
theorem m_5_170 : Cond.lays "ZoneFiles$EdgeWalk" "ZoneFiles$EdgeWalk" "beginYear" "J" ∈ T0 := tb_5 170 rfl rfl
theorem m_5_172 : Cond.lays "ZoneFiles$EdgeWalk" "ZoneFiles$EdgeWalk" "endYear" "J" ∈ T0 := tb_5 172 rfl rfl
theorem m_5_174 : Cond.lays "ZoneFiles$EdgeWalk" "ZoneFiles$EdgeWalk" "begin" "J" ∈ T0 := tb_5 174 rfl rfl
theorem m_5_176 : Cond.lays "ZoneFiles$EdgeWalk" "ZoneFiles$EdgeWalk" "end" "J" ∈ T0 := tb_5 176 rfl rfl
theorem m_6_200 : Cond.laysFinal "ZoneFilesModel" "ZoneFilesModel" "tape" "[I" ∈ T0 := tb_6 200 rfl rfl
theorem m_6_202 : Cond.lays "ZoneFilesModel" "ZoneFilesModel" "size" "I" ∈ T0 := tb_6 202 rfl rfl
theorem m_6_204 : Cond.lays "ZoneFilesModel" "ZoneFilesModel" "place" "I" ∈ T0 := tb_6 204 rfl rfl
theorem m_6_206 : Cond.lays "ZoneFilesModel" "ZoneFilesModel" "thrown" "I" ∈ T0 := tb_6 206 rfl rfl
theorem m_6_208 : Cond.laysFinal "ZoneFilesModel" "ZoneFilesModel" "version" "[I" ∈ T0 := tb_6 208 rfl rfl
theorem m_6_210 : Cond.laysFinal "ZoneFilesModel" "ZoneFilesModel" "times" "[I" ∈ T0 := tb_6 210 rfl rfl
theorem m_6_212 : Cond.laysFinal "ZoneFilesModel" "ZoneFilesModel" "types" "[I" ∈ T0 := tb_6 212 rfl rfl
theorem m_6_214 : Cond.laysFinal "ZoneFilesModel" "ZoneFilesModel" "chars" "[I" ∈ T0 := tb_6 214 rfl rfl
theorem m_6_216 : Cond.laysFinal "ZoneFilesModel" "ZoneFilesModel" "leaps" "[I" ∈ T0 := tb_6 216 rfl rfl
theorem m_6_218 : Cond.laysFinal "ZoneFilesModel" "ZoneFilesModel" "stds" "[I" ∈ T0 := tb_6 218 rfl rfl
theorem m_6_220 : Cond.laysFinal "ZoneFilesModel" "ZoneFilesModel" "uts" "[I" ∈ T0 := tb_6 220 rfl rfl
theorem m_6_222 : Cond.laysFinal "ZoneFilesModel" "ZoneFilesModel" "ruleSize" "[I" ∈ T0 := tb_6 222 rfl rfl
theorem m_6_224 : Cond.laysFinal "ZoneFilesModel" "ZoneFilesModel" "time" "[J" ∈ T0 := tb_6 224 rfl rfl
theorem m_6_226 : Cond.laysFinal "ZoneFilesModel" "ZoneFilesModel" "timeType" "[I" ∈ T0 := tb_6 226 rfl rfl
theorem m_6_228 : Cond.laysFinal "ZoneFilesModel" "ZoneFilesModel" "offset" "[I" ∈ T0 := tb_6 228 rfl rfl
theorem m_6_230 : Cond.laysFinal "ZoneFilesModel" "ZoneFilesModel" "dst" "[I" ∈ T0 := tb_6 230 rfl rfl
theorem m_6_232 : Cond.laysFinal "ZoneFilesModel" "ZoneFilesModel" "index" "[I" ∈ T0 := tb_6 232 rfl rfl
theorem m_6_234 : Cond.laysFinal "ZoneFilesModel" "ZoneFilesModel" "letters" "[I" ∈ T0 := tb_6 234 rfl rfl
theorem m_6_236 : Cond.laysFinal "ZoneFilesModel" "ZoneFilesModel" "leapTime" "[J" ∈ T0 := tb_6 236 rfl rfl
theorem m_6_238 : Cond.laysFinal "ZoneFilesModel" "ZoneFilesModel" "leapMore" "[J" ∈ T0 := tb_6 238 rfl rfl
theorem m_7_0 : Cond.laysFinal "ZoneFilesModel" "ZoneFilesModel" "std" "[I" ∈ T0 := tb_7 0 rfl rfl
theorem m_7_2 : Cond.laysFinal "ZoneFilesModel" "ZoneFilesModel" "ut" "[I" ∈ T0 := tb_7 2 rfl rfl
theorem m_7_4 : Cond.laysFinal "ZoneFilesModel" "ZoneFilesModel" "rule" "[I" ∈ T0 := tb_7 4 rfl rfl
theorem m_7_6 : Cond.laysFinal "ZoneFilesModel" "ZoneFilesModel" "has" "[I" ∈ T0 := tb_7 6 rfl rfl
theorem m_7_8 : Cond.laysFinal "ZoneFilesModel" "ZoneFilesModel" "ruleOffset" "[I" ∈ T0 := tb_7 8 rfl rfl
theorem m_7_10 : Cond.laysFinal "ZoneFilesModel" "ZoneFilesModel" "ruleNameSize" "[I" ∈ T0 := tb_7 10 rfl rfl
theorem m_7_12 : Cond.laysFinal "ZoneFilesModel" "ZoneFilesModel" "ruleName" "[I" ∈ T0 := tb_7 12 rfl rfl
theorem m_7_14 : Cond.laysFinal "ZoneFilesModel" "ZoneFilesModel" "dayKind" "[I" ∈ T0 := tb_7 14 rfl rfl
theorem m_7_16 : Cond.laysFinal "ZoneFilesModel" "ZoneFilesModel" "dayA" "[I" ∈ T0 := tb_7 16 rfl rfl
theorem m_7_18 : Cond.laysFinal "ZoneFilesModel" "ZoneFilesModel" "dayB" "[I" ∈ T0 := tb_7 18 rfl rfl
theorem m_7_20 : Cond.laysFinal "ZoneFilesModel" "ZoneFilesModel" "dayC" "[I" ∈ T0 := tb_7 20 rfl rfl
theorem m_7_22 : Cond.laysFinal "ZoneFilesModel" "ZoneFilesModel" "dayTime" "[I" ∈ T0 := tb_7 22 rfl rfl
theorem m_7_24 : Cond.lays "ZoneFilesModel" "ZoneFilesModel" "at" "I" ∈ T0 := tb_7 24 rfl rfl
theorem m_7_26 : Cond.lays "ZoneFilesModel" "ZoneFilesModel" "end" "I" ∈ T0 := tb_7 26 rfl rfl
theorem m_7_28 : Cond.lays "ZoneFilesModel" "ZoneFilesModel" "bad" "Z" ∈ T0 := tb_7 28 rfl rfl
theorem m_7_30 : Cond.lays "ZoneFilesModel" "ZoneFilesModel" "badAt" "I" ∈ T0 := tb_7 30 rfl rfl
theorem m_7_32 : Cond.lays "ZoneFilesModel" "ZoneFilesModel" "fault" "I" ∈ T0 := tb_7 32 rfl rfl
theorem m_7_34 : Cond.laysFinal "ZoneFilesModel" "ZoneFilesModel" "counts" "[J" ∈ T0 := tb_7 34 rfl rfl
theorem m_7_36 : Cond.lays "ZoneFilesModel" "ZoneFilesModel" "fileVersion" "I" ∈ T0 := tb_7 36 rfl rfl
theorem m_7_38 : Cond.lays "ZoneFilesModel" "ZoneFilesModel" "textFrom" "I" ∈ T0 := tb_7 38 rfl rfl
theorem m_7_40 : Cond.lays "ZoneFilesModel" "ZoneFilesModel" "year" "J" ∈ T0 := tb_7 40 rfl rfl
theorem m_7_42 : Cond.lays "ZoneFilesModel" "ZoneFilesModel" "month" "I" ∈ T0 := tb_7 42 rfl rfl
theorem m_7_44 : Cond.lays "ZoneFilesModel" "ZoneFilesModel" "day" "I" ∈ T0 := tb_7 44 rfl rfl
theorem m_7_46 : Cond.lays "ZoneFilesModel" "ZoneFilesModel" "source" "I" ∈ T0 := tb_7 46 rfl rfl
theorem m_7_48 : Cond.lays "ZoneFilesModel" "ZoneFilesModel" "which" "I" ∈ T0 := tb_7 48 rfl rfl
theorem m_7_50 : Cond.lays "ZoneFilesModel" "ZoneFilesModel" "gotOffset" "I" ∈ T0 := tb_7 50 rfl rfl
theorem m_7_52 : Cond.lays "ZoneFilesModel" "ZoneFilesModel" "gotDst" "I" ∈ T0 := tb_7 52 rfl rfl
theorem m_7_54 : Cond.lays "ZoneFilesModel" "ZoneFilesModel" "gotSize" "I" ∈ T0 := tb_7 54 rfl rfl
theorem m_7_56 : Cond.laysFinal "ZoneFilesModel" "ZoneFilesModel" "gotName" "[I" ∈ T0 := tb_7 56 rfl rfl
theorem m_7_58 : Cond.lays "ZoneFilesModel" "ZoneFilesModel" "keptSource" "I" ∈ T0 := tb_7 58 rfl rfl
theorem m_7_60 : Cond.lays "ZoneFilesModel" "ZoneFilesModel" "keptOffset" "I" ∈ T0 := tb_7 60 rfl rfl
theorem m_7_62 : Cond.lays "ZoneFilesModel" "ZoneFilesModel" "keptDst" "I" ∈ T0 := tb_7 62 rfl rfl
theorem m_7_64 : Cond.lays "ZoneFilesModel" "ZoneFilesModel" "keptSize" "I" ∈ T0 := tb_7 64 rfl rfl
theorem m_7_66 : Cond.laysFinal "ZoneFilesModel" "ZoneFilesModel" "keptName" "[I" ∈ T0 := tb_7 66 rfl rfl
theorem m_7_68 : Cond.laysFinal "ZoneFilesModel" "ZoneFilesModel" "finds" "[J" ∈ T0 := tb_7 68 rfl rfl
theorem m_7_70 : Cond.lays "ZoneFilesModel" "ZoneFilesModel" "findCount" "I" ∈ T0 := tb_7 70 rfl rfl
theorem m_7_72 : Cond.laysFinal "ZoneFilesModel" "ZoneFilesModel" "out" "[I" ∈ T0 := tb_7 72 rfl rfl
theorem m_7_74 : Cond.lays "ZoneFilesModel" "ZoneFilesModel" "outSize" "I" ∈ T0 := tb_7 74 rfl rfl
theorem m_7_76 : Cond.laysFinal "ZoneFilesModel" "ZoneFilesModel" "made" "[I" ∈ T0 := tb_7 76 rfl rfl
theorem m_7_78 : Cond.lays "ZoneFilesModel" "ZoneFilesModel" "madeSize" "I" ∈ T0 := tb_7 78 rfl rfl
theorem m_7_80 : Cond.laysFinal "ZoneFilesModel" "ZoneFilesModel" "aside" "[I" ∈ T0 := tb_7 80 rfl rfl
theorem m_7_82 : Cond.lays "ZoneFilesModel" "ZoneFilesModel" "hasTable" "Z" ∈ T0 := tb_7 82 rfl rfl
theorem m_7_84 : Cond.lays "ZoneFilesModel" "ZoneFilesModel" "rows" "I" ∈ T0 := tb_7 84 rfl rfl
theorem m_7_86 : Cond.laysFinal "ZoneFilesModel" "ZoneFilesModel" "rowTime" "[J" ∈ T0 := tb_7 86 rfl rfl
theorem m_7_88 : Cond.laysFinal "ZoneFilesModel" "ZoneFilesModel" "rowMore" "[J" ∈ T0 := tb_7 88 rfl rfl
theorem m_7_90 : Cond.lays "ZoneFilesModel" "ZoneFilesModel" "expiry" "J" ∈ T0 := tb_7 90 rfl rfl
theorem m_7_92 : Cond.lays "ZoneFilesModel" "ZoneFilesModel" "newRows" "I" ∈ T0 := tb_7 92 rfl rfl
theorem m_7_94 : Cond.laysFinal "ZoneFilesModel" "ZoneFilesModel" "newTime" "[J" ∈ T0 := tb_7 94 rfl rfl
theorem m_7_96 : Cond.laysFinal "ZoneFilesModel" "ZoneFilesModel" "newMore" "[J" ∈ T0 := tb_7 96 rfl rfl
theorem m_7_98 : Cond.lays "ZoneFilesModel" "ZoneFilesModel" "newExpiry" "J" ∈ T0 := tb_7 98 rfl rfl
theorem m_7_100 : Cond.lays "ZoneFilesModel" "ZoneFilesModel" "newHas" "Z" ∈ T0 := tb_7 100 rfl rfl
theorem m_7_102 : Cond.lays "ZoneFilesModel" "ZoneFilesModel" "read" "J" ∈ T0 := tb_7 102 rfl rfl
def RBytes : String := "ZoneFiles$Bytes"
def TBytes : u_T := fun k => match k with
  | 0 => ("ZoneFiles$Bytes", "row", "[B", false)
  | _ => ("ZoneFiles$Bytes", "size", "I", false)
def tyBytes : Nat → FieldType := fun k => match k with
  | 0 => .array (.byte)
  | _ => .int
theorem nm_Bytes : ∀ a, a < 2 → ∀ b, b < 2 → a ≠ b → (TBytes a).2.1 ≠ (TBytes b).2.1 := by decide +kernel
theorem ty_Bytes : ∀ k, k < 2 → parseFieldDescriptor (TBytes k).2.2.1 = some (tyBytes k) := by decide +kernel
def REdge : String := "ZoneFiles$Edge"
def TEdge : u_T := fun k => match k with
  | 0 => ("ZoneFiles$Edge", "kind", "I", false)
  | 1 => ("ZoneFiles$Edge", "month", "I", false)
  | 2 => ("ZoneFiles$Edge", "week", "I", false)
  | 3 => ("ZoneFiles$Edge", "day", "I", false)
  | 4 => ("ZoneFiles$Edge", "timeOfDay", "I", false)
  | _ => ("ZoneFiles$Edge", "clockOffset", "I", false)
def tyEdge : Nat → FieldType := fun k => match k with
  | 0 => .int
  | 1 => .int
  | 2 => .int
  | 3 => .int
  | 4 => .int
  | _ => .int
theorem nm_Edge : ∀ a, a < 6 → ∀ b, b < 6 → a ≠ b → (TEdge a).2.1 ≠ (TEdge b).2.1 := by decide +kernel
theorem ty_Edge : ∀ k, k < 6 → parseFieldDescriptor (TEdge k).2.2.1 = some (tyEdge k) := by decide +kernel
def REdgeWalk : String := "ZoneFiles$EdgeWalk"
def TEdgeWalk : u_T := fun k => match k with
  | 0 => ("ZoneFiles$EdgeWalk", "rule", "LZoneFiles$Rule;", true)
  | 1 => ("ZoneFiles$EdgeWalk", "beginYear", "J", false)
  | 2 => ("ZoneFiles$EdgeWalk", "endYear", "J", false)
  | 3 => ("ZoneFiles$EdgeWalk", "begin", "J", false)
  | _ => ("ZoneFiles$EdgeWalk", "end", "J", false)
def tyEdgeWalk : Nat → FieldType := fun k => match k with
  | 0 => .object "ZoneFiles$Rule"
  | 1 => .long
  | 2 => .long
  | 3 => .long
  | _ => .long
theorem nm_EdgeWalk : ∀ a, a < 5 → ∀ b, b < 5 → a ≠ b → (TEdgeWalk a).2.1 ≠ (TEdgeWalk b).2.1 := by decide +kernel
theorem ty_EdgeWalk : ∀ k, k < 5 → parseFieldDescriptor (TEdgeWalk k).2.2.1 = some (tyEdgeWalk k) := by decide +kernel
def RFileParser : String := "ZoneFiles$FileParser"
def TFileParser : u_T := fun k => match k with
  | 0 => ("ZoneFiles$FileParser", "fault", "I", false)
  | 1 => ("ZoneFiles$FileParser", "place", "I", false)
  | 2 => ("ZoneFiles$FileParser", "tape", "LZoneFiles$Bytes;", true)
  | 3 => ("ZoneFiles$FileParser", "zone", "LZoneFiles$Zone;", true)
  | 4 => ("ZoneFiles$FileParser", "counts", "[J", true)
  | 5 => ("ZoneFiles$FileParser", "pos", "I", false)
  | _ => ("ZoneFiles$FileParser", "textPlace", "I", false)
def tyFileParser : Nat → FieldType := fun k => match k with
  | 0 => .int
  | 1 => .int
  | 2 => .object "ZoneFiles$Bytes"
  | 3 => .object "ZoneFiles$Zone"
  | 4 => .array (.long)
  | 5 => .int
  | _ => .int
theorem nm_FileParser : ∀ a, a < 7 → ∀ b, b < 7 → a ≠ b → (TFileParser a).2.1 ≠ (TFileParser b).2.1 := by decide +kernel
theorem ty_FileParser : ∀ k, k < 7 → parseFieldDescriptor (TFileParser k).2.2.1 = some (tyFileParser k) := by decide +kernel
def RLeapTable : String := "ZoneFiles$LeapTable"
def TLeapTable : u_T := fun k => match k with
  | 0 => ("ZoneFiles$LeapTable", "count", "I", false)
  | 1 => ("ZoneFiles$LeapTable", "times", "[J", true)
  | 2 => ("ZoneFiles$LeapTable", "aheads", "[J", true)
  | _ => ("ZoneFiles$LeapTable", "expires", "J", false)
def tyLeapTable : Nat → FieldType := fun k => match k with
  | 0 => .int
  | 1 => .array (.long)
  | 2 => .array (.long)
  | _ => .long
theorem nm_LeapTable : ∀ a, a < 4 → ∀ b, b < 4 → a ≠ b → (TLeapTable a).2.1 ≠ (TLeapTable b).2.1 := by decide +kernel
theorem ty_LeapTable : ∀ k, k < 4 → parseFieldDescriptor (TLeapTable k).2.2.1 = some (tyLeapTable k) := by decide +kernel
def RRule : String := "ZoneFiles$Rule"
def TRule : u_T := fun k => match k with
  | 0 => ("ZoneFiles$Rule", "text", "LZoneFiles$Bytes;", true)
  | 1 => ("ZoneFiles$Rule", "begin", "LZoneFiles$Edge;", true)
  | 2 => ("ZoneFiles$Rule", "end", "LZoneFiles$Edge;", true)
  | 3 => ("ZoneFiles$Rule", "hasSummer", "Z", false)
  | 4 => ("ZoneFiles$Rule", "needsWide", "Z", false)
  | 5 => ("ZoneFiles$Rule", "standardOffset", "I", false)
  | 6 => ("ZoneFiles$Rule", "summerOffset", "I", false)
  | 7 => ("ZoneFiles$Rule", "standardNamePlace", "I", false)
  | 8 => ("ZoneFiles$Rule", "standardNameSize", "I", false)
  | 9 => ("ZoneFiles$Rule", "summerNamePlace", "I", false)
  | 10 => ("ZoneFiles$Rule", "summerNameSize", "I", false)
  | _ => ("ZoneFiles$Rule", "neverChanges", "Z", false)
def tyRule : Nat → FieldType := fun k => match k with
  | 0 => .object "ZoneFiles$Bytes"
  | 1 => .object "ZoneFiles$Edge"
  | 2 => .object "ZoneFiles$Edge"
  | 3 => .boolean
  | 4 => .boolean
  | 5 => .int
  | 6 => .int
  | 7 => .int
  | 8 => .int
  | 9 => .int
  | 10 => .int
  | _ => .boolean
theorem nm_Rule : ∀ a, a < 12 → ∀ b, b < 12 → a ≠ b → (TRule a).2.1 ≠ (TRule b).2.1 := by decide +kernel
theorem ty_Rule : ∀ k, k < 12 → parseFieldDescriptor (TRule k).2.2.1 = some (tyRule k) := by decide +kernel
def RRuleParser : String := "ZoneFiles$RuleParser"
def TRuleParser : u_T := fun k => match k with
  | 0 => ("ZoneFiles$RuleParser", "pos", "I", false)
  | 1 => ("ZoneFiles$RuleParser", "tape", "LZoneFiles$Bytes;", true)
  | 2 => ("ZoneFiles$RuleParser", "start", "I", true)
  | 3 => ("ZoneFiles$RuleParser", "end", "I", true)
  | 4 => ("ZoneFiles$RuleParser", "wide", "Z", true)
  | 5 => ("ZoneFiles$RuleParser", "rule", "LZoneFiles$Rule;", true)
  | 6 => ("ZoneFiles$RuleParser", "namePlace", "I", false)
  | 7 => ("ZoneFiles$RuleParser", "nameSize", "I", false)
  | 8 => ("ZoneFiles$RuleParser", "amount", "I", false)
  | _ => ("ZoneFiles$RuleParser", "amountIsWide", "Z", false)
def tyRuleParser : Nat → FieldType := fun k => match k with
  | 0 => .int
  | 1 => .object "ZoneFiles$Bytes"
  | 2 => .int
  | 3 => .int
  | 4 => .boolean
  | 5 => .object "ZoneFiles$Rule"
  | 6 => .int
  | 7 => .int
  | 8 => .int
  | _ => .boolean
theorem nm_RuleParser : ∀ a, a < 10 → ∀ b, b < 10 → a ≠ b → (TRuleParser a).2.1 ≠ (TRuleParser b).2.1 := by decide +kernel
theorem ty_RuleParser : ∀ k, k < 10 → parseFieldDescriptor (TRuleParser k).2.2.1 = some (tyRuleParser k) := by decide +kernel
def RTableParser : String := "ZoneFiles$TableParser"
def TTableParser : u_T := fun k => match k with
  | 0 => ("ZoneFiles$TableParser", "fault", "I", false)
  | 1 => ("ZoneFiles$TableParser", "place", "I", false)
  | 2 => ("ZoneFiles$TableParser", "tape", "LZoneFiles$Bytes;", true)
  | 3 => ("ZoneFiles$TableParser", "table", "LZoneFiles$LeapTable;", true)
  | 4 => ("ZoneFiles$TableParser", "pos", "I", false)
  | _ => ("ZoneFiles$TableParser", "hasExpiry", "Z", false)
def tyTableParser : Nat → FieldType := fun k => match k with
  | 0 => .int
  | 1 => .int
  | 2 => .object "ZoneFiles$Bytes"
  | 3 => .object "ZoneFiles$LeapTable"
  | 4 => .int
  | _ => .boolean
theorem nm_TableParser : ∀ a, a < 6 → ∀ b, b < 6 → a ≠ b → (TTableParser a).2.1 ≠ (TTableParser b).2.1 := by decide +kernel
theorem ty_TableParser : ∀ k, k < 6 → parseFieldDescriptor (TTableParser k).2.2.1 = some (tyTableParser k) := by decide +kernel
def RZone : String := "ZoneFiles$Zone"
def TZone : u_T := fun k => match k with
  | 0 => ("ZoneFiles$Zone", "version", "I", false)
  | 1 => ("ZoneFiles$Zone", "timeCount", "I", false)
  | 2 => ("ZoneFiles$Zone", "typeCount", "I", false)
  | 3 => ("ZoneFiles$Zone", "leapCount", "I", false)
  | 4 => ("ZoneFiles$Zone", "stdCount", "I", false)
  | 5 => ("ZoneFiles$Zone", "utCount", "I", false)
  | 6 => ("ZoneFiles$Zone", "times", "[J", true)
  | 7 => ("ZoneFiles$Zone", "timeTypes", "[I", true)
  | 8 => ("ZoneFiles$Zone", "offsets", "[I", true)
  | 9 => ("ZoneFiles$Zone", "dsts", "[I", true)
  | 10 => ("ZoneFiles$Zone", "indexes", "[I", true)
  | 11 => ("ZoneFiles$Zone", "stds", "[I", true)
  | 12 => ("ZoneFiles$Zone", "uts", "[I", true)
  | 13 => ("ZoneFiles$Zone", "chars", "LZoneFiles$Bytes;", true)
  | 14 => ("ZoneFiles$Zone", "leapTimes", "[J", true)
  | 15 => ("ZoneFiles$Zone", "leapCorrections", "[I", true)
  | _ => ("ZoneFiles$Zone", "rule", "LZoneFiles$Rule;", true)
def tyZone : Nat → FieldType := fun k => match k with
  | 0 => .int
  | 1 => .int
  | 2 => .int
  | 3 => .int
  | 4 => .int
  | 5 => .int
  | 6 => .array (.long)
  | 7 => .array (.int)
  | 8 => .array (.int)
  | 9 => .array (.int)
  | 10 => .array (.int)
  | 11 => .array (.int)
  | 12 => .array (.int)
  | 13 => .object "ZoneFiles$Bytes"
  | 14 => .array (.long)
  | 15 => .array (.int)
  | _ => .object "ZoneFiles$Rule"
theorem nm_Zone : ∀ a, a < 17 → ∀ b, b < 17 → a ≠ b → (TZone a).2.1 ≠ (TZone b).2.1 := by decide +kernel
theorem ty_Zone : ∀ k, k < 17 → parseFieldDescriptor (TZone k).2.2.1 = some (tyZone k) := by decide +kernel
def RZoneFiles : String := "ZoneFiles"
def TZoneFiles : u_T := fun k => match k with
  | 0 => ("ZoneFiles", "tape", "LZoneFiles$Bytes;", true)
  | 1 => ("ZoneFiles", "written", "LZoneFiles$Bytes;", true)
  | 2 => ("ZoneFiles", "zones", "[LZoneFiles$Zone;", true)
  | 3 => ("ZoneFiles", "spareZone", "LZoneFiles$Zone;", false)
  | 4 => ("ZoneFiles", "leapTable", "LZoneFiles$LeapTable;", false)
  | 5 => ("ZoneFiles", "spareTable", "LZoneFiles$LeapTable;", false)
  | 6 => ("ZoneFiles", "foundInstants", "[J", true)
  | 7 => ("ZoneFiles", "foundCount", "I", false)
  | _ => ("ZoneFiles", "faultPlace", "I", false)
def tyZoneFiles : Nat → FieldType := fun k => match k with
  | 0 => .object "ZoneFiles$Bytes"
  | 1 => .object "ZoneFiles$Bytes"
  | 2 => .array (.object "ZoneFiles$Zone")
  | 3 => .object "ZoneFiles$Zone"
  | 4 => .object "ZoneFiles$LeapTable"
  | 5 => .object "ZoneFiles$LeapTable"
  | 6 => .array (.long)
  | 7 => .int
  | _ => .int
theorem nm_ZoneFiles : ∀ a, a < 9 → ∀ b, b < 9 → a ≠ b → (TZoneFiles a).2.1 ≠ (TZoneFiles b).2.1 := by decide +kernel
theorem ty_ZoneFiles : ∀ k, k < 9 → parseFieldDescriptor (TZoneFiles k).2.2.1 = some (tyZoneFiles k) := by decide +kernel
def RZoneFilesModel : String := "ZoneFilesModel"
def TZoneFilesModel : u_T := fun k => match k with
  | 0 => ("ZoneFilesModel", "tape", "[I", true)
  | 1 => ("ZoneFilesModel", "size", "I", false)
  | 2 => ("ZoneFilesModel", "place", "I", false)
  | 3 => ("ZoneFilesModel", "thrown", "I", false)
  | 4 => ("ZoneFilesModel", "version", "[I", true)
  | 5 => ("ZoneFilesModel", "times", "[I", true)
  | 6 => ("ZoneFilesModel", "types", "[I", true)
  | 7 => ("ZoneFilesModel", "chars", "[I", true)
  | 8 => ("ZoneFilesModel", "leaps", "[I", true)
  | 9 => ("ZoneFilesModel", "stds", "[I", true)
  | 10 => ("ZoneFilesModel", "uts", "[I", true)
  | 11 => ("ZoneFilesModel", "ruleSize", "[I", true)
  | 12 => ("ZoneFilesModel", "time", "[J", true)
  | 13 => ("ZoneFilesModel", "timeType", "[I", true)
  | 14 => ("ZoneFilesModel", "offset", "[I", true)
  | 15 => ("ZoneFilesModel", "dst", "[I", true)
  | 16 => ("ZoneFilesModel", "index", "[I", true)
  | 17 => ("ZoneFilesModel", "letters", "[I", true)
  | 18 => ("ZoneFilesModel", "leapTime", "[J", true)
  | 19 => ("ZoneFilesModel", "leapMore", "[J", true)
  | 20 => ("ZoneFilesModel", "std", "[I", true)
  | 21 => ("ZoneFilesModel", "ut", "[I", true)
  | 22 => ("ZoneFilesModel", "rule", "[I", true)
  | 23 => ("ZoneFilesModel", "has", "[I", true)
  | 24 => ("ZoneFilesModel", "ruleOffset", "[I", true)
  | 25 => ("ZoneFilesModel", "ruleNameSize", "[I", true)
  | 26 => ("ZoneFilesModel", "ruleName", "[I", true)
  | 27 => ("ZoneFilesModel", "dayKind", "[I", true)
  | 28 => ("ZoneFilesModel", "dayA", "[I", true)
  | 29 => ("ZoneFilesModel", "dayB", "[I", true)
  | 30 => ("ZoneFilesModel", "dayC", "[I", true)
  | 31 => ("ZoneFilesModel", "dayTime", "[I", true)
  | 32 => ("ZoneFilesModel", "at", "I", false)
  | 33 => ("ZoneFilesModel", "end", "I", false)
  | 34 => ("ZoneFilesModel", "bad", "Z", false)
  | 35 => ("ZoneFilesModel", "badAt", "I", false)
  | 36 => ("ZoneFilesModel", "fault", "I", false)
  | 37 => ("ZoneFilesModel", "counts", "[J", true)
  | 38 => ("ZoneFilesModel", "fileVersion", "I", false)
  | 39 => ("ZoneFilesModel", "textFrom", "I", false)
  | 40 => ("ZoneFilesModel", "year", "J", false)
  | 41 => ("ZoneFilesModel", "month", "I", false)
  | 42 => ("ZoneFilesModel", "day", "I", false)
  | 43 => ("ZoneFilesModel", "source", "I", false)
  | 44 => ("ZoneFilesModel", "which", "I", false)
  | 45 => ("ZoneFilesModel", "gotOffset", "I", false)
  | 46 => ("ZoneFilesModel", "gotDst", "I", false)
  | 47 => ("ZoneFilesModel", "gotSize", "I", false)
  | 48 => ("ZoneFilesModel", "gotName", "[I", true)
  | 49 => ("ZoneFilesModel", "keptSource", "I", false)
  | 50 => ("ZoneFilesModel", "keptOffset", "I", false)
  | 51 => ("ZoneFilesModel", "keptDst", "I", false)
  | 52 => ("ZoneFilesModel", "keptSize", "I", false)
  | 53 => ("ZoneFilesModel", "keptName", "[I", true)
  | 54 => ("ZoneFilesModel", "finds", "[J", true)
  | 55 => ("ZoneFilesModel", "findCount", "I", false)
  | 56 => ("ZoneFilesModel", "out", "[I", true)
  | 57 => ("ZoneFilesModel", "outSize", "I", false)
  | 58 => ("ZoneFilesModel", "made", "[I", true)
  | 59 => ("ZoneFilesModel", "madeSize", "I", false)
  | 60 => ("ZoneFilesModel", "aside", "[I", true)
  | 61 => ("ZoneFilesModel", "hasTable", "Z", false)
  | 62 => ("ZoneFilesModel", "rows", "I", false)
  | 63 => ("ZoneFilesModel", "rowTime", "[J", true)
  | 64 => ("ZoneFilesModel", "rowMore", "[J", true)
  | 65 => ("ZoneFilesModel", "expiry", "J", false)
  | 66 => ("ZoneFilesModel", "newRows", "I", false)
  | 67 => ("ZoneFilesModel", "newTime", "[J", true)
  | 68 => ("ZoneFilesModel", "newMore", "[J", true)
  | 69 => ("ZoneFilesModel", "newExpiry", "J", false)
  | 70 => ("ZoneFilesModel", "newHas", "Z", false)
  | _ => ("ZoneFilesModel", "read", "J", false)
def tyZoneFilesModel : Nat → FieldType := fun k => match k with
  | 0 => .array (.int)
  | 1 => .int
  | 2 => .int
  | 3 => .int
  | 4 => .array (.int)
  | 5 => .array (.int)
  | 6 => .array (.int)
  | 7 => .array (.int)
  | 8 => .array (.int)
  | 9 => .array (.int)
  | 10 => .array (.int)
  | 11 => .array (.int)
  | 12 => .array (.long)
  | 13 => .array (.int)
  | 14 => .array (.int)
  | 15 => .array (.int)
  | 16 => .array (.int)
  | 17 => .array (.int)
  | 18 => .array (.long)
  | 19 => .array (.long)
  | 20 => .array (.int)
  | 21 => .array (.int)
  | 22 => .array (.int)
  | 23 => .array (.int)
  | 24 => .array (.int)
  | 25 => .array (.int)
  | 26 => .array (.int)
  | 27 => .array (.int)
  | 28 => .array (.int)
  | 29 => .array (.int)
  | 30 => .array (.int)
  | 31 => .array (.int)
  | 32 => .int
  | 33 => .int
  | 34 => .boolean
  | 35 => .int
  | 36 => .int
  | 37 => .array (.long)
  | 38 => .int
  | 39 => .int
  | 40 => .long
  | 41 => .int
  | 42 => .int
  | 43 => .int
  | 44 => .int
  | 45 => .int
  | 46 => .int
  | 47 => .int
  | 48 => .array (.int)
  | 49 => .int
  | 50 => .int
  | 51 => .int
  | 52 => .int
  | 53 => .array (.int)
  | 54 => .array (.long)
  | 55 => .int
  | 56 => .array (.int)
  | 57 => .int
  | 58 => .array (.int)
  | 59 => .int
  | 60 => .array (.int)
  | 61 => .boolean
  | 62 => .int
  | 63 => .array (.long)
  | 64 => .array (.long)
  | 65 => .long
  | 66 => .int
  | 67 => .array (.long)
  | 68 => .array (.long)
  | 69 => .long
  | 70 => .boolean
  | _ => .long
theorem nm_ZoneFilesModel : ∀ a, a < 72 → ∀ b, b < 72 → a ≠ b → (TZoneFilesModel a).2.1 ≠ (TZoneFilesModel b).2.1 := by decide +kernel
theorem ty_ZoneFilesModel : ∀ k, k < 72 → parseFieldDescriptor (TZoneFilesModel k).2.2.1 = some (tyZoneFilesModel k) := by decide +kernel
abbrev classes : List vw_C := [(RBytes, TBytes, 2), (REdge, TEdge, 6), (REdgeWalk, TEdgeWalk, 5), (RFileParser, TFileParser, 7), (RLeapTable, TLeapTable, 4), (RRule, TRule, 12), (RRuleParser, TRuleParser, 10), (RTableParser, TTableParser, 6), (RZone, TZone, 17), (RZoneFiles, TZoneFiles, 9), (RZoneFilesModel, TZoneFilesModel, 72)]
theorem in_Bytes : ∀ w ∈ u_ws RBytes TBytes 2, w ∈ T0 := u_wsIn (fun k hk => by
  match k, hk with
  | 0, _ => exact m_1_45
  | 1, _ => exact m_1_47
  | n + 2, h => exact absurd h (by omega))
theorem in_Edge : ∀ w ∈ u_ws REdge TEdge 6, w ∈ T0 := u_wsIn (fun k hk => by
  match k, hk with
  | 0, _ => exact m_1_86
  | 1, _ => exact m_1_88
  | 2, _ => exact m_1_90
  | 3, _ => exact m_1_92
  | 4, _ => exact m_1_94
  | 5, _ => exact m_1_96
  | n + 6, h => exact absurd h (by omega))
theorem in_EdgeWalk : ∀ w ∈ u_ws REdgeWalk TEdgeWalk 5, w ∈ T0 := u_wsIn (fun k hk => by
  match k, hk with
  | 0, _ => exact m_5_168
  | 1, _ => exact m_5_170
  | 2, _ => exact m_5_172
  | 3, _ => exact m_5_174
  | 4, _ => exact m_5_176
  | n + 5, h => exact absurd h (by omega))
theorem in_FileParser : ∀ w ∈ u_ws RFileParser TFileParser 7, w ∈ T0 := u_wsIn (fun k hk => by
  match k, hk with
  | 0, _ => exact m_3_165
  | 1, _ => exact m_3_167
  | 2, _ => exact m_3_169
  | 3, _ => exact m_3_171
  | 4, _ => exact m_3_173
  | 5, _ => exact m_3_175
  | 6, _ => exact m_3_177
  | n + 7, h => exact absurd h (by omega))
theorem in_LeapTable : ∀ w ∈ u_ws RLeapTable TLeapTable 4, w ∈ T0 := u_wsIn (fun k hk => by
  match k, hk with
  | 0, _ => exact m_2_108
  | 1, _ => exact m_2_110
  | 2, _ => exact m_2_112
  | 3, _ => exact m_2_114
  | n + 4, h => exact absurd h (by omega))
theorem in_Rule : ∀ w ∈ u_ws RRule TRule 12, w ∈ T0 := u_wsIn (fun k hk => by
  match k, hk with
  | 0, _ => exact m_1_138
  | 1, _ => exact m_1_140
  | 2, _ => exact m_1_142
  | 3, _ => exact m_1_144
  | 4, _ => exact m_1_146
  | 5, _ => exact m_1_148
  | 6, _ => exact m_1_150
  | 7, _ => exact m_1_152
  | 8, _ => exact m_1_154
  | 9, _ => exact m_1_156
  | 10, _ => exact m_1_158
  | 11, _ => exact m_1_160
  | n + 12, h => exact absurd h (by omega))
theorem in_RuleParser : ∀ w ∈ u_ws RRuleParser TRuleParser 10, w ∈ T0 := u_wsIn (fun k hk => by
  match k, hk with
  | 0, _ => exact m_4_63
  | 1, _ => exact m_4_65
  | 2, _ => exact m_4_67
  | 3, _ => exact m_4_69
  | 4, _ => exact m_4_71
  | 5, _ => exact m_4_73
  | 6, _ => exact m_4_75
  | 7, _ => exact m_4_77
  | 8, _ => exact m_4_79
  | 9, _ => exact m_4_81
  | n + 10, h => exact absurd h (by omega))
theorem in_TableParser : ∀ w ∈ u_ws RTableParser TTableParser 6, w ∈ T0 := u_wsIn (fun k hk => by
  match k, hk with
  | 0, _ => exact m_2_163
  | 1, _ => exact m_2_165
  | 2, _ => exact m_2_167
  | 3, _ => exact m_2_169
  | 4, _ => exact m_2_171
  | 5, _ => exact m_2_173
  | n + 6, h => exact absurd h (by omega))
theorem in_Zone : ∀ w ∈ u_ws RZone TZone 17, w ∈ T0 := u_wsIn (fun k hk => by
  match k, hk with
  | 0, _ => exact m_1_230
  | 1, _ => exact m_1_232
  | 2, _ => exact m_1_234
  | 3, _ => exact m_1_236
  | 4, _ => exact m_1_238
  | 5, _ => exact m_2_0
  | 6, _ => exact m_2_2
  | 7, _ => exact m_2_4
  | 8, _ => exact m_2_6
  | 9, _ => exact m_2_8
  | 10, _ => exact m_2_10
  | 11, _ => exact m_2_12
  | 12, _ => exact m_2_14
  | 13, _ => exact m_2_16
  | 14, _ => exact m_2_18
  | 15, _ => exact m_2_20
  | 16, _ => exact m_2_22
  | n + 17, h => exact absurd h (by omega))
theorem in_ZoneFiles : ∀ w ∈ u_ws RZoneFiles TZoneFiles 9, w ∈ T0 := u_wsIn (fun k hk => by
  match k, hk with
  | 0, _ => exact m_2_126
  | 1, _ => exact m_2_128
  | 2, _ => exact m_2_130
  | 3, _ => exact m_2_132
  | 4, _ => exact m_2_134
  | 5, _ => exact m_2_136
  | 6, _ => exact m_2_138
  | 7, _ => exact m_2_140
  | 8, _ => exact m_2_142
  | n + 9, h => exact absurd h (by omega))
theorem in_ZoneFilesModel : ∀ w ∈ u_ws RZoneFilesModel TZoneFilesModel 72, w ∈ T0 := u_wsIn (fun k hk => by
  match k, hk with
  | 0, _ => exact m_6_200
  | 1, _ => exact m_6_202
  | 2, _ => exact m_6_204
  | 3, _ => exact m_6_206
  | 4, _ => exact m_6_208
  | 5, _ => exact m_6_210
  | 6, _ => exact m_6_212
  | 7, _ => exact m_6_214
  | 8, _ => exact m_6_216
  | 9, _ => exact m_6_218
  | 10, _ => exact m_6_220
  | 11, _ => exact m_6_222
  | 12, _ => exact m_6_224
  | 13, _ => exact m_6_226
  | 14, _ => exact m_6_228
  | 15, _ => exact m_6_230
  | 16, _ => exact m_6_232
  | 17, _ => exact m_6_234
  | 18, _ => exact m_6_236
  | 19, _ => exact m_6_238
  | 20, _ => exact m_7_0
  | 21, _ => exact m_7_2
  | 22, _ => exact m_7_4
  | 23, _ => exact m_7_6
  | 24, _ => exact m_7_8
  | 25, _ => exact m_7_10
  | 26, _ => exact m_7_12
  | 27, _ => exact m_7_14
  | 28, _ => exact m_7_16
  | 29, _ => exact m_7_18
  | 30, _ => exact m_7_20
  | 31, _ => exact m_7_22
  | 32, _ => exact m_7_24
  | 33, _ => exact m_7_26
  | 34, _ => exact m_7_28
  | 35, _ => exact m_7_30
  | 36, _ => exact m_7_32
  | 37, _ => exact m_7_34
  | 38, _ => exact m_7_36
  | 39, _ => exact m_7_38
  | 40, _ => exact m_7_40
  | 41, _ => exact m_7_42
  | 42, _ => exact m_7_44
  | 43, _ => exact m_7_46
  | 44, _ => exact m_7_48
  | 45, _ => exact m_7_50
  | 46, _ => exact m_7_52
  | 47, _ => exact m_7_54
  | 48, _ => exact m_7_56
  | 49, _ => exact m_7_58
  | 50, _ => exact m_7_60
  | 51, _ => exact m_7_62
  | 52, _ => exact m_7_64
  | 53, _ => exact m_7_66
  | 54, _ => exact m_7_68
  | 55, _ => exact m_7_70
  | 56, _ => exact m_7_72
  | 57, _ => exact m_7_74
  | 58, _ => exact m_7_76
  | 59, _ => exact m_7_78
  | 60, _ => exact m_7_80
  | 61, _ => exact m_7_82
  | 62, _ => exact m_7_84
  | 63, _ => exact m_7_86
  | 64, _ => exact m_7_88
  | 65, _ => exact m_7_90
  | 66, _ => exact m_7_92
  | 67, _ => exact m_7_94
  | 68, _ => exact m_7_96
  | 69, _ => exact m_7_98
  | 70, _ => exact m_7_100
  | 71, _ => exact m_7_102
  | n + 72, h => exact absurd h (by omega))
def ms_v : Nat → Int32 := fun j => ([0, 31, 59, 90, 120, 151, 181, 212, 243, 273, 304, 334, 365] : List Int32).getD j 0
def mg_v : Nat → Int32 := fun j => ([84, 90, 105, 102] : List Int32).getD j 0
/-- words on private members of nest mates: they hold in every warmer table -/
def NW (U : State) : Prop := va_Nw (.methodLinkNest "ZoneFiles$Rule" 22 ⟨"ZoneFiles$Edge", "<init>", "()V"⟩ "ZoneFiles") U ∧ va_Nw (.methodLinkNest "ZoneFiles$TableParser" 72 ⟨"ZoneFiles", "isDigit", "(I)Z"⟩ "ZoneFiles") U ∧ va_Nw (.fieldLinkNest "ZoneFiles$FileParser" 107 "ZoneFiles" "MAGIC" "[I" "ZoneFiles") U ∧ va_Nw (.methodLinkNest "ZoneFiles$FileParser" 163 ⟨"ZoneFiles", "isInstant", "(J)Z"⟩ "ZoneFiles") U ∧ va_Nw (.methodLinkNest "ZoneFiles$FileParser" 196 ⟨"ZoneFiles", "isNameByte", "(I)Z"⟩ "ZoneFiles") U ∧ va_Nw (.methodLinkNest "ZoneFiles$RuleParser" 148 ⟨"ZoneFiles", "isNameByte", "(I)Z"⟩ "ZoneFiles") U ∧ va_Nw (.methodLinkNest "ZoneFiles$RuleParser" 151 ⟨"ZoneFiles", "isLetter", "(I)Z"⟩ "ZoneFiles") U ∧ va_Nw (.methodLinkNest "ZoneFiles$RuleParser" 112 ⟨"ZoneFiles", "isDigit", "(I)Z"⟩ "ZoneFiles") U ∧ va_Nw (.fieldLinkNest "ZoneFiles$FileWriting" 51 "ZoneFiles" "MAGIC" "[I" "ZoneFiles") U
theorem NW.warm {s U : State} (hW : s.WarmedH U.vm) (h : NW s) : NW U := by
  obtain ⟨h0, h1, h2, h3, h4, h5, h6, h7, h8⟩ := h
  exact ⟨va_Nw.warmM hW h0, va_Nw.warmM hW h1, va_Nw.warmF hW h2, va_Nw.warmM hW h3, va_Nw.warmM hW h4, va_Nw.warmM hW h5, va_Nw.warmM hW h6, va_Nw.warmM hW h7, va_Nw.warmF hW h8⟩
theorem NW.same {u U : State} (e : u.vm = U.vm) (h : NW u) : NW U := by
  obtain ⟨h0, h1, h2, h3, h4, h5, h6, h7, h8⟩ := h
  exact ⟨va_Nw.same rfl e h0, va_Nw.same rfl e h1, va_Nw.same rfl e h2, va_Nw.same rfl e h3, va_Nw.same rfl e h4, va_Nw.same rfl e h5, va_Nw.same rfl e h6, va_Nw.same rfl e h7, va_Nw.same rfl e h8⟩
/-- the statics that nobody writes, and the nest's words -/
def ST (A : Nat → Prop) (U : State) (H : Heap) : Prop := ∃ tms : Nat, va_Z "ZoneFiles$Calendar" "MONTH_STARTS" "[I" (.ref tms) A U H ∧ va_T .int tms 13 (fun j => .int (ms_v j)) A U H ∧
  ∃ tmg : Nat, va_Z "ZoneFiles" "MAGIC" "[I" (.ref tmg) A U H ∧ va_T .int tmg 4 (fun j => .int (mg_v j)) A U H ∧ NW U
theorem ST.warm {A : Nat → Prop} {s U : State} {H : Heap} (hW : s.WarmedH U.vm) (h : ST A s H) : ST A U H := by
  obtain ⟨t1, a1, b1, t2, a2, b2, n⟩ := h
  exact ⟨t1, a1.moved hW.alike, b1.moved hW.alike, t2, a2.moved hW.alike, b2.moved hW.alike, n.warm hW⟩
theorem ST.same {A : Nat → Prop} {u U : State} {H : Heap} (e : u.vm = U.vm) (h : ST A u H) : ST A U H := by
  obtain ⟨t1, a1, b1, t2, a2, b2, n⟩ := h
  have hv : u.vm.Alike U.vm := by rw [e]; exact Vm.Alike.refl _
  exact ⟨t1, a1.moved hv, b1.moved hv, t2, a2.moved hv, b2.moved hv, n.same e⟩
theorem ST.kept {A : Nat → Prop} {U : State} {H H1 : Heap} (h : ST A U H) (hq : ∀ a : Nat, a < H.size → ¬ A a → H1[a]? = H[a]?) : ST A U H1 := by
  obtain ⟨t1, a1, b1, t2, a2, b2, n⟩ := h
  exact ⟨t1, a1.kept hq, b1.kept hq, t2, a2.kept hq, b2.kept hq, n⟩
theorem ST.narrow {A B : Nat → Prop} {U : State} {H : Heap} (h : ST A U H) (hAB : ∀ q, B q → A q) : ST B U H := by
  obtain ⟨t1, a1, b1, t2, a2, b2, n⟩ := h
  exact ⟨t1, a1.narrow hAB, b1.narrow hAB, t2, a2.narrow hAB, b2.narrow hAB, n⟩
theorem ST.ro {A : Nat → Prop} {s : State} {H : Heap} {locs : List Loc} (h : ST A s s.heap) (hS : va_S A s.heap H locs) : ST (fun _ => False) s H := (h.kept hS.2.1).narrow (fun _ h => h.elim)
theorem ST.mu {A : Nat → Prop} {s : State} {H : Heap} {locs : List Loc} {wc : va_W} (h : ST A s s.heap) (hS : va_S A s.heap H locs) (hF : ∀ q, va_A wc H.size q → A q) : ST (va_A wc H.size) s H := (h.kept hS.2.1).narrow hF
-- the contracts' ends: nothing changed, the answer v; or a world behind it
def SV (v : Option Value) : Array Value → State → Outcome → State → Prop := fun _ st o t => o = .returned v ∧ t.heap = st.heap
def MV (v : Option Value) (B : State → Prop) (A : Nat → Prop) : Array Value → State → Outcome → State → Prop := fun _ st o t => (o = .returned v ∧ B t) ∧ va_F A st t
def MR (B : Nat → State → Prop) (A : Nat → Prop) : Array Value → State → Outcome → State → Prop := fun _ st o t => (∃ q : Nat, o = .returned (some (.ref q)) ∧ B q t) ∧ va_F A st t
theorem na_byte {n : Int32} (h : ¬ (n < 0 ∨ 1000000 < n.toNatClampNeg)) : n.toNatClampNeg * componentBytes .byte ≤ 536870912 := by
  have h2 : ¬ 1000000 < n.toNatClampNeg := fun z => h (Or.inr z)
  have h3 : componentBytes .byte = 1 := rfl
  rw [h3]; omega
section
variable {p : Program} {l : Launch} {e : Env} {R : Room} {s : State} {m : MethodId} {args : Array Value} {below : List Frame} {meth : Method} {c : Code} {H : Heap} {locs : List Loc} {cells slots : Nat} {Q : State → Prop}
variable {pc : Nat} {ls : Array Slot} {rest st0 st1 : List Value} {a : Array Value} {A0 A1 : Nat → Prop} {H0 : Heap} {mc ms : Nat} {free : Addr → Prop} {v : Option Value} {B : State → Prop}
theorem cl_S (hr : va_Run p l e R s m args below meth c H locs cells slots 0 0 (F0 m pc ls st0) rest (SV v a) (fun _ => False)) (hst : v.toList ++ rest = st1)
    (kk : W p l e R s m args below meth c H locs cells slots Q (F0 m (pc + 3) ls st1)) : W p l e R s m args below meth c H locs cells slots Q (F0 m pc ls st0) := by
  intro T hT X
  obtain ⟨w, st₀, t, T', L, h0, X', hL, e1, e2, ⟨hv, hh⟩, st⟩ := hr T hT X
  cases hv
  subst hst
  obtain ⟨t2, a1, b1⟩ := kk T' (by rw [e1, hh, h0]) (Stand.forget X' (fun q h => (hL q h).elim))
  exact ⟨t2, st t2 a1, b1⟩
theorem cl_M (hr : va_Run p l e R s m args below meth c H locs cells slots mc ms (F0 m pc ls st0) rest (MV v B A1 a) free) (hst : v.toList ++ rest = st1) (hS : va_S A0 H0 H locs) (hA : ∀ q, q < H.size → A1 q → A0 q) (hf : ∀ q, free q → A0 q)
    (kk : ∀ (t : State) (H1 : Heap) (locs1 : List Loc), t.heap = H1 → s.vm.Alike t.vm → B t → H.size ≤ H1.size → (∀ q : Nat, q < H.size → ¬ A1 q → H1[q]? = H[q]?) → va_S A0 H0 H1 locs1 → W p l e R s m args below meth c H1 locs1 (cells + mc) (slots + ms) Q (F0 m (pc + 3) ls st1)) : W p l e R s m args below meth c H locs cells slots Q (F0 m pc ls st0) := by
  intro T hT X
  obtain ⟨w, st₀, t, T', L, h0, X', hL, e1, e2, ⟨⟨hv, hb⟩, hz, hk⟩, st⟩ := hr T hT X
  cases hv
  subst hst
  rw [h0] at hz hk
  obtain ⟨t2, a1, b1⟩ := kk t T'.heap (locs ++ L) e1.symm (by rw [← e2]; exact X'.warmed.alike) hb (by rw [e1]; exact hz) (fun q h1 h2 => by rw [e1]; exact hk q h1 h2)
    ⟨Nat.le_trans hS.1 (by rw [e1]; exact hz), fun q h1 h2 => by rw [e1, hk q (Nat.lt_of_lt_of_le h1 hS.1) (fun z => h2 (hA q (Nat.lt_of_lt_of_le h1 hS.1) z))]; exact hS.2.1 q h1 h2, fun q hq => by
      rcases List.mem_append.mp hq with h | h
      · exact hS.2.2 q h
      · exact hf _ (hL q h)⟩ T' rfl X'
  exact ⟨t2, st t2 a1, b1⟩
theorem cl_R {B : Nat → State → Prop} (hr : va_Run p l e R s m args below meth c H locs cells slots mc ms (F0 m pc ls st0) rest (MR B A1 a) free) (hS : va_S A0 H0 H locs) (hA : ∀ q, q < H.size → A1 q → A0 q) (hf : ∀ q, free q → A0 q)
    (kk : ∀ (q : Nat) (t : State) (H1 : Heap) (locs1 : List Loc), t.heap = H1 → s.vm.Alike t.vm → B q t → H.size ≤ H1.size → (∀ q : Nat, q < H.size → ¬ A1 q → H1[q]? = H[q]?) → va_S A0 H0 H1 locs1 → W p l e R s m args below meth c H1 locs1 (cells + mc) (slots + ms) Q (F0 m (pc + 3) ls (.ref q :: rest))) : W p l e R s m args below meth c H locs cells slots Q (F0 m pc ls st0) := by
  intro T hT X
  obtain ⟨w, st₀, t, T', L, h0, X', hL, e1, e2, ⟨⟨q, hv, hb⟩, hz, hk⟩, st⟩ := hr T hT X
  cases hv
  rw [h0] at hz hk
  obtain ⟨t2, a1, b1⟩ := kk q t T'.heap (locs ++ L) e1.symm (by rw [← e2]; exact X'.warmed.alike) hb (by rw [e1]; exact hz) (fun q h1 h2 => by rw [e1]; exact hk q h1 h2)
    ⟨Nat.le_trans hS.1 (by rw [e1]; exact hz), fun q h1 h2 => by rw [e1, hk q (Nat.lt_of_lt_of_le h1 hS.1) (fun z => h2 (hA q (Nat.lt_of_lt_of_le h1 hS.1) z))]; exact hS.2.1 q h1 h2, fun q hq => by
      rcases List.mem_append.mp hq with h | h
      · exact hS.2.2 q h
      · exact hf _ (hL q h)⟩ T' rfl X'
  exact ⟨t2, st t2 a1, b1⟩
end
-- the contracts' starts
def RO (dC : Nat → ClassId) (dI : Nat → Nat → Nat) (ws : va_W) (tys : List (ClassId × FieldType)) (av : List Value) : Array Value → State → Prop :=
  va_Pc av (fun U => va_P (dC, dI) classes ws U.heap ∧ va_K (dC, dI) classes tys U ∧ ST (fun _ => False) U U.heap)
def MU (dC : Nat → ClassId) (dI : Nat → Nat → Nat) (ws : va_W) (tys : List (ClassId × FieldType)) (sz : Nat) (av : List Value) : Array Value → State → Prop :=
  va_Pc av (fun U => U.heap.size = sz ∧ va_P (dC, dI) classes ws U.heap ∧ va_K (dC, dI) classes tys U ∧ va_D (fun _ => True) ws ∧ ST (va_A ws sz) U U.heap)
def ROat (s : State) (H : Heap) (dC : Nat → ClassId) (dI : Nat → Nat → Nat) (ws : va_W) (tys : List (ClassId × FieldType)) : Prop := va_P (dC, dI) classes ws H ∧ va_K (dC, dI) classes tys s ∧ ST (fun _ => False) s H
def MUat (s : State) (H : Heap) (dC : Nat → ClassId) (dI : Nat → Nat → Nat) (ws : va_W) (tys : List (ClassId × FieldType)) : Prop := va_P (dC, dI) classes ws H ∧ va_K (dC, dI) classes tys s ∧ va_D (fun _ => True) ws ∧ ST (va_A ws H.size) s H
section
variable {s : State} {H : Heap} {dC : Nat → ClassId} {dI : Nat → Nat → Nat} {ws : va_W} {tys : List (ClassId × FieldType)} {av : List Value} {b : Addr} {As : List Value} {C : String}
theorem RO.blind : FrameBlind (RO dC dI ws tys av) := fun a U g mk q => by
  obtain ⟨q0, qP, qK, qS⟩ := q
  exact ⟨q0, qP, va_K.moved (u := U) (U := U.calling g mk a) (Vm.Alike.refl U.vm) qK, ST.same (u := U) (U := U.calling g mk a) rfl qS⟩
theorem MU.blind {sz : Nat} : FrameBlind (MU dC dI ws tys sz av) := fun a U g mk q => by
  obtain ⟨q0, q1, qP, qK, qD, qS⟩ := q
  exact ⟨q0, q1, qP, va_K.moved (u := U) (U := U.calling g mk a) (Vm.Alike.refl U.vm) qK, qD, ST.same (u := U) (U := U.calling g mk a) rfl qS⟩
theorem RO.pre (hP : va_P (dC, dI) classes ws H) (hK : va_K (dC, dI) classes tys s) (hT : ST (fun _ => False) s H) : ROat s H dC dI ws tys := ⟨hP, hK, hT⟩
theorem RO.pre0 (hK : va_K (dC, dI) classes tys s) (hT : ST (fun _ => False) s H) : ROat s H dC dI [] [] := ⟨fun k q h => by simp at h, hK.sub [] rfl, hT⟩
theorem ROat.sta (h : ROat s H dC dI ws tys) : PreS s H (RO dC dI ws tys As) As :=
  ⟨RO.blind, fun U hU hW => ⟨rfl, by rw [hU]; exact h.1, va_K.moved hW.alike h.2.1, by rw [hU]; exact ST.warm hW h.2.2⟩⟩
theorem ROat.vir (h : ROat s H dC dI ws tys) (hr : ∃ cellB : Cell, H[b]? = some cellB ∧ cellB.vm.isStatics = false ∧ s.vm.findClass C = some cellB.cls) : PreV s H C b (RO dC dI ws tys (.ref b :: As)) As :=
  ⟨RO.blind, hr, fun U hU hW => ⟨rfl, by rw [hU]; exact h.1, va_K.moved hW.alike h.2.1, by rw [hU]; exact ST.warm hW h.2.2⟩⟩
theorem MU.pre (hP : va_P (dC, dI) classes ws H) (hK : va_K (dC, dI) classes tys s) {A : Nat → Prop} (hD : va_D A ws) (hT : ST (va_A ws H.size) s H) : MUat s H dC dI ws tys := ⟨hP, hK, hD.weaken (fun _ _ _ _ => trivial), hT⟩
theorem MUat.sta (h : MUat s H dC dI ws tys) : PreS s H (MU dC dI ws tys H.size As) As :=
  ⟨MU.blind, fun U hU hW => ⟨rfl, by rw [hU], by rw [hU]; exact h.1, va_K.moved hW.alike h.2.1, h.2.2.1, by rw [hU]; exact ST.warm hW h.2.2.2⟩⟩
theorem MUat.vir (h : MUat s H dC dI ws tys) (hr : ∃ cellB : Cell, H[b]? = some cellB ∧ cellB.vm.isStatics = false ∧ s.vm.findClass C = some cellB.cls) : PreV s H C b (MU dC dI ws tys H.size (.ref b :: As)) As :=
  ⟨MU.blind, hr, fun U hU hW => ⟨rfl, by rw [hU], by rw [hU]; exact h.1, va_K.moved hW.alike h.2.1, h.2.2.1, by rw [hU]; exact ST.warm hW h.2.2.2⟩⟩
end
/-- the kit's Met.ofW for a method that no native row stands in for, whatever its class's name -/
theorem met_ofW {l : Launch} {y : MethodName} {ws ws' : List Cond} {rm : Room} {Pc : Array Value → State → Prop} {Qc : Array Value → State → Outcome → State → Prop} {mc ms : Nat} {free : Addr → Prop} {cc : ByteArray} {maxL : Nat} {ret : Option FieldType}
    (hy : plainFor y = true) (hw : ws = Cond.code y cc maxL ret :: ws')
    (body : ∀ p e s m args below meth c s₁, BodyLoose p l y (headSpec ws rm) cc maxL ret e s m args below meth c s₁ → c.maxLocals = maxL → Pc args s →
      W p l e (headSpec ws rm).room s m args below meth c s.heap [] 0 0 (MQ below Qc args s mc ms free) (entryFrame m args maxL)) : Met l y ws rm Pc Qc mc ms free := by
  refine MetFree.of_bodySF (code := cc) (maxLocals := maxL) (ret := ret) hy ?_ ?_
  · intro args s m h hn
    obtain ⟨meth, c, h1, h2, h3, h4, h5, h6, -, -⟩ := Cond.code_spec hn (atoms_spec (ws := ws) h _ (by rw [hw]; exact List.mem_cons_self))
    exact ⟨meth, c, h1, h2, h3, h4, h5, h6⟩
  · intro p e s m args below meth c s₁ B hml hP _
    have hh0 : s₁.heap = s.heap := by rw [B.state]; rfl
    obtain ⟨t, a1, o, b1, b2, b3⟩ := body p e s m args below meth c s₁ B hml hP s₁ hh0 (Stand.of_body B)
    exact ⟨t, o, a1, b1, b2, ⟨b3.1, b3.2⟩⟩
/-- a contract out of the walk of its body: nothing changes -/
theorem met_S {l : Launch} {y : MethodName} {b : ByteArray} {nL F Lc : Nat} {ret : Option FieldType} {v : Option Value} {dC : Nat → ClassId} {dI : Nat → Nat → Nat} {ws : va_W} {tys : List (ClassId × FieldType)} {av : List Value} (hy : plainFor y = true) (hn : (lg_sl av).length ≤ nL)
    (hbody : ∀ (p : Program) (e : Env) (R : Room) (s : State) (m : MethodId) (args : Array Value) (below : List Frame) (meth : Method) (c : Code) (ls : Array Slot), Cx p s m meth c args R b y.cls nL ret F Lc → ST (fun _ => False) s s.heap → va_K (dC, dI) classes tys s → va_P (dC, dI) classes ws s.heap → lv_has ls nL (lv_args 0 av) →
      W p l e R s m args below meth c s.heap [] 0 0 (MQ below (SV v) args s 0 0 (fun _ => False)) (F0 m 0 ls [])) : Met l y (wd y b nL ret) ({ frames := F, cells := 0, slots := 0, locals := Lc }) (RO dC dI ws tys av) (SV v) 0 0 (fun _ => False) := by
  refine met_ofW (cc := b) (maxL := nL) (ret := ret) hy rfl ?_
  intro p e s m args below meth c s₁ B hml0 hv
  obtain ⟨ha, hP, hK, hST⟩ := hv
  have C0 := Cx.of B hml0
  have ef : entryFrame m args nL = F0 m 0 ((lg_sl av ++ List.replicate (nL - (lg_sl av).length) Slot.unset).toArray) [] := by rw [ha]; exact lg_entry_eq _ _ _
  rw [ef]
  exact hbody p e _ s m args below meth c _ C0 hST hK hP (lv_entry av hn)
/-- .. cells change, or are made -/
theorem met_M {l : Launch} {y : MethodName} {b : ByteArray} {nL F Lc kc ks sz : Nat} {ret : Option FieldType} {Qc : Array Value → State → Outcome → State → Prop} {dC : Nat → ClassId} {dI : Nat → Nat → Nat} {ws : va_W} {tys : List (ClassId × FieldType)} {av : List Value} (hy : plainFor y = true) (hn : (lg_sl av).length ≤ nL)
    (hbody : ∀ (p : Program) (e : Env) (R : Room) (s : State) (m : MethodId) (args : Array Value) (below : List Frame) (meth : Method) (c : Code) (ls : Array Slot), R.cells = kc → R.slots = ks → s.heap.size = sz → (y.name = "<init>" → meth.name = "<init>") → Cx p s m meth c args R b y.cls nL ret F Lc → ST (va_A ws sz) s s.heap → va_K (dC, dI) classes tys s → va_P (dC, dI) classes ws s.heap → va_D (va_A ws sz) ws → lv_has ls nL (lv_args 0 av) →
      W p l e R s m args below meth c s.heap [] 0 0 (MQ below Qc args s kc ks (va_A ws sz)) (F0 m 0 ls [])) : Met l y (wd y b nL ret) ({ frames := F, cells := kc, slots := ks, locals := Lc }) (MU dC dI ws tys sz av) Qc kc ks (va_A ws sz) := by
  refine met_ofW (cc := b) (maxL := nL) (ret := ret) hy rfl ?_
  intro p e s m args below meth c s₁ B hml0 hv
  obtain ⟨ha, hsz, hP, hK, hD, hST⟩ := hv
  have C0 := Cx.of B hml0
  have ef : entryFrame m args nL = F0 m 0 ((lg_sl av ++ List.replicate (nL - (lg_sl av).length) Slot.unset).toArray) [] := by rw [ha]; exact lg_entry_eq _ _ _
  rw [ef]
  exact hbody p e _ s m args below meth c _ rfl rfl hsz (fun h => (name_of_methodNamed B.named B.method).1.trans h) C0 hST hK hP hD.self (lv_entry av hn)
