theorem m_1_17 : Cond.initialized "ZoneFiles$RuleParser" ∈ T0 := tb_1 17 rfl rfl
theorem m_1_75 : Cond.fieldLink "ZoneFiles$RuleParser" 132 "ZoneFiles$Edge" "kind" "I" ∈ T0 := tb_1 75 rfl rfl
theorem m_1_77 : Cond.fieldLink "ZoneFiles$RuleParser" 139 "ZoneFiles$Edge" "month" "I" ∈ T0 := tb_1 77 rfl rfl
theorem m_1_79 : Cond.fieldLink "ZoneFiles$RuleParser" 142 "ZoneFiles$Edge" "week" "I" ∈ T0 := tb_1 79 rfl rfl
theorem m_1_81 : Cond.fieldLink "ZoneFiles$RuleParser" 145 "ZoneFiles$Edge" "day" "I" ∈ T0 := tb_1 81 rfl rfl
theorem m_1_83 : Cond.fieldLink "ZoneFiles$RuleParser" 123 "ZoneFiles$Edge" "timeOfDay" "I" ∈ T0 := tb_1 83 rfl rfl
theorem m_1_85 : Cond.fieldLink "ZoneFiles$RuleParser" 59 "ZoneFiles$Edge" "clockOffset" "I" ∈ T0 := tb_1 85 rfl rfl
theorem m_1_104 : Cond.fieldLink "ZoneFiles$RuleParser" 67 "ZoneFiles$Rule" "text" "LZoneFiles$Bytes;" ∈ T0 := tb_1 104 rfl rfl
theorem m_1_108 : Cond.fieldLink "ZoneFiles$RuleParser" 43 "ZoneFiles$Rule" "begin" "LZoneFiles$Edge;" ∈ T0 := tb_1 108 rfl rfl
theorem m_1_111 : Cond.fieldLink "ZoneFiles$RuleParser" 51 "ZoneFiles$Rule" "end" "LZoneFiles$Edge;" ∈ T0 := tb_1 111 rfl rfl
theorem m_1_113 : Cond.fieldLink "ZoneFiles$RuleParser" 53 "ZoneFiles$Rule" "hasSummer" "Z" ∈ T0 := tb_1 113 rfl rfl
theorem m_1_117 : Cond.fieldLink "ZoneFiles$RuleParser" 126 "ZoneFiles$Rule" "needsWide" "Z" ∈ T0 := tb_1 117 rfl rfl
theorem m_1_120 : Cond.fieldLink "ZoneFiles$RuleParser" 56 "ZoneFiles$Rule" "standardOffset" "I" ∈ T0 := tb_1 120 rfl rfl
theorem m_1_123 : Cond.fieldLink "ZoneFiles$RuleParser" 64 "ZoneFiles$Rule" "summerOffset" "I" ∈ T0 := tb_1 123 rfl rfl
theorem m_1_126 : Cond.fieldLink "ZoneFiles$RuleParser" 86 "ZoneFiles$Rule" "standardNamePlace" "I" ∈ T0 := tb_1 126 rfl rfl
theorem m_1_130 : Cond.fieldLink "ZoneFiles$RuleParser" 92 "ZoneFiles$Rule" "standardNameSize" "I" ∈ T0 := tb_1 130 rfl rfl
theorem m_1_132 : Cond.fieldLink "ZoneFiles$RuleParser" 98 "ZoneFiles$Rule" "summerNamePlace" "I" ∈ T0 := tb_1 132 rfl rfl
theorem m_1_135 : Cond.fieldLink "ZoneFiles$RuleParser" 101 "ZoneFiles$Rule" "summerNameSize" "I" ∈ T0 := tb_1 135 rfl rfl
theorem m_3_8 : Cond.instanceMethod ⟨"ZoneFiles$Bytes", "putAll", "(LZoneFiles$Bytes;II)V"⟩ ∈ T0 := tb_3 8 rfl rfl
theorem m_3_9 : Cond.selects "ZoneFiles$Bytes" ⟨"ZoneFiles$Bytes", "putAll", "(LZoneFiles$Bytes;II)V"⟩ ⟨"ZoneFiles$Bytes", "putAll", "(LZoneFiles$Bytes;II)V"⟩ ∈ T0 := tb_3 9 rfl rfl
theorem m_3_10 : Cond.code ⟨"ZoneFiles$Bytes", "putAll", "(LZoneFiles$Bytes;II)V"⟩ prog_2_method_4_code 5 none ∈ T0 := tb_3 10 rfl rfl
theorem m_4_20 : Cond.static ⟨"ZoneFiles", "isNameByte", "(I)Z"⟩ ∈ T0 := tb_4 20 rfl rfl
theorem m_4_21 : Cond.code ⟨"ZoneFiles", "isNameByte", "(I)Z"⟩ prog_1_method_36_code 1 (some .boolean) ∈ T0 := tb_4 21 rfl rfl
theorem m_4_50 : Cond.methodLink "ZoneFiles$RuleParser" 1 ⟨"java/lang/Object", "<init>", "()V"⟩ ∈ T0 := tb_4 50 rfl rfl
theorem m_4_51 : Cond.fieldLink "ZoneFiles$RuleParser" 28 "ZoneFiles$RuleParser" "pos" "I" ∈ T0 := tb_4 51 rfl rfl
theorem m_4_54 : Cond.fieldLink "ZoneFiles$RuleParser" 7 "ZoneFiles$RuleParser" "tape" "LZoneFiles$Bytes;" ∈ T0 := tb_4 54 rfl rfl
theorem m_4_55 : Cond.fieldLink "ZoneFiles$RuleParser" 13 "ZoneFiles$RuleParser" "start" "I" ∈ T0 := tb_4 55 rfl rfl
theorem m_4_56 : Cond.fieldLink "ZoneFiles$RuleParser" 17 "ZoneFiles$RuleParser" "end" "I" ∈ T0 := tb_4 56 rfl rfl
theorem m_4_57 : Cond.fieldLink "ZoneFiles$RuleParser" 20 "ZoneFiles$RuleParser" "wide" "Z" ∈ T0 := tb_4 57 rfl rfl
theorem m_4_58 : Cond.fieldLink "ZoneFiles$RuleParser" 24 "ZoneFiles$RuleParser" "rule" "LZoneFiles$Rule;" ∈ T0 := tb_4 58 rfl rfl
theorem m_4_59 : Cond.fieldLink "ZoneFiles$RuleParser" 83 "ZoneFiles$RuleParser" "namePlace" "I" ∈ T0 := tb_4 59 rfl rfl
theorem m_4_60 : Cond.fieldLink "ZoneFiles$RuleParser" 89 "ZoneFiles$RuleParser" "nameSize" "I" ∈ T0 := tb_4 60 rfl rfl
theorem m_4_61 : Cond.fieldLink "ZoneFiles$RuleParser" 95 "ZoneFiles$RuleParser" "amount" "I" ∈ T0 := tb_4 61 rfl rfl
theorem m_4_62 : Cond.fieldLink "ZoneFiles$RuleParser" 129 "ZoneFiles$RuleParser" "amountIsWide" "Z" ∈ T0 := tb_4 62 rfl rfl
theorem m_4_88 : Cond.methodLink "ZoneFiles$RuleParser" 31 ⟨"ZoneFiles$Rule", "clear", "()V"⟩ ∈ T0 := tb_4 88 rfl rfl
theorem m_4_89 : Cond.methodLink "ZoneFiles$RuleParser" 36 ⟨"ZoneFiles$RuleParser", "readStandard", "()Z"⟩ ∈ T0 := tb_4 89 rfl rfl
theorem m_4_91 : Cond.instanceMethod ⟨"ZoneFiles$RuleParser", "readStandard", "()Z"⟩ ∈ T0 := tb_4 91 rfl rfl
theorem m_4_92 : Cond.code ⟨"ZoneFiles$RuleParser", "readStandard", "()Z"⟩ prog_10_method_3_code 1 (some .boolean) ∈ T0 := tb_4 92 rfl rfl
theorem m_4_93 : Cond.methodLink "ZoneFiles$RuleParser" 76 ⟨"ZoneFiles$RuleParser", "readName", "()Z"⟩ ∈ T0 := tb_4 93 rfl rfl
theorem m_4_95 : Cond.instanceMethod ⟨"ZoneFiles$RuleParser", "readName", "()Z"⟩ ∈ T0 := tb_4 95 rfl rfl
theorem m_4_96 : Cond.code ⟨"ZoneFiles$RuleParser", "readName", "()Z"⟩ prog_10_method_7_code 3 (some .boolean) ∈ T0 := tb_4 96 rfl rfl
theorem m_4_97 : Cond.methodLink "ZoneFiles$RuleParser" 117 ⟨"ZoneFiles$RuleParser", "pass", "(I)Z"⟩ ∈ T0 := tb_4 97 rfl rfl
theorem m_4_99 : Cond.instanceMethod ⟨"ZoneFiles$RuleParser", "pass", "(I)Z"⟩ ∈ T0 := tb_4 99 rfl rfl
theorem m_4_100 : Cond.code ⟨"ZoneFiles$RuleParser", "pass", "(I)Z"⟩ prog_10_method_10_code 2 (some .boolean) ∈ T0 := tb_4 100 rfl rfl
theorem m_4_101 : Cond.methodLink "ZoneFiles$RuleParser" 104 ⟨"ZoneFiles$RuleParser", "peek", "()I"⟩ ∈ T0 := tb_4 101 rfl rfl
theorem m_4_103 : Cond.instanceMethod ⟨"ZoneFiles$RuleParser", "peek", "()I"⟩ ∈ T0 := tb_4 103 rfl rfl
theorem m_4_104 : Cond.code ⟨"ZoneFiles$RuleParser", "peek", "()I"⟩ prog_10_method_11_code 1 (some .int) ∈ T0 := tb_4 104 rfl rfl
theorem m_4_105 : Cond.methodLink "ZoneFiles$RuleParser" 154 ⟨"ZoneFiles$Bytes", "get", "(I)I"⟩ ∈ T0 := tb_4 105 rfl rfl
theorem m_4_108 : Cond.methodLink "ZoneFiles$RuleParser" 79 ⟨"ZoneFiles$RuleParser", "readAmount", "(ZI)Z"⟩ ∈ T0 := tb_4 108 rfl rfl
theorem m_4_110 : Cond.instanceMethod ⟨"ZoneFiles$RuleParser", "readAmount", "(ZI)Z"⟩ ∈ T0 := tb_4 110 rfl rfl
theorem m_4_111 : Cond.code ⟨"ZoneFiles$RuleParser", "readAmount", "(ZI)Z"⟩ prog_10_method_8_code 9 (some .boolean) ∈ T0 := tb_4 111 rfl rfl
theorem m_4_112 : Cond.methodLink "ZoneFiles$RuleParser" 108 ⟨"ZoneFiles$RuleParser", "isSign", "(I)Z"⟩ ∈ T0 := tb_4 112 rfl rfl
theorem m_4_113 : Cond.static ⟨"ZoneFiles$RuleParser", "isSign", "(I)Z"⟩ ∈ T0 := tb_4 113 rfl rfl
theorem m_4_114 : Cond.code ⟨"ZoneFiles$RuleParser", "isSign", "(I)Z"⟩ prog_10_method_12_code 1 (some .boolean) ∈ T0 := tb_4 114 rfl rfl
theorem m_4_115 : Cond.methodLink "ZoneFiles$RuleParser" 135 ⟨"ZoneFiles$RuleParser", "readNumber", "(II)I"⟩ ∈ T0 := tb_4 115 rfl rfl
theorem m_4_117 : Cond.instanceMethod ⟨"ZoneFiles$RuleParser", "readNumber", "(II)I"⟩ ∈ T0 := tb_4 117 rfl rfl
theorem m_4_118 : Cond.code ⟨"ZoneFiles$RuleParser", "readNumber", "(II)I"⟩ prog_10_method_9_code 6 (some .int) ∈ T0 := tb_4 118 rfl rfl
theorem m_4_120 : Cond.methodLink "ZoneFiles$RuleParser" 40 ⟨"ZoneFiles$RuleParser", "readSummer", "()Z"⟩ ∈ T0 := tb_4 120 rfl rfl
theorem m_4_122 : Cond.instanceMethod ⟨"ZoneFiles$RuleParser", "readSummer", "()Z"⟩ ∈ T0 := tb_4 122 rfl rfl
theorem m_4_123 : Cond.code ⟨"ZoneFiles$RuleParser", "readSummer", "()Z"⟩ prog_10_method_4_code 2 (some .boolean) ∈ T0 := tb_4 123 rfl rfl
theorem m_4_124 : Cond.methodLink "ZoneFiles$RuleParser" 47 ⟨"ZoneFiles$RuleParser", "readEdge", "(LZoneFiles$Edge;)Z"⟩ ∈ T0 := tb_4 124 rfl rfl
theorem m_4_126 : Cond.instanceMethod ⟨"ZoneFiles$RuleParser", "readEdge", "(LZoneFiles$Edge;)Z"⟩ ∈ T0 := tb_4 126 rfl rfl
theorem m_4_127 : Cond.code ⟨"ZoneFiles$RuleParser", "readEdge", "(LZoneFiles$Edge;)Z"⟩ prog_10_method_5_code 2 (some .boolean) ∈ T0 := tb_4 127 rfl rfl
theorem m_4_128 : Cond.methodLink "ZoneFiles$RuleParser" 120 ⟨"ZoneFiles$RuleParser", "readDay", "(LZoneFiles$Edge;)Z"⟩ ∈ T0 := tb_4 128 rfl rfl
theorem m_4_130 : Cond.instanceMethod ⟨"ZoneFiles$RuleParser", "readDay", "(LZoneFiles$Edge;)Z"⟩ ∈ T0 := tb_4 130 rfl rfl
theorem m_4_131 : Cond.code ⟨"ZoneFiles$RuleParser", "readDay", "(LZoneFiles$Edge;)Z"⟩ prog_10_method_6_code 2 (some .boolean) ∈ T0 := tb_4 131 rfl rfl
theorem m_4_132 : Cond.methodLink "ZoneFiles$RuleParser" 70 ⟨"ZoneFiles$Bytes", "putAll", "(LZoneFiles$Bytes;II)V"⟩ ∈ T0 := tb_4 132 rfl rfl
theorem msel_30 : Cond.selects "ZoneFiles$RuleParser" ⟨"ZoneFiles$RuleParser", "readStandard", "()Z"⟩ ⟨"ZoneFiles$RuleParser", "readStandard", "()Z"⟩ ∈ T0 := ps_2 (q := (⟨"ZoneFiles$RuleParser", "readStandard", "()Z"⟩, 10)) 14 rfl
theorem msel_31 : Cond.selects "ZoneFiles$RuleParser" ⟨"ZoneFiles$RuleParser", "readName", "()Z"⟩ ⟨"ZoneFiles$RuleParser", "readName", "()Z"⟩ ∈ T0 := ps_2 (q := (⟨"ZoneFiles$RuleParser", "readName", "()Z"⟩, 10)) 15 rfl
theorem msel_32 : Cond.selects "ZoneFiles$RuleParser" ⟨"ZoneFiles$RuleParser", "pass", "(I)Z"⟩ ⟨"ZoneFiles$RuleParser", "pass", "(I)Z"⟩ ∈ T0 := ps_3 (q := (⟨"ZoneFiles$RuleParser", "pass", "(I)Z"⟩, 10)) 0 rfl
theorem msel_33 : Cond.selects "ZoneFiles$RuleParser" ⟨"ZoneFiles$RuleParser", "peek", "()I"⟩ ⟨"ZoneFiles$RuleParser", "peek", "()I"⟩ ∈ T0 := ps_3 (q := (⟨"ZoneFiles$RuleParser", "peek", "()I"⟩, 10)) 1 rfl
theorem msel_34 : Cond.selects "ZoneFiles$RuleParser" ⟨"ZoneFiles$RuleParser", "readAmount", "(ZI)Z"⟩ ⟨"ZoneFiles$RuleParser", "readAmount", "(ZI)Z"⟩ ∈ T0 := ps_3 (q := (⟨"ZoneFiles$RuleParser", "readAmount", "(ZI)Z"⟩, 10)) 2 rfl
theorem msel_35 : Cond.selects "ZoneFiles$RuleParser" ⟨"ZoneFiles$RuleParser", "readNumber", "(II)I"⟩ ⟨"ZoneFiles$RuleParser", "readNumber", "(II)I"⟩ ∈ T0 := ps_3 (q := (⟨"ZoneFiles$RuleParser", "readNumber", "(II)I"⟩, 10)) 3 rfl
theorem msel_36 : Cond.selects "ZoneFiles$RuleParser" ⟨"ZoneFiles$RuleParser", "readSummer", "()Z"⟩ ⟨"ZoneFiles$RuleParser", "readSummer", "()Z"⟩ ∈ T0 := ps_3 (q := (⟨"ZoneFiles$RuleParser", "readSummer", "()Z"⟩, 10)) 4 rfl
theorem msel_37 : Cond.selects "ZoneFiles$RuleParser" ⟨"ZoneFiles$RuleParser", "readEdge", "(LZoneFiles$Edge;)Z"⟩ ⟨"ZoneFiles$RuleParser", "readEdge", "(LZoneFiles$Edge;)Z"⟩ ∈ T0 := ps_3 (q := (⟨"ZoneFiles$RuleParser", "readEdge", "(LZoneFiles$Edge;)Z"⟩, 10)) 5 rfl
theorem msel_38 : Cond.selects "ZoneFiles$RuleParser" ⟨"ZoneFiles$RuleParser", "readDay", "(LZoneFiles$Edge;)Z"⟩ ⟨"ZoneFiles$RuleParser", "readDay", "(LZoneFiles$Edge;)Z"⟩ ∈ T0 := ps_3 (q := (⟨"ZoneFiles$RuleParser", "readDay", "(LZoneFiles$Edge;)Z"⟩, 10)) 6 rfl
abbrev b_RP_peek : ByteArray := prog_10_method_11_code
def y_RP_peek : MethodName := ⟨"ZoneFiles$RuleParser", "peek", "()I"⟩
theorem d_RP_peek_0 : decode b_RP_peek 0 = .ok (.aload_n 0, 1) := by decide +kernel
theorem d_RP_peek_1 : decode b_RP_peek 1 = .ok (.getfield 28, 3) := by decide +kernel
theorem d_RP_peek_4 : decode b_RP_peek 4 = .ok (.aload_n 0, 1) := by decide +kernel
theorem d_RP_peek_5 : decode b_RP_peek 5 = .ok (.getfield 17, 3) := by decide +kernel
theorem d_RP_peek_8 : decode b_RP_peek 8 = .ok (.if_icmp .ge 17, 3) := by decide +kernel
theorem d_RP_peek_11 : decode b_RP_peek 11 = .ok (.aload_n 0, 1) := by decide +kernel
theorem d_RP_peek_12 : decode b_RP_peek 12 = .ok (.getfield 7, 3) := by decide +kernel
theorem d_RP_peek_15 : decode b_RP_peek 15 = .ok (.aload_n 0, 1) := by decide +kernel
theorem d_RP_peek_16 : decode b_RP_peek 16 = .ok (.getfield 28, 3) := by decide +kernel
theorem d_RP_peek_19 : decode b_RP_peek 19 = .ok (.invokevirtual 154, 3) := by decide +kernel
theorem d_RP_peek_22 : decode b_RP_peek 22 = .ok (.goto 4, 3) := by decide +kernel
theorem d_RP_peek_25 : decode b_RP_peek 25 = .ok (.iconst (-1), 1) := by decide +kernel
theorem d_RP_peek_26 : decode b_RP_peek 26 = .ok (.ireturn, 1) := by decide +kernel
abbrev b_RP_pass : ByteArray := prog_10_method_10_code
def y_RP_pass : MethodName := ⟨"ZoneFiles$RuleParser", "pass", "(I)Z"⟩
theorem d_RP_pass_0 : decode b_RP_pass 0 = .ok (.aload_n 0, 1) := by decide +kernel
theorem d_RP_pass_1 : decode b_RP_pass 1 = .ok (.invokevirtual 104, 3) := by decide +kernel
theorem d_RP_pass_4 : decode b_RP_pass 4 = .ok (.iload_n 1, 1) := by decide +kernel
theorem d_RP_pass_5 : decode b_RP_pass 5 = .ok (.if_icmp .eq 5, 3) := by decide +kernel
theorem d_RP_pass_8 : decode b_RP_pass 8 = .ok (.iconst 0, 1) := by decide +kernel
theorem d_RP_pass_9 : decode b_RP_pass 9 = .ok (.ireturn, 1) := by decide +kernel
theorem d_RP_pass_10 : decode b_RP_pass 10 = .ok (.aload_n 0, 1) := by decide +kernel
theorem d_RP_pass_11 : decode b_RP_pass 11 = .ok (.dup, 1) := by decide +kernel
theorem d_RP_pass_12 : decode b_RP_pass 12 = .ok (.getfield 28, 3) := by decide +kernel
theorem d_RP_pass_15 : decode b_RP_pass 15 = .ok (.iconst 1, 1) := by decide +kernel
theorem d_RP_pass_16 : decode b_RP_pass 16 = .ok (.iadd, 1) := by decide +kernel
theorem d_RP_pass_17 : decode b_RP_pass 17 = .ok (.putfield 28, 3) := by decide +kernel
theorem d_RP_pass_20 : decode b_RP_pass 20 = .ok (.iconst 1, 1) := by decide +kernel
theorem d_RP_pass_21 : decode b_RP_pass 21 = .ok (.ireturn, 1) := by decide +kernel
abbrev b_RP_readNumber : ByteArray := prog_10_method_9_code
def y_RP_readNumber : MethodName := ⟨"ZoneFiles$RuleParser", "readNumber", "(II)I"⟩
theorem d_RP_readNumber_0 : decode b_RP_readNumber 0 = .ok (.aload_n 0, 1) := by decide +kernel
theorem d_RP_readNumber_1 : decode b_RP_readNumber 1 = .ok (.getfield 28, 3) := by decide +kernel
theorem d_RP_readNumber_4 : decode b_RP_readNumber 4 = .ok (.istore_n 3, 1) := by decide +kernel
theorem d_RP_readNumber_5 : decode b_RP_readNumber 5 = .ok (.iconst 0, 1) := by decide +kernel
theorem d_RP_readNumber_6 : decode b_RP_readNumber 6 = .ok (.istore 4, 2) := by decide +kernel
theorem d_RP_readNumber_8 : decode b_RP_readNumber 8 = .ok (.iconst 0, 1) := by decide +kernel
theorem d_RP_readNumber_9 : decode b_RP_readNumber 9 = .ok (.istore 5, 2) := by decide +kernel
theorem d_RP_readNumber_11 : decode b_RP_readNumber 11 = .ok (.iload 5, 2) := by decide +kernel
theorem d_RP_readNumber_13 : decode b_RP_readNumber 13 = .ok (.iconst 3, 1) := by decide +kernel
theorem d_RP_readNumber_14 : decode b_RP_readNumber 14 = .ok (.if_icmp .ge 44, 3) := by decide +kernel
theorem d_RP_readNumber_17 : decode b_RP_readNumber 17 = .ok (.aload_n 0, 1) := by decide +kernel
theorem d_RP_readNumber_18 : decode b_RP_readNumber 18 = .ok (.invokevirtual 104, 3) := by decide +kernel
theorem d_RP_readNumber_21 : decode b_RP_readNumber 21 = .ok (.invokestatic 112, 3) := by decide +kernel
theorem d_RP_readNumber_24 : decode b_RP_readNumber 24 = .ok (.ifCond .eq 34, 3) := by decide +kernel
theorem d_RP_readNumber_27 : decode b_RP_readNumber 27 = .ok (.bipush 10, 2) := by decide +kernel
theorem d_RP_readNumber_29 : decode b_RP_readNumber 29 = .ok (.iload 4, 2) := by decide +kernel
theorem d_RP_readNumber_31 : decode b_RP_readNumber 31 = .ok (.imul, 1) := by decide +kernel
theorem d_RP_readNumber_32 : decode b_RP_readNumber 32 = .ok (.aload_n 0, 1) := by decide +kernel
theorem d_RP_readNumber_33 : decode b_RP_readNumber 33 = .ok (.invokevirtual 104, 3) := by decide +kernel
theorem d_RP_readNumber_36 : decode b_RP_readNumber 36 = .ok (.iadd, 1) := by decide +kernel
theorem d_RP_readNumber_37 : decode b_RP_readNumber 37 = .ok (.bipush 48, 2) := by decide +kernel
theorem d_RP_readNumber_39 : decode b_RP_readNumber 39 = .ok (.isub, 1) := by decide +kernel
theorem d_RP_readNumber_40 : decode b_RP_readNumber 40 = .ok (.istore 4, 2) := by decide +kernel
theorem d_RP_readNumber_42 : decode b_RP_readNumber 42 = .ok (.aload_n 0, 1) := by decide +kernel
theorem d_RP_readNumber_43 : decode b_RP_readNumber 43 = .ok (.dup, 1) := by decide +kernel
theorem d_RP_readNumber_44 : decode b_RP_readNumber 44 = .ok (.getfield 28, 3) := by decide +kernel
theorem d_RP_readNumber_47 : decode b_RP_readNumber 47 = .ok (.iconst 1, 1) := by decide +kernel
theorem d_RP_readNumber_48 : decode b_RP_readNumber 48 = .ok (.iadd, 1) := by decide +kernel
theorem d_RP_readNumber_49 : decode b_RP_readNumber 49 = .ok (.putfield 28, 3) := by decide +kernel
theorem d_RP_readNumber_52 : decode b_RP_readNumber 52 = .ok (.iinc 5 1, 3) := by decide +kernel
theorem d_RP_readNumber_55 : decode b_RP_readNumber 55 = .ok (.goto (-44), 3) := by decide +kernel
theorem d_RP_readNumber_58 : decode b_RP_readNumber 58 = .ok (.aload_n 0, 1) := by decide +kernel
theorem d_RP_readNumber_59 : decode b_RP_readNumber 59 = .ok (.getfield 28, 3) := by decide +kernel
theorem d_RP_readNumber_62 : decode b_RP_readNumber 62 = .ok (.iload_n 3, 1) := by decide +kernel
theorem d_RP_readNumber_63 : decode b_RP_readNumber 63 = .ok (.if_icmp .eq 13, 3) := by decide +kernel
theorem d_RP_readNumber_66 : decode b_RP_readNumber 66 = .ok (.aload_n 0, 1) := by decide +kernel
theorem d_RP_readNumber_67 : decode b_RP_readNumber 67 = .ok (.invokevirtual 104, 3) := by decide +kernel
theorem d_RP_readNumber_70 : decode b_RP_readNumber 70 = .ok (.invokestatic 112, 3) := by decide +kernel
theorem d_RP_readNumber_73 : decode b_RP_readNumber 73 = .ok (.ifCond .eq 5, 3) := by decide +kernel
theorem d_RP_readNumber_76 : decode b_RP_readNumber 76 = .ok (.iconst (-1), 1) := by decide +kernel
theorem d_RP_readNumber_77 : decode b_RP_readNumber 77 = .ok (.ireturn, 1) := by decide +kernel
theorem d_RP_readNumber_78 : decode b_RP_readNumber 78 = .ok (.iload 4, 2) := by decide +kernel
theorem d_RP_readNumber_80 : decode b_RP_readNumber 80 = .ok (.iload_n 1, 1) := by decide +kernel
theorem d_RP_readNumber_81 : decode b_RP_readNumber 81 = .ok (.if_icmp .lt 9, 3) := by decide +kernel
theorem d_RP_readNumber_84 : decode b_RP_readNumber 84 = .ok (.iload 4, 2) := by decide +kernel
theorem d_RP_readNumber_86 : decode b_RP_readNumber 86 = .ok (.iload_n 2, 1) := by decide +kernel
theorem d_RP_readNumber_87 : decode b_RP_readNumber 87 = .ok (.if_icmp .le 10, 3) := by decide +kernel
theorem d_RP_readNumber_90 : decode b_RP_readNumber 90 = .ok (.aload_n 0, 1) := by decide +kernel
theorem d_RP_readNumber_91 : decode b_RP_readNumber 91 = .ok (.iload_n 3, 1) := by decide +kernel
theorem d_RP_readNumber_92 : decode b_RP_readNumber 92 = .ok (.putfield 28, 3) := by decide +kernel
theorem d_RP_readNumber_95 : decode b_RP_readNumber 95 = .ok (.iconst (-1), 1) := by decide +kernel
theorem d_RP_readNumber_96 : decode b_RP_readNumber 96 = .ok (.ireturn, 1) := by decide +kernel
theorem d_RP_readNumber_97 : decode b_RP_readNumber 97 = .ok (.iload 4, 2) := by decide +kernel
theorem d_RP_readNumber_99 : decode b_RP_readNumber 99 = .ok (.ireturn, 1) := by decide +kernel
abbrev b_RP_readAmount : ByteArray := prog_10_method_8_code
def y_RP_readAmount : MethodName := ⟨"ZoneFiles$RuleParser", "readAmount", "(ZI)Z"⟩
theorem d_RP_readAmount_0 : decode b_RP_readAmount 0 = .ok (.iload_n 1, 1) := by decide +kernel
theorem d_RP_readAmount_1 : decode b_RP_readAmount 1 = .ok (.ifCond .eq 16, 3) := by decide +kernel
theorem d_RP_readAmount_4 : decode b_RP_readAmount 4 = .ok (.aload_n 0, 1) := by decide +kernel
theorem d_RP_readAmount_5 : decode b_RP_readAmount 5 = .ok (.invokevirtual 104, 3) := by decide +kernel
theorem d_RP_readAmount_8 : decode b_RP_readAmount 8 = .ok (.bipush 45, 2) := by decide +kernel
theorem d_RP_readAmount_10 : decode b_RP_readAmount 10 = .ok (.if_icmp .ne 7, 3) := by decide +kernel
theorem d_RP_readAmount_13 : decode b_RP_readAmount 13 = .ok (.iconst 1, 1) := by decide +kernel
theorem d_RP_readAmount_14 : decode b_RP_readAmount 14 = .ok (.goto 4, 3) := by decide +kernel
theorem d_RP_readAmount_17 : decode b_RP_readAmount 17 = .ok (.iconst 0, 1) := by decide +kernel
theorem d_RP_readAmount_18 : decode b_RP_readAmount 18 = .ok (.istore_n 3, 1) := by decide +kernel
theorem d_RP_readAmount_19 : decode b_RP_readAmount 19 = .ok (.iload_n 1, 1) := by decide +kernel
theorem d_RP_readAmount_20 : decode b_RP_readAmount 20 = .ok (.ifCond .eq 17, 3) := by decide +kernel
theorem d_RP_readAmount_23 : decode b_RP_readAmount 23 = .ok (.aload_n 0, 1) := by decide +kernel
theorem d_RP_readAmount_24 : decode b_RP_readAmount 24 = .ok (.invokevirtual 104, 3) := by decide +kernel
theorem d_RP_readAmount_27 : decode b_RP_readAmount 27 = .ok (.invokestatic 108, 3) := by decide +kernel
theorem d_RP_readAmount_30 : decode b_RP_readAmount 30 = .ok (.ifCond .eq 7, 3) := by decide +kernel
theorem d_RP_readAmount_33 : decode b_RP_readAmount 33 = .ok (.iconst 1, 1) := by decide +kernel
theorem d_RP_readAmount_34 : decode b_RP_readAmount 34 = .ok (.goto 4, 3) := by decide +kernel
theorem d_RP_readAmount_37 : decode b_RP_readAmount 37 = .ok (.iconst 0, 1) := by decide +kernel
theorem d_RP_readAmount_38 : decode b_RP_readAmount 38 = .ok (.istore 4, 2) := by decide +kernel
theorem d_RP_readAmount_40 : decode b_RP_readAmount 40 = .ok (.iload 4, 2) := by decide +kernel
theorem d_RP_readAmount_42 : decode b_RP_readAmount 42 = .ok (.ifCond .eq 13, 3) := by decide +kernel
theorem d_RP_readAmount_45 : decode b_RP_readAmount 45 = .ok (.aload_n 0, 1) := by decide +kernel
theorem d_RP_readAmount_46 : decode b_RP_readAmount 46 = .ok (.dup, 1) := by decide +kernel
theorem d_RP_readAmount_47 : decode b_RP_readAmount 47 = .ok (.getfield 28, 3) := by decide +kernel
theorem d_RP_readAmount_50 : decode b_RP_readAmount 50 = .ok (.iconst 1, 1) := by decide +kernel
theorem d_RP_readAmount_51 : decode b_RP_readAmount 51 = .ok (.iadd, 1) := by decide +kernel
theorem d_RP_readAmount_52 : decode b_RP_readAmount 52 = .ok (.putfield 28, 3) := by decide +kernel
theorem d_RP_readAmount_55 : decode b_RP_readAmount 55 = .ok (.aload_n 0, 1) := by decide +kernel
theorem d_RP_readAmount_56 : decode b_RP_readAmount 56 = .ok (.iconst 0, 1) := by decide +kernel
theorem d_RP_readAmount_57 : decode b_RP_readAmount 57 = .ok (.iload_n 2, 1) := by decide +kernel
theorem d_RP_readAmount_58 : decode b_RP_readAmount 58 = .ok (.invokevirtual 135, 3) := by decide +kernel
theorem d_RP_readAmount_61 : decode b_RP_readAmount 61 = .ok (.istore 5, 2) := by decide +kernel
theorem d_RP_readAmount_63 : decode b_RP_readAmount 63 = .ok (.iload 5, 2) := by decide +kernel
theorem d_RP_readAmount_65 : decode b_RP_readAmount 65 = .ok (.ifCond .ge 5, 3) := by decide +kernel
theorem d_RP_readAmount_68 : decode b_RP_readAmount 68 = .ok (.iconst 0, 1) := by decide +kernel
theorem d_RP_readAmount_69 : decode b_RP_readAmount 69 = .ok (.ireturn, 1) := by decide +kernel
theorem d_RP_readAmount_70 : decode b_RP_readAmount 70 = .ok (.iconst 0, 1) := by decide +kernel
theorem d_RP_readAmount_71 : decode b_RP_readAmount 71 = .ok (.istore 6, 2) := by decide +kernel
theorem d_RP_readAmount_73 : decode b_RP_readAmount 73 = .ok (.iconst 0, 1) := by decide +kernel
theorem d_RP_readAmount_74 : decode b_RP_readAmount 74 = .ok (.istore 7, 2) := by decide +kernel
theorem d_RP_readAmount_76 : decode b_RP_readAmount 76 = .ok (.aload_n 0, 1) := by decide +kernel
theorem d_RP_readAmount_77 : decode b_RP_readAmount 77 = .ok (.bipush 58, 2) := by decide +kernel
theorem d_RP_readAmount_79 : decode b_RP_readAmount 79 = .ok (.invokevirtual 117, 3) := by decide +kernel
theorem d_RP_readAmount_82 : decode b_RP_readAmount 82 = .ok (.ifCond .eq 35, 3) := by decide +kernel
theorem d_RP_readAmount_85 : decode b_RP_readAmount 85 = .ok (.aload_n 0, 1) := by decide +kernel
theorem d_RP_readAmount_86 : decode b_RP_readAmount 86 = .ok (.iconst 0, 1) := by decide +kernel
theorem d_RP_readAmount_87 : decode b_RP_readAmount 87 = .ok (.bipush 59, 2) := by decide +kernel
theorem d_RP_readAmount_89 : decode b_RP_readAmount 89 = .ok (.invokevirtual 135, 3) := by decide +kernel
theorem d_RP_readAmount_92 : decode b_RP_readAmount 92 = .ok (.istore 6, 2) := by decide +kernel
theorem d_RP_readAmount_94 : decode b_RP_readAmount 94 = .ok (.iload 6, 2) := by decide +kernel
theorem d_RP_readAmount_96 : decode b_RP_readAmount 96 = .ok (.ifCond .lt 21, 3) := by decide +kernel
theorem d_RP_readAmount_99 : decode b_RP_readAmount 99 = .ok (.aload_n 0, 1) := by decide +kernel
theorem d_RP_readAmount_100 : decode b_RP_readAmount 100 = .ok (.bipush 58, 2) := by decide +kernel
theorem d_RP_readAmount_102 : decode b_RP_readAmount 102 = .ok (.invokevirtual 117, 3) := by decide +kernel
theorem d_RP_readAmount_105 : decode b_RP_readAmount 105 = .ok (.ifCond .eq 12, 3) := by decide +kernel
theorem d_RP_readAmount_108 : decode b_RP_readAmount 108 = .ok (.aload_n 0, 1) := by decide +kernel
theorem d_RP_readAmount_109 : decode b_RP_readAmount 109 = .ok (.iconst 0, 1) := by decide +kernel
theorem d_RP_readAmount_110 : decode b_RP_readAmount 110 = .ok (.bipush 59, 2) := by decide +kernel
theorem d_RP_readAmount_112 : decode b_RP_readAmount 112 = .ok (.invokevirtual 135, 3) := by decide +kernel
theorem d_RP_readAmount_115 : decode b_RP_readAmount 115 = .ok (.istore 7, 2) := by decide +kernel
theorem d_RP_readAmount_117 : decode b_RP_readAmount 117 = .ok (.sipush 3600, 3) := by decide +kernel
theorem d_RP_readAmount_120 : decode b_RP_readAmount 120 = .ok (.iload 5, 2) := by decide +kernel
theorem d_RP_readAmount_122 : decode b_RP_readAmount 122 = .ok (.imul, 1) := by decide +kernel
theorem d_RP_readAmount_123 : decode b_RP_readAmount 123 = .ok (.bipush 60, 2) := by decide +kernel
theorem d_RP_readAmount_125 : decode b_RP_readAmount 125 = .ok (.iload 6, 2) := by decide +kernel
theorem d_RP_readAmount_127 : decode b_RP_readAmount 127 = .ok (.imul, 1) := by decide +kernel
theorem d_RP_readAmount_128 : decode b_RP_readAmount 128 = .ok (.iadd, 1) := by decide +kernel
theorem d_RP_readAmount_129 : decode b_RP_readAmount 129 = .ok (.iload 7, 2) := by decide +kernel
theorem d_RP_readAmount_131 : decode b_RP_readAmount 131 = .ok (.iadd, 1) := by decide +kernel
theorem d_RP_readAmount_132 : decode b_RP_readAmount 132 = .ok (.istore 8, 2) := by decide +kernel
theorem d_RP_readAmount_134 : decode b_RP_readAmount 134 = .ok (.aload_n 0, 1) := by decide +kernel
theorem d_RP_readAmount_135 : decode b_RP_readAmount 135 = .ok (.iload_n 3, 1) := by decide +kernel
theorem d_RP_readAmount_136 : decode b_RP_readAmount 136 = .ok (.ifCond .eq 9, 3) := by decide +kernel
theorem d_RP_readAmount_139 : decode b_RP_readAmount 139 = .ok (.iload 8, 2) := by decide +kernel
theorem d_RP_readAmount_141 : decode b_RP_readAmount 141 = .ok (.ineg, 1) := by decide +kernel
theorem d_RP_readAmount_142 : decode b_RP_readAmount 142 = .ok (.goto 5, 3) := by decide +kernel
theorem d_RP_readAmount_145 : decode b_RP_readAmount 145 = .ok (.iload 8, 2) := by decide +kernel
theorem d_RP_readAmount_147 : decode b_RP_readAmount 147 = .ok (.putfield 95, 3) := by decide +kernel
theorem d_RP_readAmount_150 : decode b_RP_readAmount 150 = .ok (.aload_n 0, 1) := by decide +kernel
theorem d_RP_readAmount_151 : decode b_RP_readAmount 151 = .ok (.iload 4, 2) := by decide +kernel
theorem d_RP_readAmount_153 : decode b_RP_readAmount 153 = .ok (.ifCond .ne 10, 3) := by decide +kernel
theorem d_RP_readAmount_156 : decode b_RP_readAmount 156 = .ok (.iload 5, 2) := by decide +kernel
theorem d_RP_readAmount_158 : decode b_RP_readAmount 158 = .ok (.bipush 24, 2) := by decide +kernel
theorem d_RP_readAmount_160 : decode b_RP_readAmount 160 = .ok (.if_icmp .le 7, 3) := by decide +kernel
theorem d_RP_readAmount_163 : decode b_RP_readAmount 163 = .ok (.iconst 1, 1) := by decide +kernel
theorem d_RP_readAmount_164 : decode b_RP_readAmount 164 = .ok (.goto 4, 3) := by decide +kernel
theorem d_RP_readAmount_167 : decode b_RP_readAmount 167 = .ok (.iconst 0, 1) := by decide +kernel
theorem d_RP_readAmount_168 : decode b_RP_readAmount 168 = .ok (.putfield 129, 3) := by decide +kernel
theorem d_RP_readAmount_171 : decode b_RP_readAmount 171 = .ok (.iload 6, 2) := by decide +kernel
theorem d_RP_readAmount_173 : decode b_RP_readAmount 173 = .ok (.ifCond .lt 12, 3) := by decide +kernel
theorem d_RP_readAmount_176 : decode b_RP_readAmount 176 = .ok (.iload 7, 2) := by decide +kernel
theorem d_RP_readAmount_178 : decode b_RP_readAmount 178 = .ok (.ifCond .lt 7, 3) := by decide +kernel
theorem d_RP_readAmount_181 : decode b_RP_readAmount 181 = .ok (.iconst 1, 1) := by decide +kernel
theorem d_RP_readAmount_182 : decode b_RP_readAmount 182 = .ok (.goto 4, 3) := by decide +kernel
theorem d_RP_readAmount_185 : decode b_RP_readAmount 185 = .ok (.iconst 0, 1) := by decide +kernel
theorem d_RP_readAmount_186 : decode b_RP_readAmount 186 = .ok (.ireturn, 1) := by decide +kernel
abbrev b_RP_readName : ByteArray := prog_10_method_7_code
def y_RP_readName : MethodName := ⟨"ZoneFiles$RuleParser", "readName", "()Z"⟩
theorem d_RP_readName_0 : decode b_RP_readName 0 = .ok (.aload_n 0, 1) := by decide +kernel
theorem d_RP_readName_1 : decode b_RP_readName 1 = .ok (.bipush 60, 2) := by decide +kernel
theorem d_RP_readName_3 : decode b_RP_readName 3 = .ok (.invokevirtual 117, 3) := by decide +kernel
theorem d_RP_readName_6 : decode b_RP_readName 6 = .ok (.istore_n 1, 1) := by decide +kernel
theorem d_RP_readName_7 : decode b_RP_readName 7 = .ok (.aload_n 0, 1) := by decide +kernel
theorem d_RP_readName_8 : decode b_RP_readName 8 = .ok (.aload_n 0, 1) := by decide +kernel
theorem d_RP_readName_9 : decode b_RP_readName 9 = .ok (.getfield 28, 3) := by decide +kernel
theorem d_RP_readName_12 : decode b_RP_readName 12 = .ok (.putfield 83, 3) := by decide +kernel
theorem d_RP_readName_15 : decode b_RP_readName 15 = .ok (.iconst 0, 1) := by decide +kernel
theorem d_RP_readName_16 : decode b_RP_readName 16 = .ok (.istore_n 2, 1) := by decide +kernel
theorem d_RP_readName_17 : decode b_RP_readName 17 = .ok (.iload_n 2, 1) := by decide +kernel
theorem d_RP_readName_18 : decode b_RP_readName 18 = .ok (.bipush 10, 2) := by decide +kernel
theorem d_RP_readName_20 : decode b_RP_readName 20 = .ok (.if_icmp .ge 46, 3) := by decide +kernel
theorem d_RP_readName_23 : decode b_RP_readName 23 = .ok (.iload_n 1, 1) := by decide +kernel
theorem d_RP_readName_24 : decode b_RP_readName 24 = .ok (.ifCond .eq 16, 3) := by decide +kernel
theorem d_RP_readName_27 : decode b_RP_readName 27 = .ok (.aload_n 0, 1) := by decide +kernel
theorem d_RP_readName_28 : decode b_RP_readName 28 = .ok (.invokevirtual 104, 3) := by decide +kernel
theorem d_RP_readName_31 : decode b_RP_readName 31 = .ok (.invokestatic 148, 3) := by decide +kernel
theorem d_RP_readName_34 : decode b_RP_readName 34 = .ok (.ifCond .eq 32, 3) := by decide +kernel
theorem d_RP_readName_37 : decode b_RP_readName 37 = .ok (.goto 13, 3) := by decide +kernel
theorem d_RP_readName_40 : decode b_RP_readName 40 = .ok (.aload_n 0, 1) := by decide +kernel
theorem d_RP_readName_41 : decode b_RP_readName 41 = .ok (.invokevirtual 104, 3) := by decide +kernel
theorem d_RP_readName_44 : decode b_RP_readName 44 = .ok (.invokestatic 151, 3) := by decide +kernel
theorem d_RP_readName_47 : decode b_RP_readName 47 = .ok (.ifCond .eq 19, 3) := by decide +kernel
theorem d_RP_readName_50 : decode b_RP_readName 50 = .ok (.aload_n 0, 1) := by decide +kernel
theorem d_RP_readName_51 : decode b_RP_readName 51 = .ok (.dup, 1) := by decide +kernel
theorem d_RP_readName_52 : decode b_RP_readName 52 = .ok (.getfield 28, 3) := by decide +kernel
theorem d_RP_readName_55 : decode b_RP_readName 55 = .ok (.iconst 1, 1) := by decide +kernel
theorem d_RP_readName_56 : decode b_RP_readName 56 = .ok (.iadd, 1) := by decide +kernel
theorem d_RP_readName_57 : decode b_RP_readName 57 = .ok (.putfield 28, 3) := by decide +kernel
theorem d_RP_readName_60 : decode b_RP_readName 60 = .ok (.iinc 2 1, 3) := by decide +kernel
theorem d_RP_readName_63 : decode b_RP_readName 63 = .ok (.goto (-46), 3) := by decide +kernel
theorem d_RP_readName_66 : decode b_RP_readName 66 = .ok (.aload_n 0, 1) := by decide +kernel
theorem d_RP_readName_67 : decode b_RP_readName 67 = .ok (.aload_n 0, 1) := by decide +kernel
theorem d_RP_readName_68 : decode b_RP_readName 68 = .ok (.getfield 28, 3) := by decide +kernel
theorem d_RP_readName_71 : decode b_RP_readName 71 = .ok (.aload_n 0, 1) := by decide +kernel
theorem d_RP_readName_72 : decode b_RP_readName 72 = .ok (.getfield 83, 3) := by decide +kernel
theorem d_RP_readName_75 : decode b_RP_readName 75 = .ok (.isub, 1) := by decide +kernel
theorem d_RP_readName_76 : decode b_RP_readName 76 = .ok (.putfield 89, 3) := by decide +kernel
theorem d_RP_readName_79 : decode b_RP_readName 79 = .ok (.aload_n 0, 1) := by decide +kernel
theorem d_RP_readName_80 : decode b_RP_readName 80 = .ok (.getfield 89, 3) := by decide +kernel
theorem d_RP_readName_83 : decode b_RP_readName 83 = .ok (.iconst 3, 1) := by decide +kernel
theorem d_RP_readName_84 : decode b_RP_readName 84 = .ok (.if_icmp .ge 5, 3) := by decide +kernel
theorem d_RP_readName_87 : decode b_RP_readName 87 = .ok (.iconst 0, 1) := by decide +kernel
theorem d_RP_readName_88 : decode b_RP_readName 88 = .ok (.ireturn, 1) := by decide +kernel
theorem d_RP_readName_89 : decode b_RP_readName 89 = .ok (.iload_n 1, 1) := by decide +kernel
theorem d_RP_readName_90 : decode b_RP_readName 90 = .ok (.ifCond .eq 12, 3) := by decide +kernel
theorem d_RP_readName_93 : decode b_RP_readName 93 = .ok (.aload_n 0, 1) := by decide +kernel
theorem d_RP_readName_94 : decode b_RP_readName 94 = .ok (.bipush 62, 2) := by decide +kernel
theorem d_RP_readName_96 : decode b_RP_readName 96 = .ok (.invokevirtual 117, 3) := by decide +kernel
theorem d_RP_readName_99 : decode b_RP_readName 99 = .ok (.goto 18, 3) := by decide +kernel
theorem d_RP_readName_102 : decode b_RP_readName 102 = .ok (.aload_n 0, 1) := by decide +kernel
theorem d_RP_readName_103 : decode b_RP_readName 103 = .ok (.invokevirtual 104, 3) := by decide +kernel
theorem d_RP_readName_106 : decode b_RP_readName 106 = .ok (.invokestatic 151, 3) := by decide +kernel
theorem d_RP_readName_109 : decode b_RP_readName 109 = .ok (.ifCond .ne 7, 3) := by decide +kernel
theorem d_RP_readName_112 : decode b_RP_readName 112 = .ok (.iconst 1, 1) := by decide +kernel
theorem d_RP_readName_113 : decode b_RP_readName 113 = .ok (.goto 4, 3) := by decide +kernel
theorem d_RP_readName_116 : decode b_RP_readName 116 = .ok (.iconst 0, 1) := by decide +kernel
theorem d_RP_readName_117 : decode b_RP_readName 117 = .ok (.ireturn, 1) := by decide +kernel
abbrev b_RP_readDay : ByteArray := prog_10_method_6_code
def y_RP_readDay : MethodName := ⟨"ZoneFiles$RuleParser", "readDay", "(LZoneFiles$Edge;)Z"⟩
theorem d_RP_readDay_0 : decode b_RP_readDay 0 = .ok (.aload_n 0, 1) := by decide +kernel
theorem d_RP_readDay_1 : decode b_RP_readDay 1 = .ok (.invokevirtual 104, 3) := by decide +kernel
theorem d_RP_readDay_4 : decode b_RP_readDay 4 = .ok (.bipush 77, 2) := by decide +kernel
theorem d_RP_readDay_6 : decode b_RP_readDay 6 = .ok (.if_icmp .ne 89, 3) := by decide +kernel
theorem d_RP_readDay_9 : decode b_RP_readDay 9 = .ok (.aload_n 0, 1) := by decide +kernel
theorem d_RP_readDay_10 : decode b_RP_readDay 10 = .ok (.dup, 1) := by decide +kernel
theorem d_RP_readDay_11 : decode b_RP_readDay 11 = .ok (.getfield 28, 3) := by decide +kernel
theorem d_RP_readDay_14 : decode b_RP_readDay 14 = .ok (.iconst 1, 1) := by decide +kernel
theorem d_RP_readDay_15 : decode b_RP_readDay 15 = .ok (.iadd, 1) := by decide +kernel
theorem d_RP_readDay_16 : decode b_RP_readDay 16 = .ok (.putfield 28, 3) := by decide +kernel
theorem d_RP_readDay_19 : decode b_RP_readDay 19 = .ok (.aload_n 1, 1) := by decide +kernel
theorem d_RP_readDay_20 : decode b_RP_readDay 20 = .ok (.iconst 2, 1) := by decide +kernel
theorem d_RP_readDay_21 : decode b_RP_readDay 21 = .ok (.putfield 132, 3) := by decide +kernel
theorem d_RP_readDay_24 : decode b_RP_readDay 24 = .ok (.aload_n 1, 1) := by decide +kernel
theorem d_RP_readDay_25 : decode b_RP_readDay 25 = .ok (.aload_n 0, 1) := by decide +kernel
theorem d_RP_readDay_26 : decode b_RP_readDay 26 = .ok (.iconst 1, 1) := by decide +kernel
theorem d_RP_readDay_27 : decode b_RP_readDay 27 = .ok (.bipush 12, 2) := by decide +kernel
theorem d_RP_readDay_29 : decode b_RP_readDay 29 = .ok (.invokevirtual 135, 3) := by decide +kernel
theorem d_RP_readDay_32 : decode b_RP_readDay 32 = .ok (.putfield 139, 3) := by decide +kernel
theorem d_RP_readDay_35 : decode b_RP_readDay 35 = .ok (.aload_n 1, 1) := by decide +kernel
theorem d_RP_readDay_36 : decode b_RP_readDay 36 = .ok (.getfield 139, 3) := by decide +kernel
theorem d_RP_readDay_39 : decode b_RP_readDay 39 = .ok (.ifCond .lt 12, 3) := by decide +kernel
theorem d_RP_readDay_42 : decode b_RP_readDay 42 = .ok (.aload_n 0, 1) := by decide +kernel
theorem d_RP_readDay_43 : decode b_RP_readDay 43 = .ok (.bipush 46, 2) := by decide +kernel
theorem d_RP_readDay_45 : decode b_RP_readDay 45 = .ok (.invokevirtual 117, 3) := by decide +kernel
theorem d_RP_readDay_48 : decode b_RP_readDay 48 = .ok (.ifCond .ne 5, 3) := by decide +kernel
theorem d_RP_readDay_51 : decode b_RP_readDay 51 = .ok (.iconst 0, 1) := by decide +kernel
theorem d_RP_readDay_52 : decode b_RP_readDay 52 = .ok (.ireturn, 1) := by decide +kernel
theorem d_RP_readDay_53 : decode b_RP_readDay 53 = .ok (.aload_n 1, 1) := by decide +kernel
theorem d_RP_readDay_54 : decode b_RP_readDay 54 = .ok (.aload_n 0, 1) := by decide +kernel
theorem d_RP_readDay_55 : decode b_RP_readDay 55 = .ok (.iconst 1, 1) := by decide +kernel
theorem d_RP_readDay_56 : decode b_RP_readDay 56 = .ok (.iconst 5, 1) := by decide +kernel
theorem d_RP_readDay_57 : decode b_RP_readDay 57 = .ok (.invokevirtual 135, 3) := by decide +kernel
theorem d_RP_readDay_60 : decode b_RP_readDay 60 = .ok (.putfield 142, 3) := by decide +kernel
theorem d_RP_readDay_63 : decode b_RP_readDay 63 = .ok (.aload_n 1, 1) := by decide +kernel
theorem d_RP_readDay_64 : decode b_RP_readDay 64 = .ok (.getfield 142, 3) := by decide +kernel
theorem d_RP_readDay_67 : decode b_RP_readDay 67 = .ok (.ifCond .lt 12, 3) := by decide +kernel
theorem d_RP_readDay_70 : decode b_RP_readDay 70 = .ok (.aload_n 0, 1) := by decide +kernel
theorem d_RP_readDay_71 : decode b_RP_readDay 71 = .ok (.bipush 46, 2) := by decide +kernel
theorem d_RP_readDay_73 : decode b_RP_readDay 73 = .ok (.invokevirtual 117, 3) := by decide +kernel
theorem d_RP_readDay_76 : decode b_RP_readDay 76 = .ok (.ifCond .ne 5, 3) := by decide +kernel
theorem d_RP_readDay_79 : decode b_RP_readDay 79 = .ok (.iconst 0, 1) := by decide +kernel
theorem d_RP_readDay_80 : decode b_RP_readDay 80 = .ok (.ireturn, 1) := by decide +kernel
theorem d_RP_readDay_81 : decode b_RP_readDay 81 = .ok (.aload_n 1, 1) := by decide +kernel
theorem d_RP_readDay_82 : decode b_RP_readDay 82 = .ok (.aload_n 0, 1) := by decide +kernel
theorem d_RP_readDay_83 : decode b_RP_readDay 83 = .ok (.iconst 0, 1) := by decide +kernel
theorem d_RP_readDay_84 : decode b_RP_readDay 84 = .ok (.bipush 6, 2) := by decide +kernel
theorem d_RP_readDay_86 : decode b_RP_readDay 86 = .ok (.invokevirtual 135, 3) := by decide +kernel
theorem d_RP_readDay_89 : decode b_RP_readDay 89 = .ok (.putfield 145, 3) := by decide +kernel
theorem d_RP_readDay_92 : decode b_RP_readDay 92 = .ok (.goto 59, 3) := by decide +kernel
theorem d_RP_readDay_95 : decode b_RP_readDay 95 = .ok (.aload_n 0, 1) := by decide +kernel
theorem d_RP_readDay_96 : decode b_RP_readDay 96 = .ok (.invokevirtual 104, 3) := by decide +kernel
theorem d_RP_readDay_99 : decode b_RP_readDay 99 = .ok (.bipush 74, 2) := by decide +kernel
theorem d_RP_readDay_101 : decode b_RP_readDay 101 = .ok (.if_icmp .ne 33, 3) := by decide +kernel
theorem d_RP_readDay_104 : decode b_RP_readDay 104 = .ok (.aload_n 0, 1) := by decide +kernel
theorem d_RP_readDay_105 : decode b_RP_readDay 105 = .ok (.dup, 1) := by decide +kernel
theorem d_RP_readDay_106 : decode b_RP_readDay 106 = .ok (.getfield 28, 3) := by decide +kernel
theorem d_RP_readDay_109 : decode b_RP_readDay 109 = .ok (.iconst 1, 1) := by decide +kernel
theorem d_RP_readDay_110 : decode b_RP_readDay 110 = .ok (.iadd, 1) := by decide +kernel
theorem d_RP_readDay_111 : decode b_RP_readDay 111 = .ok (.putfield 28, 3) := by decide +kernel
theorem d_RP_readDay_114 : decode b_RP_readDay 114 = .ok (.aload_n 1, 1) := by decide +kernel
theorem d_RP_readDay_115 : decode b_RP_readDay 115 = .ok (.iconst 0, 1) := by decide +kernel
theorem d_RP_readDay_116 : decode b_RP_readDay 116 = .ok (.putfield 132, 3) := by decide +kernel
theorem d_RP_readDay_119 : decode b_RP_readDay 119 = .ok (.aload_n 1, 1) := by decide +kernel
theorem d_RP_readDay_120 : decode b_RP_readDay 120 = .ok (.aload_n 0, 1) := by decide +kernel
theorem d_RP_readDay_121 : decode b_RP_readDay 121 = .ok (.iconst 1, 1) := by decide +kernel
theorem d_RP_readDay_122 : decode b_RP_readDay 122 = .ok (.sipush 365, 3) := by decide +kernel
theorem d_RP_readDay_125 : decode b_RP_readDay 125 = .ok (.invokevirtual 135, 3) := by decide +kernel
theorem d_RP_readDay_128 : decode b_RP_readDay 128 = .ok (.putfield 145, 3) := by decide +kernel
theorem d_RP_readDay_131 : decode b_RP_readDay 131 = .ok (.goto 20, 3) := by decide +kernel
theorem d_RP_readDay_134 : decode b_RP_readDay 134 = .ok (.aload_n 1, 1) := by decide +kernel
theorem d_RP_readDay_135 : decode b_RP_readDay 135 = .ok (.iconst 1, 1) := by decide +kernel
theorem d_RP_readDay_136 : decode b_RP_readDay 136 = .ok (.putfield 132, 3) := by decide +kernel
theorem d_RP_readDay_139 : decode b_RP_readDay 139 = .ok (.aload_n 1, 1) := by decide +kernel
theorem d_RP_readDay_140 : decode b_RP_readDay 140 = .ok (.aload_n 0, 1) := by decide +kernel
theorem d_RP_readDay_141 : decode b_RP_readDay 141 = .ok (.iconst 0, 1) := by decide +kernel
theorem d_RP_readDay_142 : decode b_RP_readDay 142 = .ok (.sipush 365, 3) := by decide +kernel
theorem d_RP_readDay_145 : decode b_RP_readDay 145 = .ok (.invokevirtual 135, 3) := by decide +kernel
theorem d_RP_readDay_148 : decode b_RP_readDay 148 = .ok (.putfield 145, 3) := by decide +kernel
theorem d_RP_readDay_151 : decode b_RP_readDay 151 = .ok (.aload_n 1, 1) := by decide +kernel
theorem d_RP_readDay_152 : decode b_RP_readDay 152 = .ok (.getfield 145, 3) := by decide +kernel
theorem d_RP_readDay_155 : decode b_RP_readDay 155 = .ok (.ifCond .lt 7, 3) := by decide +kernel
theorem d_RP_readDay_158 : decode b_RP_readDay 158 = .ok (.iconst 1, 1) := by decide +kernel
theorem d_RP_readDay_159 : decode b_RP_readDay 159 = .ok (.goto 4, 3) := by decide +kernel
theorem d_RP_readDay_162 : decode b_RP_readDay 162 = .ok (.iconst 0, 1) := by decide +kernel
theorem d_RP_readDay_163 : decode b_RP_readDay 163 = .ok (.ireturn, 1) := by decide +kernel
abbrev b_RP_readEdge : ByteArray := prog_10_method_5_code
def y_RP_readEdge : MethodName := ⟨"ZoneFiles$RuleParser", "readEdge", "(LZoneFiles$Edge;)Z"⟩
theorem d_RP_readEdge_0 : decode b_RP_readEdge 0 = .ok (.aload_n 0, 1) := by decide +kernel
theorem d_RP_readEdge_1 : decode b_RP_readEdge 1 = .ok (.bipush 44, 2) := by decide +kernel
theorem d_RP_readEdge_3 : decode b_RP_readEdge 3 = .ok (.invokevirtual 117, 3) := by decide +kernel
theorem d_RP_readEdge_6 : decode b_RP_readEdge 6 = .ok (.ifCond .eq 11, 3) := by decide +kernel
theorem d_RP_readEdge_9 : decode b_RP_readEdge 9 = .ok (.aload_n 0, 1) := by decide +kernel
theorem d_RP_readEdge_10 : decode b_RP_readEdge 10 = .ok (.aload_n 1, 1) := by decide +kernel
theorem d_RP_readEdge_11 : decode b_RP_readEdge 11 = .ok (.invokevirtual 120, 3) := by decide +kernel
theorem d_RP_readEdge_14 : decode b_RP_readEdge 14 = .ok (.ifCond .ne 5, 3) := by decide +kernel
theorem d_RP_readEdge_17 : decode b_RP_readEdge 17 = .ok (.iconst 0, 1) := by decide +kernel
theorem d_RP_readEdge_18 : decode b_RP_readEdge 18 = .ok (.ireturn, 1) := by decide +kernel
theorem d_RP_readEdge_19 : decode b_RP_readEdge 19 = .ok (.aload_n 1, 1) := by decide +kernel
theorem d_RP_readEdge_20 : decode b_RP_readEdge 20 = .ok (.sipush 7200, 3) := by decide +kernel
theorem d_RP_readEdge_23 : decode b_RP_readEdge 23 = .ok (.putfield 123, 3) := by decide +kernel
theorem d_RP_readEdge_26 : decode b_RP_readEdge 26 = .ok (.aload_n 0, 1) := by decide +kernel
theorem d_RP_readEdge_27 : decode b_RP_readEdge 27 = .ok (.invokevirtual 104, 3) := by decide +kernel
theorem d_RP_readEdge_30 : decode b_RP_readEdge 30 = .ok (.bipush 47, 2) := by decide +kernel
theorem d_RP_readEdge_32 : decode b_RP_readEdge 32 = .ok (.if_icmp .eq 5, 3) := by decide +kernel
theorem d_RP_readEdge_35 : decode b_RP_readEdge 35 = .ok (.iconst 1, 1) := by decide +kernel
theorem d_RP_readEdge_36 : decode b_RP_readEdge 36 = .ok (.ireturn, 1) := by decide +kernel
theorem d_RP_readEdge_37 : decode b_RP_readEdge 37 = .ok (.aload_n 0, 1) := by decide +kernel
theorem d_RP_readEdge_38 : decode b_RP_readEdge 38 = .ok (.dup, 1) := by decide +kernel
theorem d_RP_readEdge_39 : decode b_RP_readEdge 39 = .ok (.getfield 28, 3) := by decide +kernel
theorem d_RP_readEdge_42 : decode b_RP_readEdge 42 = .ok (.iconst 1, 1) := by decide +kernel
theorem d_RP_readEdge_43 : decode b_RP_readEdge 43 = .ok (.iadd, 1) := by decide +kernel
theorem d_RP_readEdge_44 : decode b_RP_readEdge 44 = .ok (.putfield 28, 3) := by decide +kernel
theorem d_RP_readEdge_47 : decode b_RP_readEdge 47 = .ok (.aload_n 0, 1) := by decide +kernel
theorem d_RP_readEdge_48 : decode b_RP_readEdge 48 = .ok (.aload_n 0, 1) := by decide +kernel
theorem d_RP_readEdge_49 : decode b_RP_readEdge 49 = .ok (.getfield 20, 3) := by decide +kernel
theorem d_RP_readEdge_52 : decode b_RP_readEdge 52 = .ok (.aload_n 0, 1) := by decide +kernel
theorem d_RP_readEdge_53 : decode b_RP_readEdge 53 = .ok (.getfield 20, 3) := by decide +kernel
theorem d_RP_readEdge_56 : decode b_RP_readEdge 56 = .ok (.ifCond .eq 9, 3) := by decide +kernel
theorem d_RP_readEdge_59 : decode b_RP_readEdge 59 = .ok (.sipush 167, 3) := by decide +kernel
theorem d_RP_readEdge_62 : decode b_RP_readEdge 62 = .ok (.goto 5, 3) := by decide +kernel
theorem d_RP_readEdge_65 : decode b_RP_readEdge 65 = .ok (.bipush 24, 2) := by decide +kernel
theorem d_RP_readEdge_67 : decode b_RP_readEdge 67 = .ok (.invokevirtual 79, 3) := by decide +kernel
theorem d_RP_readEdge_70 : decode b_RP_readEdge 70 = .ok (.ifCond .ne 5, 3) := by decide +kernel
theorem d_RP_readEdge_73 : decode b_RP_readEdge 73 = .ok (.iconst 0, 1) := by decide +kernel
theorem d_RP_readEdge_74 : decode b_RP_readEdge 74 = .ok (.ireturn, 1) := by decide +kernel
theorem d_RP_readEdge_75 : decode b_RP_readEdge 75 = .ok (.aload_n 1, 1) := by decide +kernel
theorem d_RP_readEdge_76 : decode b_RP_readEdge 76 = .ok (.aload_n 0, 1) := by decide +kernel
theorem d_RP_readEdge_77 : decode b_RP_readEdge 77 = .ok (.getfield 95, 3) := by decide +kernel
theorem d_RP_readEdge_80 : decode b_RP_readEdge 80 = .ok (.putfield 123, 3) := by decide +kernel
theorem d_RP_readEdge_83 : decode b_RP_readEdge 83 = .ok (.aload_n 0, 1) := by decide +kernel
theorem d_RP_readEdge_84 : decode b_RP_readEdge 84 = .ok (.getfield 24, 3) := by decide +kernel
theorem d_RP_readEdge_87 : decode b_RP_readEdge 87 = .ok (.aload_n 0, 1) := by decide +kernel
theorem d_RP_readEdge_88 : decode b_RP_readEdge 88 = .ok (.getfield 24, 3) := by decide +kernel
theorem d_RP_readEdge_91 : decode b_RP_readEdge 91 = .ok (.getfield 126, 3) := by decide +kernel
theorem d_RP_readEdge_94 : decode b_RP_readEdge 94 = .ok (.ifCond .ne 10, 3) := by decide +kernel
theorem d_RP_readEdge_97 : decode b_RP_readEdge 97 = .ok (.aload_n 0, 1) := by decide +kernel
theorem d_RP_readEdge_98 : decode b_RP_readEdge 98 = .ok (.getfield 129, 3) := by decide +kernel
theorem d_RP_readEdge_101 : decode b_RP_readEdge 101 = .ok (.ifCond .eq 7, 3) := by decide +kernel
theorem d_RP_readEdge_104 : decode b_RP_readEdge 104 = .ok (.iconst 1, 1) := by decide +kernel
theorem d_RP_readEdge_105 : decode b_RP_readEdge 105 = .ok (.goto 4, 3) := by decide +kernel
theorem d_RP_readEdge_108 : decode b_RP_readEdge 108 = .ok (.iconst 0, 1) := by decide +kernel
theorem d_RP_readEdge_109 : decode b_RP_readEdge 109 = .ok (.putfield 126, 3) := by decide +kernel
theorem d_RP_readEdge_112 : decode b_RP_readEdge 112 = .ok (.iconst 1, 1) := by decide +kernel
theorem d_RP_readEdge_113 : decode b_RP_readEdge 113 = .ok (.ireturn, 1) := by decide +kernel
abbrev b_RP_readSummer : ByteArray := prog_10_method_4_code
def y_RP_readSummer : MethodName := ⟨"ZoneFiles$RuleParser", "readSummer", "()Z"⟩
theorem d_RP_readSummer_0 : decode b_RP_readSummer 0 = .ok (.aload_n 0, 1) := by decide +kernel
theorem d_RP_readSummer_1 : decode b_RP_readSummer 1 = .ok (.invokevirtual 76, 3) := by decide +kernel
theorem d_RP_readSummer_4 : decode b_RP_readSummer 4 = .ok (.ifCond .ne 5, 3) := by decide +kernel
theorem d_RP_readSummer_7 : decode b_RP_readSummer 7 = .ok (.iconst 0, 1) := by decide +kernel
theorem d_RP_readSummer_8 : decode b_RP_readSummer 8 = .ok (.ireturn, 1) := by decide +kernel
theorem d_RP_readSummer_9 : decode b_RP_readSummer 9 = .ok (.aload_n 0, 1) := by decide +kernel
theorem d_RP_readSummer_10 : decode b_RP_readSummer 10 = .ok (.getfield 24, 3) := by decide +kernel
theorem d_RP_readSummer_13 : decode b_RP_readSummer 13 = .ok (.aload_n 0, 1) := by decide +kernel
theorem d_RP_readSummer_14 : decode b_RP_readSummer 14 = .ok (.getfield 83, 3) := by decide +kernel
theorem d_RP_readSummer_17 : decode b_RP_readSummer 17 = .ok (.aload_n 0, 1) := by decide +kernel
theorem d_RP_readSummer_18 : decode b_RP_readSummer 18 = .ok (.getfield 13, 3) := by decide +kernel
theorem d_RP_readSummer_21 : decode b_RP_readSummer 21 = .ok (.isub, 1) := by decide +kernel
theorem d_RP_readSummer_22 : decode b_RP_readSummer 22 = .ok (.putfield 98, 3) := by decide +kernel
theorem d_RP_readSummer_25 : decode b_RP_readSummer 25 = .ok (.aload_n 0, 1) := by decide +kernel
theorem d_RP_readSummer_26 : decode b_RP_readSummer 26 = .ok (.getfield 24, 3) := by decide +kernel
theorem d_RP_readSummer_29 : decode b_RP_readSummer 29 = .ok (.aload_n 0, 1) := by decide +kernel
theorem d_RP_readSummer_30 : decode b_RP_readSummer 30 = .ok (.getfield 89, 3) := by decide +kernel
theorem d_RP_readSummer_33 : decode b_RP_readSummer 33 = .ok (.putfield 101, 3) := by decide +kernel
theorem d_RP_readSummer_36 : decode b_RP_readSummer 36 = .ok (.aload_n 0, 1) := by decide +kernel
theorem d_RP_readSummer_37 : decode b_RP_readSummer 37 = .ok (.getfield 24, 3) := by decide +kernel
theorem d_RP_readSummer_40 : decode b_RP_readSummer 40 = .ok (.aload_n 0, 1) := by decide +kernel
theorem d_RP_readSummer_41 : decode b_RP_readSummer 41 = .ok (.getfield 24, 3) := by decide +kernel
theorem d_RP_readSummer_44 : decode b_RP_readSummer 44 = .ok (.getfield 56, 3) := by decide +kernel
theorem d_RP_readSummer_47 : decode b_RP_readSummer 47 = .ok (.sipush 3600, 3) := by decide +kernel
theorem d_RP_readSummer_50 : decode b_RP_readSummer 50 = .ok (.iadd, 1) := by decide +kernel
theorem d_RP_readSummer_51 : decode b_RP_readSummer 51 = .ok (.putfield 64, 3) := by decide +kernel
theorem d_RP_readSummer_54 : decode b_RP_readSummer 54 = .ok (.aload_n 0, 1) := by decide +kernel
theorem d_RP_readSummer_55 : decode b_RP_readSummer 55 = .ok (.invokevirtual 104, 3) := by decide +kernel
theorem d_RP_readSummer_58 : decode b_RP_readSummer 58 = .ok (.bipush 44, 2) := by decide +kernel
theorem d_RP_readSummer_60 : decode b_RP_readSummer 60 = .ok (.if_icmp .ne 5, 3) := by decide +kernel
theorem d_RP_readSummer_63 : decode b_RP_readSummer 63 = .ok (.iconst 1, 1) := by decide +kernel
theorem d_RP_readSummer_64 : decode b_RP_readSummer 64 = .ok (.ireturn, 1) := by decide +kernel
theorem d_RP_readSummer_65 : decode b_RP_readSummer 65 = .ok (.aload_n 0, 1) := by decide +kernel
theorem d_RP_readSummer_66 : decode b_RP_readSummer 66 = .ok (.invokevirtual 104, 3) := by decide +kernel
theorem d_RP_readSummer_69 : decode b_RP_readSummer 69 = .ok (.invokestatic 108, 3) := by decide +kernel
theorem d_RP_readSummer_72 : decode b_RP_readSummer 72 = .ok (.ifCond .ne 13, 3) := by decide +kernel
theorem d_RP_readSummer_75 : decode b_RP_readSummer 75 = .ok (.aload_n 0, 1) := by decide +kernel
theorem d_RP_readSummer_76 : decode b_RP_readSummer 76 = .ok (.invokevirtual 104, 3) := by decide +kernel
theorem d_RP_readSummer_79 : decode b_RP_readSummer 79 = .ok (.invokestatic 112, 3) := by decide +kernel
theorem d_RP_readSummer_82 : decode b_RP_readSummer 82 = .ok (.ifCond .eq 7, 3) := by decide +kernel
theorem d_RP_readSummer_85 : decode b_RP_readSummer 85 = .ok (.iconst 1, 1) := by decide +kernel
theorem d_RP_readSummer_86 : decode b_RP_readSummer 86 = .ok (.goto 4, 3) := by decide +kernel
theorem d_RP_readSummer_89 : decode b_RP_readSummer 89 = .ok (.iconst 0, 1) := by decide +kernel
theorem d_RP_readSummer_90 : decode b_RP_readSummer 90 = .ok (.istore_n 1, 1) := by decide +kernel
theorem d_RP_readSummer_91 : decode b_RP_readSummer 91 = .ok (.iload_n 1, 1) := by decide +kernel
theorem d_RP_readSummer_92 : decode b_RP_readSummer 92 = .ok (.ifCond .eq 23, 3) := by decide +kernel
theorem d_RP_readSummer_95 : decode b_RP_readSummer 95 = .ok (.aload_n 0, 1) := by decide +kernel
theorem d_RP_readSummer_96 : decode b_RP_readSummer 96 = .ok (.iconst 1, 1) := by decide +kernel
theorem d_RP_readSummer_97 : decode b_RP_readSummer 97 = .ok (.bipush 24, 2) := by decide +kernel
theorem d_RP_readSummer_99 : decode b_RP_readSummer 99 = .ok (.invokevirtual 79, 3) := by decide +kernel
theorem d_RP_readSummer_102 : decode b_RP_readSummer 102 = .ok (.istore_n 1, 1) := by decide +kernel
theorem d_RP_readSummer_103 : decode b_RP_readSummer 103 = .ok (.aload_n 0, 1) := by decide +kernel
theorem d_RP_readSummer_104 : decode b_RP_readSummer 104 = .ok (.getfield 24, 3) := by decide +kernel
theorem d_RP_readSummer_107 : decode b_RP_readSummer 107 = .ok (.aload_n 0, 1) := by decide +kernel
theorem d_RP_readSummer_108 : decode b_RP_readSummer 108 = .ok (.getfield 95, 3) := by decide +kernel
theorem d_RP_readSummer_111 : decode b_RP_readSummer 111 = .ok (.ineg, 1) := by decide +kernel
theorem d_RP_readSummer_112 : decode b_RP_readSummer 112 = .ok (.putfield 64, 3) := by decide +kernel
theorem d_RP_readSummer_115 : decode b_RP_readSummer 115 = .ok (.iload_n 1, 1) := by decide +kernel
theorem d_RP_readSummer_116 : decode b_RP_readSummer 116 = .ok (.ireturn, 1) := by decide +kernel
abbrev b_RP_readStandard : ByteArray := prog_10_method_3_code
def y_RP_readStandard : MethodName := ⟨"ZoneFiles$RuleParser", "readStandard", "()Z"⟩
theorem d_RP_readStandard_0 : decode b_RP_readStandard 0 = .ok (.aload_n 0, 1) := by decide +kernel
theorem d_RP_readStandard_1 : decode b_RP_readStandard 1 = .ok (.invokevirtual 76, 3) := by decide +kernel
theorem d_RP_readStandard_4 : decode b_RP_readStandard 4 = .ok (.ifCond .eq 13, 3) := by decide +kernel
theorem d_RP_readStandard_7 : decode b_RP_readStandard 7 = .ok (.aload_n 0, 1) := by decide +kernel
theorem d_RP_readStandard_8 : decode b_RP_readStandard 8 = .ok (.iconst 1, 1) := by decide +kernel
theorem d_RP_readStandard_9 : decode b_RP_readStandard 9 = .ok (.bipush 24, 2) := by decide +kernel
theorem d_RP_readStandard_11 : decode b_RP_readStandard 11 = .ok (.invokevirtual 79, 3) := by decide +kernel
theorem d_RP_readStandard_14 : decode b_RP_readStandard 14 = .ok (.ifCond .ne 5, 3) := by decide +kernel
theorem d_RP_readStandard_17 : decode b_RP_readStandard 17 = .ok (.iconst 0, 1) := by decide +kernel
theorem d_RP_readStandard_18 : decode b_RP_readStandard 18 = .ok (.ireturn, 1) := by decide +kernel
theorem d_RP_readStandard_19 : decode b_RP_readStandard 19 = .ok (.aload_n 0, 1) := by decide +kernel
theorem d_RP_readStandard_20 : decode b_RP_readStandard 20 = .ok (.getfield 24, 3) := by decide +kernel
theorem d_RP_readStandard_23 : decode b_RP_readStandard 23 = .ok (.aload_n 0, 1) := by decide +kernel
theorem d_RP_readStandard_24 : decode b_RP_readStandard 24 = .ok (.getfield 83, 3) := by decide +kernel
theorem d_RP_readStandard_27 : decode b_RP_readStandard 27 = .ok (.aload_n 0, 1) := by decide +kernel
theorem d_RP_readStandard_28 : decode b_RP_readStandard 28 = .ok (.getfield 13, 3) := by decide +kernel
theorem d_RP_readStandard_31 : decode b_RP_readStandard 31 = .ok (.isub, 1) := by decide +kernel
theorem d_RP_readStandard_32 : decode b_RP_readStandard 32 = .ok (.putfield 86, 3) := by decide +kernel
theorem d_RP_readStandard_35 : decode b_RP_readStandard 35 = .ok (.aload_n 0, 1) := by decide +kernel
theorem d_RP_readStandard_36 : decode b_RP_readStandard 36 = .ok (.getfield 24, 3) := by decide +kernel
theorem d_RP_readStandard_39 : decode b_RP_readStandard 39 = .ok (.aload_n 0, 1) := by decide +kernel
theorem d_RP_readStandard_40 : decode b_RP_readStandard 40 = .ok (.getfield 89, 3) := by decide +kernel
theorem d_RP_readStandard_43 : decode b_RP_readStandard 43 = .ok (.putfield 92, 3) := by decide +kernel
theorem d_RP_readStandard_46 : decode b_RP_readStandard 46 = .ok (.aload_n 0, 1) := by decide +kernel
theorem d_RP_readStandard_47 : decode b_RP_readStandard 47 = .ok (.getfield 24, 3) := by decide +kernel
theorem d_RP_readStandard_50 : decode b_RP_readStandard 50 = .ok (.aload_n 0, 1) := by decide +kernel
theorem d_RP_readStandard_51 : decode b_RP_readStandard 51 = .ok (.getfield 95, 3) := by decide +kernel
theorem d_RP_readStandard_54 : decode b_RP_readStandard 54 = .ok (.ineg, 1) := by decide +kernel
theorem d_RP_readStandard_55 : decode b_RP_readStandard 55 = .ok (.putfield 56, 3) := by decide +kernel
theorem d_RP_readStandard_58 : decode b_RP_readStandard 58 = .ok (.iconst 1, 1) := by decide +kernel
theorem d_RP_readStandard_59 : decode b_RP_readStandard 59 = .ok (.ireturn, 1) := by decide +kernel
abbrev b_RP_readText : ByteArray := prog_10_method_2_code
def y_RP_readText : MethodName := ⟨"ZoneFiles$RuleParser", "readText", "()Z"⟩
theorem d_RP_readText_0 : decode b_RP_readText 0 = .ok (.aload_n 0, 1) := by decide +kernel
theorem d_RP_readText_1 : decode b_RP_readText 1 = .ok (.getfield 24, 3) := by decide +kernel
theorem d_RP_readText_4 : decode b_RP_readText 4 = .ok (.invokevirtual 31, 3) := by decide +kernel
theorem d_RP_readText_7 : decode b_RP_readText 7 = .ok (.aload_n 0, 1) := by decide +kernel
theorem d_RP_readText_8 : decode b_RP_readText 8 = .ok (.getfield 28, 3) := by decide +kernel
theorem d_RP_readText_11 : decode b_RP_readText 11 = .ok (.aload_n 0, 1) := by decide +kernel
theorem d_RP_readText_12 : decode b_RP_readText 12 = .ok (.getfield 17, 3) := by decide +kernel
theorem d_RP_readText_15 : decode b_RP_readText 15 = .ok (.if_icmp .lt 5, 3) := by decide +kernel
theorem d_RP_readText_18 : decode b_RP_readText 18 = .ok (.iconst 1, 1) := by decide +kernel
theorem d_RP_readText_19 : decode b_RP_readText 19 = .ok (.ireturn, 1) := by decide +kernel
theorem d_RP_readText_20 : decode b_RP_readText 20 = .ok (.aload_n 0, 1) := by decide +kernel
theorem d_RP_readText_21 : decode b_RP_readText 21 = .ok (.invokevirtual 36, 3) := by decide +kernel
theorem d_RP_readText_24 : decode b_RP_readText 24 = .ok (.ifCond .ne 5, 3) := by decide +kernel
theorem d_RP_readText_27 : decode b_RP_readText 27 = .ok (.iconst 0, 1) := by decide +kernel
theorem d_RP_readText_28 : decode b_RP_readText 28 = .ok (.ireturn, 1) := by decide +kernel
theorem d_RP_readText_29 : decode b_RP_readText 29 = .ok (.aload_n 0, 1) := by decide +kernel
theorem d_RP_readText_30 : decode b_RP_readText 30 = .ok (.getfield 28, 3) := by decide +kernel
theorem d_RP_readText_33 : decode b_RP_readText 33 = .ok (.aload_n 0, 1) := by decide +kernel
theorem d_RP_readText_34 : decode b_RP_readText 34 = .ok (.getfield 17, 3) := by decide +kernel
theorem d_RP_readText_37 : decode b_RP_readText 37 = .ok (.if_icmp .ge 93, 3) := by decide +kernel
theorem d_RP_readText_40 : decode b_RP_readText 40 = .ok (.aload_n 0, 1) := by decide +kernel
theorem d_RP_readText_41 : decode b_RP_readText 41 = .ok (.invokevirtual 40, 3) := by decide +kernel
theorem d_RP_readText_44 : decode b_RP_readText 44 = .ok (.ifCond .eq 42, 3) := by decide +kernel
theorem d_RP_readText_47 : decode b_RP_readText 47 = .ok (.aload_n 0, 1) := by decide +kernel
theorem d_RP_readText_48 : decode b_RP_readText 48 = .ok (.aload_n 0, 1) := by decide +kernel
theorem d_RP_readText_49 : decode b_RP_readText 49 = .ok (.getfield 24, 3) := by decide +kernel
theorem d_RP_readText_52 : decode b_RP_readText 52 = .ok (.getfield 43, 3) := by decide +kernel
theorem d_RP_readText_55 : decode b_RP_readText 55 = .ok (.invokevirtual 47, 3) := by decide +kernel
theorem d_RP_readText_58 : decode b_RP_readText 58 = .ok (.ifCond .eq 28, 3) := by decide +kernel
theorem d_RP_readText_61 : decode b_RP_readText 61 = .ok (.aload_n 0, 1) := by decide +kernel
theorem d_RP_readText_62 : decode b_RP_readText 62 = .ok (.aload_n 0, 1) := by decide +kernel
theorem d_RP_readText_63 : decode b_RP_readText 63 = .ok (.getfield 24, 3) := by decide +kernel
theorem d_RP_readText_66 : decode b_RP_readText 66 = .ok (.getfield 51, 3) := by decide +kernel
theorem d_RP_readText_69 : decode b_RP_readText 69 = .ok (.invokevirtual 47, 3) := by decide +kernel
theorem d_RP_readText_72 : decode b_RP_readText 72 = .ok (.ifCond .eq 14, 3) := by decide +kernel
theorem d_RP_readText_75 : decode b_RP_readText 75 = .ok (.aload_n 0, 1) := by decide +kernel
theorem d_RP_readText_76 : decode b_RP_readText 76 = .ok (.getfield 28, 3) := by decide +kernel
theorem d_RP_readText_79 : decode b_RP_readText 79 = .ok (.aload_n 0, 1) := by decide +kernel
theorem d_RP_readText_80 : decode b_RP_readText 80 = .ok (.getfield 17, 3) := by decide +kernel
theorem d_RP_readText_83 : decode b_RP_readText 83 = .ok (.if_icmp .ge 5, 3) := by decide +kernel
theorem d_RP_readText_86 : decode b_RP_readText 86 = .ok (.iconst 0, 1) := by decide +kernel
theorem d_RP_readText_87 : decode b_RP_readText 87 = .ok (.ireturn, 1) := by decide +kernel
theorem d_RP_readText_88 : decode b_RP_readText 88 = .ok (.aload_n 0, 1) := by decide +kernel
theorem d_RP_readText_89 : decode b_RP_readText 89 = .ok (.getfield 24, 3) := by decide +kernel
theorem d_RP_readText_92 : decode b_RP_readText 92 = .ok (.iconst 1, 1) := by decide +kernel
theorem d_RP_readText_93 : decode b_RP_readText 93 = .ok (.putfield 53, 3) := by decide +kernel
theorem d_RP_readText_96 : decode b_RP_readText 96 = .ok (.aload_n 0, 1) := by decide +kernel
theorem d_RP_readText_97 : decode b_RP_readText 97 = .ok (.getfield 24, 3) := by decide +kernel
theorem d_RP_readText_100 : decode b_RP_readText 100 = .ok (.getfield 43, 3) := by decide +kernel
theorem d_RP_readText_103 : decode b_RP_readText 103 = .ok (.aload_n 0, 1) := by decide +kernel
theorem d_RP_readText_104 : decode b_RP_readText 104 = .ok (.getfield 24, 3) := by decide +kernel
theorem d_RP_readText_107 : decode b_RP_readText 107 = .ok (.getfield 56, 3) := by decide +kernel
theorem d_RP_readText_110 : decode b_RP_readText 110 = .ok (.putfield 59, 3) := by decide +kernel
theorem d_RP_readText_113 : decode b_RP_readText 113 = .ok (.aload_n 0, 1) := by decide +kernel
theorem d_RP_readText_114 : decode b_RP_readText 114 = .ok (.getfield 24, 3) := by decide +kernel
theorem d_RP_readText_117 : decode b_RP_readText 117 = .ok (.getfield 51, 3) := by decide +kernel
theorem d_RP_readText_120 : decode b_RP_readText 120 = .ok (.aload_n 0, 1) := by decide +kernel
theorem d_RP_readText_121 : decode b_RP_readText 121 = .ok (.getfield 24, 3) := by decide +kernel
theorem d_RP_readText_124 : decode b_RP_readText 124 = .ok (.getfield 64, 3) := by decide +kernel
theorem d_RP_readText_127 : decode b_RP_readText 127 = .ok (.putfield 59, 3) := by decide +kernel
theorem d_RP_readText_130 : decode b_RP_readText 130 = .ok (.aload_n 0, 1) := by decide +kernel
theorem d_RP_readText_131 : decode b_RP_readText 131 = .ok (.getfield 24, 3) := by decide +kernel
theorem d_RP_readText_134 : decode b_RP_readText 134 = .ok (.getfield 67, 3) := by decide +kernel
theorem d_RP_readText_137 : decode b_RP_readText 137 = .ok (.aload_n 0, 1) := by decide +kernel
theorem d_RP_readText_138 : decode b_RP_readText 138 = .ok (.getfield 7, 3) := by decide +kernel
theorem d_RP_readText_141 : decode b_RP_readText 141 = .ok (.aload_n 0, 1) := by decide +kernel
theorem d_RP_readText_142 : decode b_RP_readText 142 = .ok (.getfield 13, 3) := by decide +kernel
theorem d_RP_readText_145 : decode b_RP_readText 145 = .ok (.aload_n 0, 1) := by decide +kernel
theorem d_RP_readText_146 : decode b_RP_readText 146 = .ok (.getfield 17, 3) := by decide +kernel
theorem d_RP_readText_149 : decode b_RP_readText 149 = .ok (.invokevirtual 70, 3) := by decide +kernel
theorem d_RP_readText_152 : decode b_RP_readText 152 = .ok (.iconst 1, 1) := by decide +kernel
theorem d_RP_readText_153 : decode b_RP_readText 153 = .ok (.ireturn, 1) := by decide +kernel
abbrev b_RP_init : ByteArray := prog_10_method_1_code
def y_RP_init : MethodName := ⟨"ZoneFiles$RuleParser", "<init>", "(LZoneFiles$Bytes;IIZLZoneFiles$Rule;)V"⟩
theorem d_RP_init_0 : decode b_RP_init 0 = .ok (.aload_n 0, 1) := by decide +kernel
theorem d_RP_init_1 : decode b_RP_init 1 = .ok (.invokespecial 1, 3) := by decide +kernel
theorem d_RP_init_4 : decode b_RP_init 4 = .ok (.aload_n 0, 1) := by decide +kernel
theorem d_RP_init_5 : decode b_RP_init 5 = .ok (.aload_n 1, 1) := by decide +kernel
theorem d_RP_init_6 : decode b_RP_init 6 = .ok (.putfield 7, 3) := by decide +kernel
theorem d_RP_init_9 : decode b_RP_init 9 = .ok (.aload_n 0, 1) := by decide +kernel
theorem d_RP_init_10 : decode b_RP_init 10 = .ok (.iload_n 2, 1) := by decide +kernel
theorem d_RP_init_11 : decode b_RP_init 11 = .ok (.putfield 13, 3) := by decide +kernel
theorem d_RP_init_14 : decode b_RP_init 14 = .ok (.aload_n 0, 1) := by decide +kernel
theorem d_RP_init_15 : decode b_RP_init 15 = .ok (.iload_n 3, 1) := by decide +kernel
theorem d_RP_init_16 : decode b_RP_init 16 = .ok (.putfield 17, 3) := by decide +kernel
theorem d_RP_init_19 : decode b_RP_init 19 = .ok (.aload_n 0, 1) := by decide +kernel
theorem d_RP_init_20 : decode b_RP_init 20 = .ok (.iload 4, 2) := by decide +kernel
theorem d_RP_init_22 : decode b_RP_init 22 = .ok (.putfield 20, 3) := by decide +kernel
theorem d_RP_init_25 : decode b_RP_init 25 = .ok (.aload_n 0, 1) := by decide +kernel
theorem d_RP_init_26 : decode b_RP_init 26 = .ok (.aload 5, 2) := by decide +kernel
theorem d_RP_init_28 : decode b_RP_init 28 = .ok (.putfield 24, 3) := by decide +kernel
theorem d_RP_init_31 : decode b_RP_init 31 = .ok (.aload_n 0, 1) := by decide +kernel
theorem d_RP_init_32 : decode b_RP_init 32 = .ok (.iload_n 2, 1) := by decide +kernel
theorem d_RP_init_33 : decode b_RP_init 33 = .ok (.putfield 28, 3) := by decide +kernel
theorem d_RP_init_36 : decode b_RP_init 36 = .ok (.return_, 1) := by decide +kernel
-- ZoneFiles$RuleParser.peek()I
def f_RP_peek_26 (nf : Nat) (s0 : Int32) : Option (Int32) :=
  some s0
def f_RP_peek_0 (nf : Nat) (rPos : Int32) (rEnd : Int32) (tpS : Int32) (tpN : Nat) (tpA : Nat → Int32) : Option (Int32) :=
  if rEnd ≤ rPos then
  f_RP_peek_26 nf (-1)
  else
  (f_By_get nf rPos tpS tpN tpA).bind fun r_2 =>
    f_RP_peek_26 nf r_2
def f_RP_peek (nf : Nat) (rPos : Int32) (rEnd : Int32) (tpS : Int32) (tpN : Nat) (tpA : Nat → Int32) : Option (Int32) :=
  f_RP_peek_0 nf rPos rEnd tpS tpN tpA
section
variable {p : Program} {l : Launch} {e : Env} {R : Room} {s : State} {m : MethodId} {args : Array Value} {below : List Frame} {meth : Method} {c : Code} {Q : State → Prop} {dC : Nat → ClassId} {dI : Nat → Nat → Nat} {nf : Nat}
variable {h0 : Nat} {rTape : Nat} {rRule : Nat} {tpR : Nat} {cAtpR : ClassId} {rPos : Int32} {rStart : Int32} {rEnd : Int32} {rWide : Int32} {rNp : Int32} {rNs : Int32} {rAm : Int32} {rAw : Int32} {tpS : Int32} {tpN : Nat} {tpA : Nat → Int32} {r0 : Int32}
set_option maxHeartbeats 400000 in
set_option maxRecDepth 100000 in
theorem k_RP_peek_26 (C0 : Cx p s m meth c args R b_RP_peek "ZoneFiles$RuleParser" 1 (some .int) 1 21) (hST : ST (fun _ => False) s s.heap) (hK : va_K (dC, dI) classes [(cAtpR, .byte)] s) (hP : va_P (dC, dI) classes [(h0, .inr (6, [.int rPos, .ref rTape, .int rStart, .int rEnd, .int rWide, .ref rRule, .int rNp, .int rNs, .int rAm, .int rAw])), (rTape, .inr (0, [.ref tpR, .int tpS])), (tpR, .inl (cAtpR, tpN, .inl tpA))] s.heap) (hE : ∀ (pc : Nat) (ls : Array Slot), decode b_RP_peek pc = .ok (.ireturn, 1) → narrow .int (.int r0) = .int r0 → W p l e R s m args below meth c s.heap [] 0 0 Q (F0 m pc ls [.int r0])) {s0 : Int32} (hf : f_RP_peek_26 nf s0 = some r0) {ls : Array Slot} (hl : lv_has ls 1 []) : W p l e R s m args below meth c s.heap [] 0 0 Q (F0 m 26 ls [.int s0]) := by
  obtain ⟨hx, hb, hr, hml, hown, hts, hlocks, hRf, hRl⟩ := id C0
  obtain ⟨tms, hZms, hTms, tmg, hZmg, hTmg, hNW⟩ := id hST
  unfold f_RP_peek_26 at hf
  have e := rs hf
  subst e
  exact hE _ _ d_RP_peek_26 rfl
set_option maxHeartbeats 400000 in
set_option maxRecDepth 100000 in
theorem k_RP_peek_0 (C0 : Cx p s m meth c args R b_RP_peek "ZoneFiles$RuleParser" 1 (some .int) 1 21) (hST : ST (fun _ => False) s s.heap) (hK : va_K (dC, dI) classes [(cAtpR, .byte)] s) (hP : va_P (dC, dI) classes [(h0, .inr (6, [.int rPos, .ref rTape, .int rStart, .int rEnd, .int rWide, .ref rRule, .int rNp, .int rNs, .int rAm, .int rAw])), (rTape, .inr (0, [.ref tpR, .int tpS])), (tpR, .inl (cAtpR, tpN, .inl tpA))] s.heap) (hE : ∀ (pc : Nat) (ls : Array Slot), decode b_RP_peek pc = .ok (.ireturn, 1) → narrow .int (.int r0) = .int r0 → W p l e R s m args below meth c s.heap [] 0 0 Q (F0 m pc ls [.int r0])) (hf : f_RP_peek_0 nf rPos rEnd tpS tpN tpA = some r0) {ls : Array Slot} (hl : lv_has ls 1 [(0, .ref h0)]) : W p l e R s m args below meth c s.heap [] 0 0 Q (F0 m 0 ls []) := by
  obtain ⟨hx, hb, hr, hml, hown, hts, hlocks, hRf, hRl⟩ := id C0
  obtain ⟨tms, hZms, hTms, tmg, hZmg, hTmg, hNW⟩ := id hST
  unfold f_RP_peek_0 at hf
  refine lv_aload_n hx hb d_RP_peek_0 rfl (lv_at hl 0 rfl) ?_
  refine va_get (D := (dC, dI)) (ci := 6) (v := .int rPos) (C := RRuleParser) (T := TRuleParser) (N := 10) hx hb hts in_RuleParser hown hK hP 0 rfl rfl 0 (by decide) (hts (.fieldLink "ZoneFiles$RuleParser" 28 "ZoneFiles$RuleParser" "pos" "I") m_4_51) (fun _ h9 => h9) rfl d_RP_peek_1 ?_
  refine lv_aload_n hx hb d_RP_peek_4 rfl (lv_at hl 0 rfl) ?_
  refine va_get (D := (dC, dI)) (ci := 6) (v := .int rEnd) (C := RRuleParser) (T := TRuleParser) (N := 10) hx hb hts in_RuleParser hown hK hP 0 rfl rfl 3 (by decide) (hts (.fieldLink "ZoneFiles$RuleParser" 17 "ZoneFiles$RuleParser" "end" "I") m_4_56) (fun _ h9 => h9) rfl d_RP_peek_5 ?_
  refine lv_icmp_ge (tgt := 25) hx hb d_RP_peek_8 (by decide) (fun c_1 => ?_) (fun c_1 => ?_)
  · have hf := it_t c_1 hf
    refine lv_iconst (v := -1) hx hb d_RP_peek_25 (by decide) ?_
    exact k_RP_peek_26 C0 hST hK hP hE hf (lv_sub hl [] rfl)
  · have hf := it_f c_1 hf
    refine lv_aload_n hx hb d_RP_peek_11 rfl (lv_at hl 0 rfl) ?_
    refine va_get (D := (dC, dI)) (ci := 6) (v := .ref rTape) (C := RRuleParser) (T := TRuleParser) (N := 10) hx hb hts in_RuleParser hown hK hP 0 rfl rfl 1 (by decide) (hts (.fieldLink "ZoneFiles$RuleParser" 7 "ZoneFiles$RuleParser" "tape" "LZoneFiles$Bytes;") m_4_54) (fun _ h9 => h9) rfl d_RP_peek_12 ?_
    refine lv_aload_n hx hb d_RP_peek_15 rfl (lv_at hl 0 rfl) ?_
    refine va_get (D := (dC, dI)) (ci := 6) (v := .int rPos) (C := RRuleParser) (T := TRuleParser) (N := 10) hx hb hts in_RuleParser hown hK hP 0 rfl rfl 0 (by decide) (hts (.fieldLink "ZoneFiles$RuleParser" 28 "ZoneFiles$RuleParser" "pos" "I") m_4_51) (fun _ h9 => h9) rfl d_RP_peek_16 ?_
    obtain ⟨r_2, hc, hf⟩ := ob hf
    refine cl_S (v := (some (.int r_2))) (st1 := [.int r_2]) (va_runV (As := [.int rPos]) (rest := []) ⟨hx, hb, hml, hown, hts⟩ (c_By_get l dC dI rTape tpR cAtpR nf rPos tpS tpN tpA hc) (cwV 1 hts (gdV m_4_105 m_2_71 m_2_72 m_1_2 m_2_73) rfl rfl rfl (by decide +kernel) ⟨Nat.le_trans (Nat.le_of_ble_eq_true rfl) hRf, Nat.le_trans (Nat.le_of_ble_eq_true rfl) hRl⟩) ((RO.pre (hP.sub (ws' := [(rTape, .inr (0, [.ref tpR, .int tpS])), (tpR, .inl (cAtpR, tpN, .inl tpA))]) [1, 2] rfl) (hK.sub (tys' := [(cAtpR, .byte)]) [0] rfl) hST).vir (va_recv (hK.sub (tys' := [(cAtpR, .byte)]) [0] rfl) (hP.sub (ws' := [(rTape, .inr (0, [.ref tpR, .int tpS])), (tpR, .inl (cAtpR, tpN, .inl tpA))]) [1, 2] rfl) (ci := 0) (q0 := 0) rfl rfl)) rfl rfl hl.1 rfl (lv_room (Nat.le_of_ble_eq_true rfl)) d_RP_peek_19 ⟨Nat.zero_le _, Nat.zero_le _⟩) rfl ?_
    refine lv_goto (tgt := 26) hx hb d_RP_peek_22 (by decide) ?_
    exact k_RP_peek_26 C0 hST hK hP hE hf (lv_sub hl [] rfl)
end
set_option maxHeartbeats 400000 in
set_option maxRecDepth 100000 in
theorem c_RP_peek (l : Launch) (dC : Nat → ClassId) (dI : Nat → Nat → Nat) (h0 : Nat) (rTape : Nat) (rRule : Nat) (tpR : Nat) (cAtpR : ClassId) (nf : Nat) (rPos : Int32) (rStart : Int32) (rEnd : Int32) (rWide : Int32) (rNp : Int32) (rNs : Int32) (rAm : Int32) (rAw : Int32) (tpS : Int32) (tpN : Nat) (tpA : Nat → Int32) {r0 : Int32} (hf : f_RP_peek nf rPos rEnd tpS tpN tpA = some r0) : Met l y_RP_peek (wd y_RP_peek b_RP_peek 1 (some .int)) ({ frames := 1, cells := 0, slots := 0, locals := 21 }) (RO dC dI [(h0, .inr (6, [.int rPos, .ref rTape, .int rStart, .int rEnd, .int rWide, .ref rRule, .int rNp, .int rNs, .int rAm, .int rAw])), (rTape, .inr (0, [.ref tpR, .int tpS])), (tpR, .inl (cAtpR, tpN, .inl tpA))] [(cAtpR, .byte)] [.ref h0]) (SV (some (.int r0))) 0 0 (fun _ => False) :=
  met_S (plainFor_of_name (by decide)) (Nat.le_of_ble_eq_true rfl) (fun p e R s m args below meth c ls C0 hST hK hP hl => by
    obtain ⟨hx, hb, hr, hml, hown, hts, hlocks, hRf, hRl⟩ := id C0
    unfold f_RP_peek at hf
    exact k_RP_peek_0 C0 hST hK hP (fun pc ls hd hn => W.zret hx hb hr hn (fun t ht hW => ⟨rfl, ht⟩) (fun q h => by cases h) hd) hf (lv_sub hl [0] rfl))
-- ZoneFiles$RuleParser.pass(I)Z
def f_RP_pass_0 (nf : Nat) (rEnd : Int32) (tpS : Int32) (tpN : Nat) (tpA : Nat → Int32) (x1 : Int32) (w0_0 : Int32) : Option (Int32 × Int32) :=
  (f_RP_peek nf w0_0 rEnd tpS tpN tpA).bind fun r_1 =>
  if r_1 = x1 then
  some (1, w0_0 + 1)
  else
  some (0, w0_0)
def f_RP_pass (nf : Nat) (p0 : Int32) (rPos : Int32) (rEnd : Int32) (tpS : Int32) (tpN : Nat) (tpA : Nat → Int32) : Option (Int32 × Int32) :=
  f_RP_pass_0 nf rEnd tpS tpN tpA p0 rPos
section
variable {p : Program} {l : Launch} {e : Env} {R : Room} {s : State} {m : MethodId} {args : Array Value} {below : List Frame} {meth : Method} {c : Code} {Q : State → Prop} {dC : Nat → ClassId} {dI : Nat → Nat → Nat} {nf : Nat} {A : Nat → Prop}
variable {h0 : Nat} {rTape : Nat} {rRule : Nat} {tpR : Nat} {cAtpR : ClassId} {rPos : Int32} {rStart : Int32} {rEnd : Int32} {rWide : Int32} {rNp : Int32} {rNs : Int32} {rAm : Int32} {rAw : Int32} {tpS : Int32} {tpN : Nat} {tpA : Nat → Int32} {r0 : Int32} {v0_0 : Int32}
set_option maxHeartbeats 400000 in
set_option maxRecDepth 100000 in
theorem k_RP_pass_0 (C0 : Cx p s m meth c args R b_RP_pass "ZoneFiles$RuleParser" 2 (some .boolean) 2 41) (hST : ST A s s.heap) (hA : ∀ q, s.heap.size ≤ q → A q) (hE : ∀ (pc : Nat) (ls : Array Slot) {q2 : Nat} {nA2 : ClassId} (H : Heap) (locs : List Loc), decode b_RP_pass pc = .ok (.ireturn, 1) → narrow .boolean (.int r0) = .int r0 → va_P (dC, dI) classes [(h0, .inr (6, [.int v0_0, .ref rTape, .int rStart, .int rEnd, .int rWide, .ref rRule, .int rNp, .int rNs, .int rAm, .int rAw])), (rTape, .inr (0, [.ref q2, .int tpS])), (q2, .inl (nA2, tpN, .inl tpA))] H → va_D A [(h0, .inr (6, [.int v0_0, .ref rTape, .int rStart, .int rEnd, .int rWide, .ref rRule, .int rNp, .int rNs, .int rAm, .int rAw])), (rTape, .inr (0, [.ref q2, .int tpS])), (q2, .inl (nA2, tpN, .inl tpA))] → va_S A s.heap H locs → va_K (dC, dI) classes [(nA2, .byte)] s → W p l e R s m args below meth c H locs 0 0 Q (F0 m pc ls [.int r0])) {x1 : Int32} {w0_0 : Int32} (hf : f_RP_pass_0 nf rEnd tpS tpN tpA x1 w0_0 = some (r0, v0_0)) {q2 : Nat} {nA2 : ClassId} {H : Heap} {locs : List Loc} {ls : Array Slot} (hK : va_K (dC, dI) classes [(nA2, .byte)] s) (hP : va_P (dC, dI) classes [(h0, .inr (6, [.int w0_0, .ref rTape, .int rStart, .int rEnd, .int rWide, .ref rRule, .int rNp, .int rNs, .int rAm, .int rAw])), (rTape, .inr (0, [.ref q2, .int tpS])), (q2, .inl (nA2, tpN, .inl tpA))] H) (hD : va_D A [(h0, .inr (6, [.int w0_0, .ref rTape, .int rStart, .int rEnd, .int rWide, .ref rRule, .int rNp, .int rNs, .int rAm, .int rAw])), (rTape, .inr (0, [.ref q2, .int tpS])), (q2, .inl (nA2, tpN, .inl tpA))]) (hS : va_S A s.heap H locs) (hl : lv_has ls 2 [(0, .ref h0), (1, .int x1)]) : W p l e R s m args below meth c H locs 0 0 Q (F0 m 0 ls []) := by
  obtain ⟨hx, hb, hr, hml, hown, hts, hlocks, hRf, hRl⟩ := id C0
  obtain ⟨tms, hZms, hTms, tmg, hZmg, hTmg, hNW⟩ := id hST
  unfold f_RP_pass_0 at hf
  refine lv_aload_n hx hb d_RP_pass_0 rfl (lv_at hl 0 rfl) ?_
  obtain ⟨r_1, hc, hf⟩ := ob hf
  refine cl_S (v := (some (.int r_1))) (st1 := [.int r_1]) (va_runV (As := []) (rest := []) ⟨hx, hb, hml, hown, hts⟩ (c_RP_peek l dC dI h0 rTape rRule q2 nA2 nf w0_0 rStart rEnd rWide rNp rNs rAm rAw tpS tpN tpA hc) (cwV 0 hts (gdV m_4_101 m_4_103 msel_33 m_1_17 m_4_104) rfl rfl rfl (by decide +kernel) ⟨Nat.le_trans (Nat.le_of_ble_eq_true rfl) hRf, Nat.le_trans (Nat.le_of_ble_eq_true rfl) hRl⟩) ((RO.pre (hP.sub (ws' := [(h0, .inr (6, [.int w0_0, .ref rTape, .int rStart, .int rEnd, .int rWide, .ref rRule, .int rNp, .int rNs, .int rAm, .int rAw])), (rTape, .inr (0, [.ref q2, .int tpS])), (q2, .inl (nA2, tpN, .inl tpA))]) [0, 1, 2] rfl) (hK.sub (tys' := [(nA2, .byte)]) [0] rfl) (hST.ro hS)).vir (va_recv (hK.sub (tys' := [(nA2, .byte)]) [0] rfl) (hP.sub (ws' := [(h0, .inr (6, [.int w0_0, .ref rTape, .int rStart, .int rEnd, .int rWide, .ref rRule, .int rNp, .int rNs, .int rAm, .int rAw])), (rTape, .inr (0, [.ref q2, .int tpS])), (q2, .inl (nA2, tpN, .inl tpA))]) [0, 1, 2] rfl) (ci := 6) (q0 := 0) rfl rfl)) rfl rfl hl.1 rfl (lv_room (Nat.le_of_ble_eq_true rfl)) d_RP_pass_1 ⟨Nat.zero_le _, Nat.zero_le _⟩) rfl ?_
  refine lv_iload_n hx hb d_RP_pass_4 rfl (lv_at hl 1 rfl) ?_
  refine lv_icmp_eq (tgt := 10) hx hb d_RP_pass_5 (by decide) (fun c_2 => ?_) (fun c_2 => ?_)
  · have hf := it_t c_2 hf
    refine lv_aload_n hx hb d_RP_pass_10 rfl (lv_at hl 0 rfl) ?_
    refine lv_dup hx hb d_RP_pass_11 rfl ?_
    refine va_get (D := (dC, dI)) (ci := 6) (v := .int w0_0) (C := RRuleParser) (T := TRuleParser) (N := 10) hx hb hts in_RuleParser hown hK hP 0 rfl rfl 0 (by decide) (hts (.fieldLink "ZoneFiles$RuleParser" 28 "ZoneFiles$RuleParser" "pos" "I") m_4_51) (fun _ h9 => h9) rfl d_RP_pass_12 ?_
    refine lv_iconst (v := 1) hx hb d_RP_pass_15 (by decide) ?_
    refine lv_iadd hx hb d_RP_pass_16 ?_
    refine va_put (D := (dC, dI)) (ci := 6) (v := .int (w0_0 + 1)) (ty := .int) (C := RRuleParser) (T := TRuleParser) (N := 10) hx hb hts in_RuleParser tyRuleParser ty_RuleParser nm_RuleParser hown hK hP hD hS 0 rfl rfl 0 (by decide) (hts (.fieldLink "ZoneFiles$RuleParser" 28 "ZoneFiles$RuleParser" "pos" "I") m_4_51) (fun _ h9 => h9) rfl (by decide +kernel) rfl rfl (Nat.le_of_ble_eq_true rfl) d_RP_pass_17 (fun H locs hP hD hS => ?_)
    have hP : va_P (dC, dI) classes [(h0, .inr (6, [.int (w0_0 + 1), .ref rTape, .int rStart, .int rEnd, .int rWide, .ref rRule, .int rNp, .int rNs, .int rAm, .int rAw])), (rTape, .inr (0, [.ref q2, .int tpS])), (q2, .inl (nA2, tpN, .inl tpA))] H := hP
    have hD : va_D A [(h0, .inr (6, [.int (w0_0 + 1), .ref rTape, .int rStart, .int rEnd, .int rWide, .ref rRule, .int rNp, .int rNs, .int rAm, .int rAw])), (rTape, .inr (0, [.ref q2, .int tpS])), (q2, .inl (nA2, tpN, .inl tpA))] := hD
    refine lv_iconst (v := 1) hx hb d_RP_pass_20 (by decide) ?_
    cases rs hf
    exact hE _ _ _ _ d_RP_pass_21 rfl hP hD hS hK
  · have hf := it_f c_2 hf
    refine lv_iconst (v := 0) hx hb d_RP_pass_8 (by decide) ?_
    cases rs hf
    exact hE _ _ _ _ d_RP_pass_9 rfl hP hD hS hK
end
set_option maxHeartbeats 400000 in
set_option maxRecDepth 100000 in
theorem c_RP_pass (l : Launch) (dC : Nat → ClassId) (dI : Nat → Nat → Nat) (h0 : Nat) (rTape : Nat) (rRule : Nat) (tpR : Nat) (cAtpR : ClassId) (sz : Nat) (nf : Nat) (p0 : Int32) (rPos : Int32) (rStart : Int32) (rEnd : Int32) (rWide : Int32) (rNp : Int32) (rNs : Int32) (rAm : Int32) (rAw : Int32) (tpS : Int32) (tpN : Nat) (tpA : Nat → Int32) {r0 : Int32} {v0_0 : Int32} (hf : f_RP_pass nf p0 rPos rEnd tpS tpN tpA = some (r0, v0_0)) : Met l y_RP_pass (wd y_RP_pass b_RP_pass 2 (some .boolean)) ({ frames := 2, cells := 0, slots := 0, locals := 41 }) (MU dC dI [(h0, .inr (6, [.int rPos, .ref rTape, .int rStart, .int rEnd, .int rWide, .ref rRule, .int rNp, .int rNs, .int rAm, .int rAw])), (rTape, .inr (0, [.ref tpR, .int tpS])), (tpR, .inl (cAtpR, tpN, .inl tpA))] [(cAtpR, .byte)] sz [.ref h0, .int p0]) (MV (some (.int r0)) (fun t => ∃ (q2 : Nat) (nA2 : ClassId), va_P (dC, dI) classes [(h0, .inr (6, [.int v0_0, .ref rTape, .int rStart, .int rEnd, .int rWide, .ref rRule, .int rNp, .int rNs, .int rAm, .int rAw])), (rTape, .inr (0, [.ref q2, .int tpS])), (q2, .inl (nA2, tpN, .inl tpA))] t.heap ∧ va_K (dC, dI) classes [(nA2, .byte)] t ∧ va_D (va_A [(h0, .inr (6, [.int rPos, .ref rTape, .int rStart, .int rEnd, .int rWide, .ref rRule, .int rNp, .int rNs, .int rAm, .int rAw])), (rTape, .inr (0, [.ref tpR, .int tpS])), (tpR, .inl (cAtpR, tpN, .inl tpA))] sz) [(h0, .inr (6, [.int v0_0, .ref rTape, .int rStart, .int rEnd, .int rWide, .ref rRule, .int rNp, .int rNs, .int rAm, .int rAw])), (rTape, .inr (0, [.ref q2, .int tpS])), (q2, .inl (nA2, tpN, .inl tpA))]) (va_A [(h0, .inr (6, [.int rPos, .ref rTape, .int rStart, .int rEnd, .int rWide, .ref rRule, .int rNp, .int rNs, .int rAm, .int rAw])), (rTape, .inr (0, [.ref tpR, .int tpS])), (tpR, .inl (cAtpR, tpN, .inl tpA))] sz)) 0 0 (va_A [(h0, .inr (6, [.int rPos, .ref rTape, .int rStart, .int rEnd, .int rWide, .ref rRule, .int rNp, .int rNs, .int rAm, .int rAw])), (rTape, .inr (0, [.ref tpR, .int tpS])), (tpR, .inl (cAtpR, tpN, .inl tpA))] sz) :=
  met_M (plainFor_of_name (by decide)) (Nat.le_of_ble_eq_true rfl) (fun p e R s m args below meth c ls hRc hRs hsz hin C0 hST hK hP hD hl => by
    obtain ⟨hx, hb, hr, hml, hown, hts, hlocks, hRf, hRl⟩ := id C0
    subst hsz
    have hA : ∀ q : Nat, s.heap.size ≤ q → va_A [(h0, .inr (6, [.int rPos, .ref rTape, .int rStart, .int rEnd, .int rWide, .ref rRule, .int rNp, .int rNs, .int rAm, .int rAw])), (rTape, .inr (0, [.ref tpR, .int tpS])), (tpR, .inl (cAtpR, tpN, .inl tpA))] s.heap.size q := fun q h => Or.inr h
    have hS : va_S (va_A [(h0, .inr (6, [.int rPos, .ref rTape, .int rStart, .int rEnd, .int rWide, .ref rRule, .int rNp, .int rNs, .int rAm, .int rAw])), (rTape, .inr (0, [.ref tpR, .int tpS])), (tpR, .inl (cAtpR, tpN, .inl tpA))] s.heap.size) s.heap s.heap [] := va_S.rf
    unfold f_RP_pass at hf
    exact k_RP_pass_0 C0 hST hA (fun pc ls {q2} {nA2} H locs hd hn hP hD hS hK => W.zret hx hb hr hn (fun t ht hW => ⟨⟨rfl, ⟨q2, nA2, by rw [ht]; exact hP, va_K.moved hW.alike hK, hD⟩⟩, hS.F ht⟩) hS.2.2 hd) hf hK hP hD hS (lv_sub hl [0, 1] rfl))
-- ZoneFiles$RuleParser.readNumber(II)I
def f_RP_readNumber_76 (nf : Nat) (w0_0 : Int32) : Option (Int32 × Int32) :=
  some ((-1), w0_0)
def f_RP_readNumber_90 (nf : Nat) (x3 : Int32) (w0_0 : Int32) : Option (Int32 × Int32) :=
  some ((-1), x3)
def f_RP_readNumber_58 (nf : Nat) (rEnd : Int32) (tpS : Int32) (tpN : Nat) (tpA : Nat → Int32) (x4 : Int32) (x3 : Int32) (x1 : Int32) (x2 : Int32) (w0_0 : Int32) : Option (Int32 × Int32) :=
  if w0_0 = x3 then
  f_RP_readNumber_76 nf w0_0
  else
  (f_RP_peek nf w0_0 rEnd tpS tpN tpA).bind fun r_3 =>
    (f_ZF_isDigit nf r_3).bind fun r_4 =>
    if r_4 = 0 then
    if x4 < x1 then
      f_RP_readNumber_90 nf x3 w0_0
      else
      if x4 ≤ x2 then
        some (x4, w0_0)
        else
        f_RP_readNumber_90 nf x3 w0_0
    else
    f_RP_readNumber_76 nf w0_0
def f_RP_readNumber_11 (nf : Nat) (rEnd : Int32) (tpS : Int32) (tpN : Nat) (tpA : Nat → Int32) : Nat → Int32 → Int32 → Int32 → Int32 → Int32 → Int32 → Option (Int32 × Int32)
  | 0, _, _, _, _, _, _ => none
  | n + 1, x5, x4, x3, x1, x2, w0_0 =>
    if (3 : Int32) ≤ x5 then
    f_RP_readNumber_58 nf rEnd tpS tpN tpA x4 x3 x1 x2 w0_0
    else
    (f_RP_peek nf w0_0 rEnd tpS tpN tpA).bind fun r_8 =>
      (f_ZF_isDigit nf r_8).bind fun r_9 =>
      if r_9 = 0 then
      f_RP_readNumber_58 nf rEnd tpS tpN tpA x4 x3 x1 x2 w0_0
      else
      (f_RP_peek nf w0_0 rEnd tpS tpN tpA).bind fun r_11 =>
        f_RP_readNumber_11 nf rEnd tpS tpN tpA n (x5 + 1) (((10 * x4) + r_11) - 48) x3 x1 x2 (w0_0 + 1)
def f_RP_readNumber_0 (nf : Nat) (rEnd : Int32) (tpS : Int32) (tpN : Nat) (tpA : Nat → Int32) (x1 : Int32) (x2 : Int32) (w0_0 : Int32) : Option (Int32 × Int32) :=
  f_RP_readNumber_11 nf rEnd tpS tpN tpA nf 0 0 w0_0 x1 x2 w0_0
def f_RP_readNumber (nf : Nat) (p0 : Int32) (p1 : Int32) (rPos : Int32) (rEnd : Int32) (tpS : Int32) (tpN : Nat) (tpA : Nat → Int32) : Option (Int32 × Int32) :=
  f_RP_readNumber_0 nf rEnd tpS tpN tpA p0 p1 rPos
section
variable {p : Program} {l : Launch} {e : Env} {R : Room} {s : State} {m : MethodId} {args : Array Value} {below : List Frame} {meth : Method} {c : Code} {Q : State → Prop} {dC : Nat → ClassId} {dI : Nat → Nat → Nat} {nf : Nat} {A : Nat → Prop}
variable {h0 : Nat} {rTape : Nat} {rRule : Nat} {tpR : Nat} {cAtpR : ClassId} {rPos : Int32} {rStart : Int32} {rEnd : Int32} {rWide : Int32} {rNp : Int32} {rNs : Int32} {rAm : Int32} {rAw : Int32} {tpS : Int32} {tpN : Nat} {tpA : Nat → Int32} {r0 : Int32} {v0_0 : Int32}
set_option maxHeartbeats 400000 in
set_option maxRecDepth 100000 in
theorem k_RP_readNumber_76 (C0 : Cx p s m meth c args R b_RP_readNumber "ZoneFiles$RuleParser" 6 (some .int) 2 41) (hST : ST A s s.heap) (hA : ∀ q, s.heap.size ≤ q → A q) (hE : ∀ (pc : Nat) (ls : Array Slot) {q2 : Nat} {nA2 : ClassId} (H : Heap) (locs : List Loc), decode b_RP_readNumber pc = .ok (.ireturn, 1) → narrow .int (.int r0) = .int r0 → va_P (dC, dI) classes [(h0, .inr (6, [.int v0_0, .ref rTape, .int rStart, .int rEnd, .int rWide, .ref rRule, .int rNp, .int rNs, .int rAm, .int rAw])), (rTape, .inr (0, [.ref q2, .int tpS])), (q2, .inl (nA2, tpN, .inl tpA))] H → va_D A [(h0, .inr (6, [.int v0_0, .ref rTape, .int rStart, .int rEnd, .int rWide, .ref rRule, .int rNp, .int rNs, .int rAm, .int rAw])), (rTape, .inr (0, [.ref q2, .int tpS])), (q2, .inl (nA2, tpN, .inl tpA))] → va_S A s.heap H locs → va_K (dC, dI) classes [(nA2, .byte)] s → W p l e R s m args below meth c H locs 0 0 Q (F0 m pc ls [.int r0])) {w0_0 : Int32} (hf : f_RP_readNumber_76 nf w0_0 = some (r0, v0_0)) {q2 : Nat} {nA2 : ClassId} {H : Heap} {locs : List Loc} {ls : Array Slot} (hK : va_K (dC, dI) classes [(nA2, .byte)] s) (hP : va_P (dC, dI) classes [(h0, .inr (6, [.int w0_0, .ref rTape, .int rStart, .int rEnd, .int rWide, .ref rRule, .int rNp, .int rNs, .int rAm, .int rAw])), (rTape, .inr (0, [.ref q2, .int tpS])), (q2, .inl (nA2, tpN, .inl tpA))] H) (hD : va_D A [(h0, .inr (6, [.int w0_0, .ref rTape, .int rStart, .int rEnd, .int rWide, .ref rRule, .int rNp, .int rNs, .int rAm, .int rAw])), (rTape, .inr (0, [.ref q2, .int tpS])), (q2, .inl (nA2, tpN, .inl tpA))]) (hS : va_S A s.heap H locs) (hl : lv_has ls 6 []) : W p l e R s m args below meth c H locs 0 0 Q (F0 m 76 ls []) := by
  obtain ⟨hx, hb, hr, hml, hown, hts, hlocks, hRf, hRl⟩ := id C0
  obtain ⟨tms, hZms, hTms, tmg, hZmg, hTmg, hNW⟩ := id hST
  unfold f_RP_readNumber_76 at hf
  refine lv_iconst (v := -1) hx hb d_RP_readNumber_76 (by decide) ?_
  cases rs hf
  exact hE _ _ _ _ d_RP_readNumber_77 rfl hP hD hS hK
set_option maxHeartbeats 400000 in
set_option maxRecDepth 100000 in
theorem k_RP_readNumber_90 (C0 : Cx p s m meth c args R b_RP_readNumber "ZoneFiles$RuleParser" 6 (some .int) 2 41) (hST : ST A s s.heap) (hA : ∀ q, s.heap.size ≤ q → A q) (hE : ∀ (pc : Nat) (ls : Array Slot) {q2 : Nat} {nA2 : ClassId} (H : Heap) (locs : List Loc), decode b_RP_readNumber pc = .ok (.ireturn, 1) → narrow .int (.int r0) = .int r0 → va_P (dC, dI) classes [(h0, .inr (6, [.int v0_0, .ref rTape, .int rStart, .int rEnd, .int rWide, .ref rRule, .int rNp, .int rNs, .int rAm, .int rAw])), (rTape, .inr (0, [.ref q2, .int tpS])), (q2, .inl (nA2, tpN, .inl tpA))] H → va_D A [(h0, .inr (6, [.int v0_0, .ref rTape, .int rStart, .int rEnd, .int rWide, .ref rRule, .int rNp, .int rNs, .int rAm, .int rAw])), (rTape, .inr (0, [.ref q2, .int tpS])), (q2, .inl (nA2, tpN, .inl tpA))] → va_S A s.heap H locs → va_K (dC, dI) classes [(nA2, .byte)] s → W p l e R s m args below meth c H locs 0 0 Q (F0 m pc ls [.int r0])) {x3 : Int32} {w0_0 : Int32} (hf : f_RP_readNumber_90 nf x3 w0_0 = some (r0, v0_0)) {q2 : Nat} {nA2 : ClassId} {H : Heap} {locs : List Loc} {ls : Array Slot} (hK : va_K (dC, dI) classes [(nA2, .byte)] s) (hP : va_P (dC, dI) classes [(h0, .inr (6, [.int w0_0, .ref rTape, .int rStart, .int rEnd, .int rWide, .ref rRule, .int rNp, .int rNs, .int rAm, .int rAw])), (rTape, .inr (0, [.ref q2, .int tpS])), (q2, .inl (nA2, tpN, .inl tpA))] H) (hD : va_D A [(h0, .inr (6, [.int w0_0, .ref rTape, .int rStart, .int rEnd, .int rWide, .ref rRule, .int rNp, .int rNs, .int rAm, .int rAw])), (rTape, .inr (0, [.ref q2, .int tpS])), (q2, .inl (nA2, tpN, .inl tpA))]) (hS : va_S A s.heap H locs) (hl : lv_has ls 6 [(3, .int x3), (0, .ref h0)]) : W p l e R s m args below meth c H locs 0 0 Q (F0 m 90 ls []) := by
  obtain ⟨hx, hb, hr, hml, hown, hts, hlocks, hRf, hRl⟩ := id C0
  obtain ⟨tms, hZms, hTms, tmg, hZmg, hTmg, hNW⟩ := id hST
  unfold f_RP_readNumber_90 at hf
  refine lv_aload_n hx hb d_RP_readNumber_90 rfl (lv_at hl 1 rfl) ?_
  refine lv_iload_n hx hb d_RP_readNumber_91 rfl (lv_at hl 0 rfl) ?_
  refine va_put (D := (dC, dI)) (ci := 6) (v := .int x3) (ty := .int) (C := RRuleParser) (T := TRuleParser) (N := 10) hx hb hts in_RuleParser tyRuleParser ty_RuleParser nm_RuleParser hown hK hP hD hS 0 rfl rfl 0 (by decide) (hts (.fieldLink "ZoneFiles$RuleParser" 28 "ZoneFiles$RuleParser" "pos" "I") m_4_51) (fun _ h9 => h9) rfl (by decide +kernel) rfl rfl (Nat.le_of_ble_eq_true rfl) d_RP_readNumber_92 (fun H locs hP hD hS => ?_)
  have hP : va_P (dC, dI) classes [(h0, .inr (6, [.int x3, .ref rTape, .int rStart, .int rEnd, .int rWide, .ref rRule, .int rNp, .int rNs, .int rAm, .int rAw])), (rTape, .inr (0, [.ref q2, .int tpS])), (q2, .inl (nA2, tpN, .inl tpA))] H := hP
  have hD : va_D A [(h0, .inr (6, [.int x3, .ref rTape, .int rStart, .int rEnd, .int rWide, .ref rRule, .int rNp, .int rNs, .int rAm, .int rAw])), (rTape, .inr (0, [.ref q2, .int tpS])), (q2, .inl (nA2, tpN, .inl tpA))] := hD
  refine lv_iconst (v := -1) hx hb d_RP_readNumber_95 (by decide) ?_
  cases rs hf
  exact hE _ _ _ _ d_RP_readNumber_96 rfl hP hD hS hK
set_option maxHeartbeats 400000 in
set_option maxRecDepth 100000 in
theorem k_RP_readNumber_58 (C0 : Cx p s m meth c args R b_RP_readNumber "ZoneFiles$RuleParser" 6 (some .int) 2 41) (hST : ST A s s.heap) (hA : ∀ q, s.heap.size ≤ q → A q) (hE : ∀ (pc : Nat) (ls : Array Slot) {q2 : Nat} {nA2 : ClassId} (H : Heap) (locs : List Loc), decode b_RP_readNumber pc = .ok (.ireturn, 1) → narrow .int (.int r0) = .int r0 → va_P (dC, dI) classes [(h0, .inr (6, [.int v0_0, .ref rTape, .int rStart, .int rEnd, .int rWide, .ref rRule, .int rNp, .int rNs, .int rAm, .int rAw])), (rTape, .inr (0, [.ref q2, .int tpS])), (q2, .inl (nA2, tpN, .inl tpA))] H → va_D A [(h0, .inr (6, [.int v0_0, .ref rTape, .int rStart, .int rEnd, .int rWide, .ref rRule, .int rNp, .int rNs, .int rAm, .int rAw])), (rTape, .inr (0, [.ref q2, .int tpS])), (q2, .inl (nA2, tpN, .inl tpA))] → va_S A s.heap H locs → va_K (dC, dI) classes [(nA2, .byte)] s → W p l e R s m args below meth c H locs 0 0 Q (F0 m pc ls [.int r0])) {x4 : Int32} {x3 : Int32} {x1 : Int32} {x2 : Int32} {w0_0 : Int32} (hf : f_RP_readNumber_58 nf rEnd tpS tpN tpA x4 x3 x1 x2 w0_0 = some (r0, v0_0)) {q2 : Nat} {nA2 : ClassId} {H : Heap} {locs : List Loc} {ls : Array Slot} (hK : va_K (dC, dI) classes [(nA2, .byte)] s) (hP : va_P (dC, dI) classes [(h0, .inr (6, [.int w0_0, .ref rTape, .int rStart, .int rEnd, .int rWide, .ref rRule, .int rNp, .int rNs, .int rAm, .int rAw])), (rTape, .inr (0, [.ref q2, .int tpS])), (q2, .inl (nA2, tpN, .inl tpA))] H) (hD : va_D A [(h0, .inr (6, [.int w0_0, .ref rTape, .int rStart, .int rEnd, .int rWide, .ref rRule, .int rNp, .int rNs, .int rAm, .int rAw])), (rTape, .inr (0, [.ref q2, .int tpS])), (q2, .inl (nA2, tpN, .inl tpA))]) (hS : va_S A s.heap H locs) (hl : lv_has ls 6 [(4, .int x4), (3, .int x3), (0, .ref h0), (1, .int x1), (2, .int x2)]) : W p l e R s m args below meth c H locs 0 0 Q (F0 m 58 ls []) := by
  obtain ⟨hx, hb, hr, hml, hown, hts, hlocks, hRf, hRl⟩ := id C0
  obtain ⟨tms, hZms, hTms, tmg, hZmg, hTmg, hNW⟩ := id hST
  unfold f_RP_readNumber_58 at hf
  refine lv_aload_n hx hb d_RP_readNumber_58 rfl (lv_at hl 2 rfl) ?_
  refine va_get (D := (dC, dI)) (ci := 6) (v := .int w0_0) (C := RRuleParser) (T := TRuleParser) (N := 10) hx hb hts in_RuleParser hown hK hP 0 rfl rfl 0 (by decide) (hts (.fieldLink "ZoneFiles$RuleParser" 28 "ZoneFiles$RuleParser" "pos" "I") m_4_51) (fun _ h9 => h9) rfl d_RP_readNumber_59 ?_
  refine lv_iload_n hx hb d_RP_readNumber_62 rfl (lv_at hl 1 rfl) ?_
  refine lv_icmp_eq (tgt := 76) hx hb d_RP_readNumber_63 (by decide) (fun c_2 => ?_) (fun c_2 => ?_)
  · have hf := it_t c_2 hf
    exact k_RP_readNumber_76 C0 hST hA hE hf hK hP hD hS (lv_sub hl [] rfl)
  · have hf := it_f c_2 hf
    refine lv_aload_n hx hb d_RP_readNumber_66 rfl (lv_at hl 2 rfl) ?_
    obtain ⟨r_3, hc, hf⟩ := ob hf
    refine cl_S (v := (some (.int r_3))) (st1 := [.int r_3]) (va_runV (As := []) (rest := []) ⟨hx, hb, hml, hown, hts⟩ (c_RP_peek l dC dI h0 rTape rRule q2 nA2 nf w0_0 rStart rEnd rWide rNp rNs rAm rAw tpS tpN tpA hc) (cwV 0 hts (gdV m_4_101 m_4_103 msel_33 m_1_17 m_4_104) rfl rfl rfl (by decide +kernel) ⟨Nat.le_trans (Nat.le_of_ble_eq_true rfl) hRf, Nat.le_trans (Nat.le_of_ble_eq_true rfl) hRl⟩) ((RO.pre (hP.sub (ws' := [(h0, .inr (6, [.int w0_0, .ref rTape, .int rStart, .int rEnd, .int rWide, .ref rRule, .int rNp, .int rNs, .int rAm, .int rAw])), (rTape, .inr (0, [.ref q2, .int tpS])), (q2, .inl (nA2, tpN, .inl tpA))]) [0, 1, 2] rfl) (hK.sub (tys' := [(nA2, .byte)]) [0] rfl) (hST.ro hS)).vir (va_recv (hK.sub (tys' := [(nA2, .byte)]) [0] rfl) (hP.sub (ws' := [(h0, .inr (6, [.int w0_0, .ref rTape, .int rStart, .int rEnd, .int rWide, .ref rRule, .int rNp, .int rNs, .int rAm, .int rAw])), (rTape, .inr (0, [.ref q2, .int tpS])), (q2, .inl (nA2, tpN, .inl tpA))]) [0, 1, 2] rfl) (ci := 6) (q0 := 0) rfl rfl)) rfl rfl hl.1 rfl (lv_room (Nat.le_of_ble_eq_true rfl)) d_RP_readNumber_67 ⟨Nat.zero_le _, Nat.zero_le _⟩) rfl ?_
    obtain ⟨r_4, hc, hf⟩ := ob hf
    refine cl_S (v := (some (.int r_4))) (st1 := [.int r_4]) (va_runSN (As := [.int r_3]) (rest := []) ⟨hx, hb, hml, hown, hts⟩ (c_ZF_isDigit l dC dI nf r_3 hc) ⟨va_cnB 1 hts (gd_of m_2_202) rfl rfl rfl hNW.2.2.2.2.2.2.2.1 (hts _ m_1_1) (by decide +kernel) ⟨Nat.le_trans (Nat.le_of_ble_eq_true rfl) hRf, Nat.le_trans (Nat.le_of_ble_eq_true rfl) hRl⟩, hts _ m_2_201, trivial⟩ (RO.pre0 hK (hST.ro hS)).sta rfl rfl hl.1 rfl (lv_room (Nat.le_of_ble_eq_true rfl)) d_RP_readNumber_70 ⟨Nat.zero_le _, Nat.zero_le _⟩) rfl ?_
    refine lv_if_eq (tgt := 78) hx hb d_RP_readNumber_73 (by decide) (fun c_5 => ?_) (fun c_5 => ?_)
    · have hf := it_t c_5 hf
      refine lv_iload hx hb d_RP_readNumber_78 (lv_at hl 0 rfl) ?_
      refine lv_iload_n hx hb d_RP_readNumber_80 rfl (lv_at hl 3 rfl) ?_
      refine lv_icmp_lt (tgt := 90) hx hb d_RP_readNumber_81 (by decide) (fun c_6 => ?_) (fun c_6 => ?_)
      · have hf := it_t c_6 hf
        exact k_RP_readNumber_90 C0 hST hA hE hf hK hP hD hS (lv_sub hl [1, 2] rfl)
      · have hf := it_f c_6 hf
        refine lv_iload hx hb d_RP_readNumber_84 (lv_at hl 0 rfl) ?_
        refine lv_iload_n hx hb d_RP_readNumber_86 rfl (lv_at hl 4 rfl) ?_
        refine lv_icmp_le (tgt := 97) hx hb d_RP_readNumber_87 (by decide) (fun c_7 => ?_) (fun c_7 => ?_)
        · have hf := it_t c_7 hf
          refine lv_iload hx hb d_RP_readNumber_97 (lv_at hl 0 rfl) ?_
          cases rs hf
          exact hE _ _ _ _ d_RP_readNumber_99 rfl hP hD hS hK
        · have hf := it_f c_7 hf
          exact k_RP_readNumber_90 C0 hST hA hE hf hK hP hD hS (lv_sub hl [1, 2] rfl)
    · have hf := it_f c_5 hf
      exact k_RP_readNumber_76 C0 hST hA hE hf hK hP hD hS (lv_sub hl [] rfl)
set_option maxHeartbeats 400000 in
set_option maxRecDepth 100000 in
theorem k_RP_readNumber_11 (C0 : Cx p s m meth c args R b_RP_readNumber "ZoneFiles$RuleParser" 6 (some .int) 2 41) (hST : ST A s s.heap) (hA : ∀ q, s.heap.size ≤ q → A q) (hE : ∀ (pc : Nat) (ls : Array Slot) {q2 : Nat} {nA2 : ClassId} (H : Heap) (locs : List Loc), decode b_RP_readNumber pc = .ok (.ireturn, 1) → narrow .int (.int r0) = .int r0 → va_P (dC, dI) classes [(h0, .inr (6, [.int v0_0, .ref rTape, .int rStart, .int rEnd, .int rWide, .ref rRule, .int rNp, .int rNs, .int rAm, .int rAw])), (rTape, .inr (0, [.ref q2, .int tpS])), (q2, .inl (nA2, tpN, .inl tpA))] H → va_D A [(h0, .inr (6, [.int v0_0, .ref rTape, .int rStart, .int rEnd, .int rWide, .ref rRule, .int rNp, .int rNs, .int rAm, .int rAw])), (rTape, .inr (0, [.ref q2, .int tpS])), (q2, .inl (nA2, tpN, .inl tpA))] → va_S A s.heap H locs → va_K (dC, dI) classes [(nA2, .byte)] s → W p l e R s m args below meth c H locs 0 0 Q (F0 m pc ls [.int r0])) : ∀ (n : Nat) {x5 : Int32} {x4 : Int32} {x3 : Int32} {x1 : Int32} {x2 : Int32} {w0_0 : Int32}, f_RP_readNumber_11 nf rEnd tpS tpN tpA n x5 x4 x3 x1 x2 w0_0 = some (r0, v0_0) → ∀ {q2 : Nat} {nA2 : ClassId} {H : Heap} {locs : List Loc} {ls : Array Slot}, va_K (dC, dI) classes [(nA2, .byte)] s → va_P (dC, dI) classes [(h0, .inr (6, [.int w0_0, .ref rTape, .int rStart, .int rEnd, .int rWide, .ref rRule, .int rNp, .int rNs, .int rAm, .int rAw])), (rTape, .inr (0, [.ref q2, .int tpS])), (q2, .inl (nA2, tpN, .inl tpA))] H → va_D A [(h0, .inr (6, [.int w0_0, .ref rTape, .int rStart, .int rEnd, .int rWide, .ref rRule, .int rNp, .int rNs, .int rAm, .int rAw])), (rTape, .inr (0, [.ref q2, .int tpS])), (q2, .inl (nA2, tpN, .inl tpA))] → va_S A s.heap H locs → lv_has ls 6 [(5, .int x5), (4, .int x4), (3, .int x3), (0, .ref h0), (1, .int x1), (2, .int x2)] → W p l e R s m args below meth c H locs 0 0 Q (F0 m 11 ls []) := by
  obtain ⟨hx, hb, hr, hml, hown, hts, hlocks, hRf, hRl⟩ := id C0
  obtain ⟨tms, hZms, hTms, tmg, hZmg, hTmg, hNW⟩ := id hST
  intro n
  induction n with
  | zero =>
    intro x5 x4 x3 x1 x2 w0_0 hf
    exact absurd hf (by simp [f_RP_readNumber_11])
  | succ n ih =>
    intro x5 x4 x3 x1 x2 w0_0 hf q2 nA2 H locs ls hK hP hD hS hl
    unfold f_RP_readNumber_11 at hf
    refine lv_iload hx hb d_RP_readNumber_11 (lv_at hl 0 rfl) ?_
    refine lv_iconst (v := 3) hx hb d_RP_readNumber_13 (by decide) ?_
    refine lv_icmp_ge (tgt := 58) hx hb d_RP_readNumber_14 (by decide) (fun c_1 => ?_) (fun c_1 => ?_)
    · have hf := it_t c_1 hf
      exact k_RP_readNumber_58 C0 hST hA hE hf hK hP hD hS (lv_sub hl [1, 2, 3, 4, 5] rfl)
    · have hf := it_f c_1 hf
      refine lv_aload_n hx hb d_RP_readNumber_17 rfl (lv_at hl 3 rfl) ?_
      obtain ⟨r_8, hc, hf⟩ := ob hf
      refine cl_S (v := (some (.int r_8))) (st1 := [.int r_8]) (va_runV (As := []) (rest := []) ⟨hx, hb, hml, hown, hts⟩ (c_RP_peek l dC dI h0 rTape rRule q2 nA2 nf w0_0 rStart rEnd rWide rNp rNs rAm rAw tpS tpN tpA hc) (cwV 0 hts (gdV m_4_101 m_4_103 msel_33 m_1_17 m_4_104) rfl rfl rfl (by decide +kernel) ⟨Nat.le_trans (Nat.le_of_ble_eq_true rfl) hRf, Nat.le_trans (Nat.le_of_ble_eq_true rfl) hRl⟩) ((RO.pre (hP.sub (ws' := [(h0, .inr (6, [.int w0_0, .ref rTape, .int rStart, .int rEnd, .int rWide, .ref rRule, .int rNp, .int rNs, .int rAm, .int rAw])), (rTape, .inr (0, [.ref q2, .int tpS])), (q2, .inl (nA2, tpN, .inl tpA))]) [0, 1, 2] rfl) (hK.sub (tys' := [(nA2, .byte)]) [0] rfl) (hST.ro hS)).vir (va_recv (hK.sub (tys' := [(nA2, .byte)]) [0] rfl) (hP.sub (ws' := [(h0, .inr (6, [.int w0_0, .ref rTape, .int rStart, .int rEnd, .int rWide, .ref rRule, .int rNp, .int rNs, .int rAm, .int rAw])), (rTape, .inr (0, [.ref q2, .int tpS])), (q2, .inl (nA2, tpN, .inl tpA))]) [0, 1, 2] rfl) (ci := 6) (q0 := 0) rfl rfl)) rfl rfl hl.1 rfl (lv_room (Nat.le_of_ble_eq_true rfl)) d_RP_readNumber_18 ⟨Nat.zero_le _, Nat.zero_le _⟩) rfl ?_
      obtain ⟨r_9, hc, hf⟩ := ob hf
      refine cl_S (v := (some (.int r_9))) (st1 := [.int r_9]) (va_runSN (As := [.int r_8]) (rest := []) ⟨hx, hb, hml, hown, hts⟩ (c_ZF_isDigit l dC dI nf r_8 hc) ⟨va_cnB 1 hts (gd_of m_2_202) rfl rfl rfl hNW.2.2.2.2.2.2.2.1 (hts _ m_1_1) (by decide +kernel) ⟨Nat.le_trans (Nat.le_of_ble_eq_true rfl) hRf, Nat.le_trans (Nat.le_of_ble_eq_true rfl) hRl⟩, hts _ m_2_201, trivial⟩ (RO.pre0 hK (hST.ro hS)).sta rfl rfl hl.1 rfl (lv_room (Nat.le_of_ble_eq_true rfl)) d_RP_readNumber_21 ⟨Nat.zero_le _, Nat.zero_le _⟩) rfl ?_
      refine lv_if_eq (tgt := 58) hx hb d_RP_readNumber_24 (by decide) (fun c_10 => ?_) (fun c_10 => ?_)
      · have hf := it_t c_10 hf
        exact k_RP_readNumber_58 C0 hST hA hE hf hK hP hD hS (lv_sub hl [1, 2, 3, 4, 5] rfl)
      · have hf := it_f c_10 hf
        refine lv_bipush (v := 10) hx hb d_RP_readNumber_27 (by decide) ?_
        refine lv_iload hx hb d_RP_readNumber_29 (lv_at hl 1 rfl) ?_
        refine lv_imul hx hb d_RP_readNumber_31 ?_
        refine lv_aload_n hx hb d_RP_readNumber_32 rfl (lv_at hl 3 rfl) ?_
        obtain ⟨r_11, hc, hf⟩ := ob hf
        refine cl_S (v := (some (.int r_11))) (st1 := [.int r_11, .int (10 * x4)]) (va_runV (As := []) (rest := [.int (10 * x4)]) ⟨hx, hb, hml, hown, hts⟩ (c_RP_peek l dC dI h0 rTape rRule q2 nA2 nf w0_0 rStart rEnd rWide rNp rNs rAm rAw tpS tpN tpA hc) (cwV 0 hts (gdV m_4_101 m_4_103 msel_33 m_1_17 m_4_104) rfl rfl rfl (by decide +kernel) ⟨Nat.le_trans (Nat.le_of_ble_eq_true rfl) hRf, Nat.le_trans (Nat.le_of_ble_eq_true rfl) hRl⟩) ((RO.pre (hP.sub (ws' := [(h0, .inr (6, [.int w0_0, .ref rTape, .int rStart, .int rEnd, .int rWide, .ref rRule, .int rNp, .int rNs, .int rAm, .int rAw])), (rTape, .inr (0, [.ref q2, .int tpS])), (q2, .inl (nA2, tpN, .inl tpA))]) [0, 1, 2] rfl) (hK.sub (tys' := [(nA2, .byte)]) [0] rfl) (hST.ro hS)).vir (va_recv (hK.sub (tys' := [(nA2, .byte)]) [0] rfl) (hP.sub (ws' := [(h0, .inr (6, [.int w0_0, .ref rTape, .int rStart, .int rEnd, .int rWide, .ref rRule, .int rNp, .int rNs, .int rAm, .int rAw])), (rTape, .inr (0, [.ref q2, .int tpS])), (q2, .inl (nA2, tpN, .inl tpA))]) [0, 1, 2] rfl) (ci := 6) (q0 := 0) rfl rfl)) rfl rfl hl.1 rfl (lv_room (Nat.le_of_ble_eq_true rfl)) d_RP_readNumber_33 ⟨Nat.zero_le _, Nat.zero_le _⟩) rfl ?_
        refine lv_iadd hx hb d_RP_readNumber_36 ?_
        refine lv_bipush (v := 48) hx hb d_RP_readNumber_37 (by decide) ?_
        refine lv_isub hx hb d_RP_readNumber_39 ?_
        refine lv_istore (lv' := [(4, .int (((10 * x4) + r_11) - 48)), (5, .int x5), (3, .int x3), (0, .ref h0), (1, .int x1), (2, .int x2)]) hx hb d_RP_readNumber_40 hl (by decide) rfl (fun ls hl => ?_)
        refine lv_aload_n hx hb d_RP_readNumber_42 rfl (lv_at hl 3 rfl) ?_
        refine lv_dup hx hb d_RP_readNumber_43 rfl ?_
        refine va_get (D := (dC, dI)) (ci := 6) (v := .int w0_0) (C := RRuleParser) (T := TRuleParser) (N := 10) hx hb hts in_RuleParser hown hK hP 0 rfl rfl 0 (by decide) (hts (.fieldLink "ZoneFiles$RuleParser" 28 "ZoneFiles$RuleParser" "pos" "I") m_4_51) (fun _ h9 => h9) rfl d_RP_readNumber_44 ?_
        refine lv_iconst (v := 1) hx hb d_RP_readNumber_47 (by decide) ?_
        refine lv_iadd hx hb d_RP_readNumber_48 ?_
        refine va_put (D := (dC, dI)) (ci := 6) (v := .int (w0_0 + 1)) (ty := .int) (C := RRuleParser) (T := TRuleParser) (N := 10) hx hb hts in_RuleParser tyRuleParser ty_RuleParser nm_RuleParser hown hK hP hD hS 0 rfl rfl 0 (by decide) (hts (.fieldLink "ZoneFiles$RuleParser" 28 "ZoneFiles$RuleParser" "pos" "I") m_4_51) (fun _ h9 => h9) rfl (by decide +kernel) rfl rfl (Nat.le_of_ble_eq_true rfl) d_RP_readNumber_49 (fun H locs hP hD hS => ?_)
        have hP : va_P (dC, dI) classes [(h0, .inr (6, [.int (w0_0 + 1), .ref rTape, .int rStart, .int rEnd, .int rWide, .ref rRule, .int rNp, .int rNs, .int rAm, .int rAw])), (rTape, .inr (0, [.ref q2, .int tpS])), (q2, .inl (nA2, tpN, .inl tpA))] H := hP
        have hD : va_D A [(h0, .inr (6, [.int (w0_0 + 1), .ref rTape, .int rStart, .int rEnd, .int rWide, .ref rRule, .int rNp, .int rNs, .int rAm, .int rAw])), (rTape, .inr (0, [.ref q2, .int tpS])), (q2, .inl (nA2, tpN, .inl tpA))] := hD
        refine lv_iinc (v := x5 + 1) (lv' := [(5, .int (x5 + 1)), (4, .int (((10 * x4) + r_11) - 48)), (3, .int x3), (0, .ref h0), (1, .int x1), (2, .int x2)]) hx hb d_RP_readNumber_52 hl (k := 1) rfl rfl (by decide) rfl (fun ls hl => ?_)
        refine lv_goto (tgt := 11) hx hb d_RP_readNumber_55 (by decide) ?_
        exact ih hf hK hP hD hS (lv_sub hl [0, 1, 2, 3, 4, 5] rfl)
set_option maxHeartbeats 400000 in
set_option maxRecDepth 100000 in
theorem k_RP_readNumber_0 (C0 : Cx p s m meth c args R b_RP_readNumber "ZoneFiles$RuleParser" 6 (some .int) 2 41) (hST : ST A s s.heap) (hA : ∀ q, s.heap.size ≤ q → A q) (hE : ∀ (pc : Nat) (ls : Array Slot) {q2 : Nat} {nA2 : ClassId} (H : Heap) (locs : List Loc), decode b_RP_readNumber pc = .ok (.ireturn, 1) → narrow .int (.int r0) = .int r0 → va_P (dC, dI) classes [(h0, .inr (6, [.int v0_0, .ref rTape, .int rStart, .int rEnd, .int rWide, .ref rRule, .int rNp, .int rNs, .int rAm, .int rAw])), (rTape, .inr (0, [.ref q2, .int tpS])), (q2, .inl (nA2, tpN, .inl tpA))] H → va_D A [(h0, .inr (6, [.int v0_0, .ref rTape, .int rStart, .int rEnd, .int rWide, .ref rRule, .int rNp, .int rNs, .int rAm, .int rAw])), (rTape, .inr (0, [.ref q2, .int tpS])), (q2, .inl (nA2, tpN, .inl tpA))] → va_S A s.heap H locs → va_K (dC, dI) classes [(nA2, .byte)] s → W p l e R s m args below meth c H locs 0 0 Q (F0 m pc ls [.int r0])) {x1 : Int32} {x2 : Int32} {w0_0 : Int32} (hf : f_RP_readNumber_0 nf rEnd tpS tpN tpA x1 x2 w0_0 = some (r0, v0_0)) {q2 : Nat} {nA2 : ClassId} {H : Heap} {locs : List Loc} {ls : Array Slot} (hK : va_K (dC, dI) classes [(nA2, .byte)] s) (hP : va_P (dC, dI) classes [(h0, .inr (6, [.int w0_0, .ref rTape, .int rStart, .int rEnd, .int rWide, .ref rRule, .int rNp, .int rNs, .int rAm, .int rAw])), (rTape, .inr (0, [.ref q2, .int tpS])), (q2, .inl (nA2, tpN, .inl tpA))] H) (hD : va_D A [(h0, .inr (6, [.int w0_0, .ref rTape, .int rStart, .int rEnd, .int rWide, .ref rRule, .int rNp, .int rNs, .int rAm, .int rAw])), (rTape, .inr (0, [.ref q2, .int tpS])), (q2, .inl (nA2, tpN, .inl tpA))]) (hS : va_S A s.heap H locs) (hl : lv_has ls 6 [(0, .ref h0), (1, .int x1), (2, .int x2)]) : W p l e R s m args below meth c H locs 0 0 Q (F0 m 0 ls []) := by
  obtain ⟨hx, hb, hr, hml, hown, hts, hlocks, hRf, hRl⟩ := id C0
  obtain ⟨tms, hZms, hTms, tmg, hZmg, hTmg, hNW⟩ := id hST
  unfold f_RP_readNumber_0 at hf
  refine lv_aload_n hx hb d_RP_readNumber_0 rfl (lv_at hl 0 rfl) ?_
  refine va_get (D := (dC, dI)) (ci := 6) (v := .int w0_0) (C := RRuleParser) (T := TRuleParser) (N := 10) hx hb hts in_RuleParser hown hK hP 0 rfl rfl 0 (by decide) (hts (.fieldLink "ZoneFiles$RuleParser" 28 "ZoneFiles$RuleParser" "pos" "I") m_4_51) (fun _ h9 => h9) rfl d_RP_readNumber_1 ?_
  refine lv_istore_n (lv' := [(3, .int w0_0), (0, .ref h0), (1, .int x1), (2, .int x2)]) hx hb d_RP_readNumber_4 rfl hl (by decide) rfl (fun ls hl => ?_)
  refine lv_iconst (v := 0) hx hb d_RP_readNumber_5 (by decide) ?_
  refine lv_istore (lv' := [(4, .int 0), (3, .int w0_0), (0, .ref h0), (1, .int x1), (2, .int x2)]) hx hb d_RP_readNumber_6 hl (by decide) rfl (fun ls hl => ?_)
  refine lv_iconst (v := 0) hx hb d_RP_readNumber_8 (by decide) ?_
  refine lv_istore (lv' := [(5, .int 0), (4, .int 0), (3, .int w0_0), (0, .ref h0), (1, .int x1), (2, .int x2)]) hx hb d_RP_readNumber_9 hl (by decide) rfl (fun ls hl => ?_)
  exact k_RP_readNumber_11 C0 hST hA hE nf hf hK hP hD hS (lv_sub hl [0, 1, 2, 3, 4, 5] rfl)
end
set_option maxHeartbeats 400000 in
set_option maxRecDepth 100000 in
theorem c_RP_readNumber (l : Launch) (dC : Nat → ClassId) (dI : Nat → Nat → Nat) (h0 : Nat) (rTape : Nat) (rRule : Nat) (tpR : Nat) (cAtpR : ClassId) (sz : Nat) (nf : Nat) (p0 : Int32) (p1 : Int32) (rPos : Int32) (rStart : Int32) (rEnd : Int32) (rWide : Int32) (rNp : Int32) (rNs : Int32) (rAm : Int32) (rAw : Int32) (tpS : Int32) (tpN : Nat) (tpA : Nat → Int32) {r0 : Int32} {v0_0 : Int32} (hf : f_RP_readNumber nf p0 p1 rPos rEnd tpS tpN tpA = some (r0, v0_0)) : Met l y_RP_readNumber (wd y_RP_readNumber b_RP_readNumber 6 (some .int)) ({ frames := 2, cells := 0, slots := 0, locals := 41 }) (MU dC dI [(h0, .inr (6, [.int rPos, .ref rTape, .int rStart, .int rEnd, .int rWide, .ref rRule, .int rNp, .int rNs, .int rAm, .int rAw])), (rTape, .inr (0, [.ref tpR, .int tpS])), (tpR, .inl (cAtpR, tpN, .inl tpA))] [(cAtpR, .byte)] sz [.ref h0, .int p0, .int p1]) (MV (some (.int r0)) (fun t => ∃ (q2 : Nat) (nA2 : ClassId), va_P (dC, dI) classes [(h0, .inr (6, [.int v0_0, .ref rTape, .int rStart, .int rEnd, .int rWide, .ref rRule, .int rNp, .int rNs, .int rAm, .int rAw])), (rTape, .inr (0, [.ref q2, .int tpS])), (q2, .inl (nA2, tpN, .inl tpA))] t.heap ∧ va_K (dC, dI) classes [(nA2, .byte)] t ∧ va_D (va_A [(h0, .inr (6, [.int rPos, .ref rTape, .int rStart, .int rEnd, .int rWide, .ref rRule, .int rNp, .int rNs, .int rAm, .int rAw])), (rTape, .inr (0, [.ref tpR, .int tpS])), (tpR, .inl (cAtpR, tpN, .inl tpA))] sz) [(h0, .inr (6, [.int v0_0, .ref rTape, .int rStart, .int rEnd, .int rWide, .ref rRule, .int rNp, .int rNs, .int rAm, .int rAw])), (rTape, .inr (0, [.ref q2, .int tpS])), (q2, .inl (nA2, tpN, .inl tpA))]) (va_A [(h0, .inr (6, [.int rPos, .ref rTape, .int rStart, .int rEnd, .int rWide, .ref rRule, .int rNp, .int rNs, .int rAm, .int rAw])), (rTape, .inr (0, [.ref tpR, .int tpS])), (tpR, .inl (cAtpR, tpN, .inl tpA))] sz)) 0 0 (va_A [(h0, .inr (6, [.int rPos, .ref rTape, .int rStart, .int rEnd, .int rWide, .ref rRule, .int rNp, .int rNs, .int rAm, .int rAw])), (rTape, .inr (0, [.ref tpR, .int tpS])), (tpR, .inl (cAtpR, tpN, .inl tpA))] sz) :=
  met_M (plainFor_of_name (by decide)) (Nat.le_of_ble_eq_true rfl) (fun p e R s m args below meth c ls hRc hRs hsz hin C0 hST hK hP hD hl => by
    obtain ⟨hx, hb, hr, hml, hown, hts, hlocks, hRf, hRl⟩ := id C0
    subst hsz
    have hA : ∀ q : Nat, s.heap.size ≤ q → va_A [(h0, .inr (6, [.int rPos, .ref rTape, .int rStart, .int rEnd, .int rWide, .ref rRule, .int rNp, .int rNs, .int rAm, .int rAw])), (rTape, .inr (0, [.ref tpR, .int tpS])), (tpR, .inl (cAtpR, tpN, .inl tpA))] s.heap.size q := fun q h => Or.inr h
    have hS : va_S (va_A [(h0, .inr (6, [.int rPos, .ref rTape, .int rStart, .int rEnd, .int rWide, .ref rRule, .int rNp, .int rNs, .int rAm, .int rAw])), (rTape, .inr (0, [.ref tpR, .int tpS])), (tpR, .inl (cAtpR, tpN, .inl tpA))] s.heap.size) s.heap s.heap [] := va_S.rf
    unfold f_RP_readNumber at hf
    exact k_RP_readNumber_0 C0 hST hA (fun pc ls {q2} {nA2} H locs hd hn hP hD hS hK => W.zret hx hb hr hn (fun t ht hW => ⟨⟨rfl, ⟨q2, nA2, by rw [ht]; exact hP, va_K.moved hW.alike hK, hD⟩⟩, hS.F ht⟩) hS.2.2 hd) hf hK hP hD hS (lv_sub hl [0, 1, 2] rfl))
-- ZoneFiles$RuleParser.readAmount(ZI)Z
def f_RP_readAmount_186 (nf : Nat) (s0 : Int32) (w0_0 : Int32) (w0_8 : Int32) (w0_9 : Int32) : Option (Int32 × Int32 × Int32 × Int32) :=
  if s0 = 0 ∨ s0 = 1 then some (s0, w0_0, w0_8, w0_9) else none
def f_RP_readAmount_185 (nf : Nat) (w0_0 : Int32) (w0_8 : Int32) (w0_9 : Int32) : Option (Int32 × Int32 × Int32 × Int32) :=
  f_RP_readAmount_186 nf 0 w0_0 w0_8 w0_9
def f_RP_readAmount_168 (nf : Nat) (x7 : Int32) (x6 : Int32) (s0 : Int32) (w0_0 : Int32) (w0_8 : Int32) (w0_9 : Int32) : Option (Int32 × Int32 × Int32 × Int32) :=
  if s0 = 0 ∨ s0 = 1 then if x6 < 0 then
  f_RP_readAmount_185 nf w0_0 w0_8 s0
  else
  if x7 < 0 then
    f_RP_readAmount_185 nf w0_0 w0_8 s0
    else
    f_RP_readAmount_186 nf 1 w0_0 w0_8 s0 else none
def f_RP_readAmount_163 (nf : Nat) (x7 : Int32) (x6 : Int32) (w0_0 : Int32) (w0_8 : Int32) (w0_9 : Int32) : Option (Int32 × Int32 × Int32 × Int32) :=
  f_RP_readAmount_168 nf x7 x6 1 w0_0 w0_8 w0_9
def f_RP_readAmount_147 (nf : Nat) (x7 : Int32) (x6 : Int32) (x5 : Int32) (x4 : Int32) (s0 : Int32) (w0_0 : Int32) (w0_8 : Int32) (w0_9 : Int32) : Option (Int32 × Int32 × Int32 × Int32) :=
  if x4 = 0 then
  if x5 ≤ (24 : Int32) then
    f_RP_readAmount_168 nf x7 x6 0 w0_0 s0 w0_9
    else
    f_RP_readAmount_163 nf x7 x6 w0_0 s0 w0_9
  else
  f_RP_readAmount_163 nf x7 x6 w0_0 s0 w0_9
def f_RP_readAmount_117 (nf : Nat) (x7 : Int32) (x6 : Int32) (x5 : Int32) (x4 : Int32) (x3 : Int32) (w0_0 : Int32) (w0_8 : Int32) (w0_9 : Int32) : Option (Int32 × Int32 × Int32 × Int32) :=
  if x3 = 0 then
  f_RP_readAmount_147 nf x7 x6 x5 x4 (((3600 * x5) + (60 * x6)) + x7) w0_0 w0_8 w0_9
  else
  f_RP_readAmount_147 nf x7 x6 x5 x4 (-(((3600 * x5) + (60 * x6)) + x7)) w0_0 w0_8 w0_9
def f_RP_readAmount_55 (nf : Nat) (rEnd : Int32) (tpS : Int32) (tpN : Nat) (tpA : Nat → Int32) (x4 : Int32) (x3 : Int32) (x2 : Int32) (w0_0 : Int32) (w0_8 : Int32) (w0_9 : Int32) : Option (Int32 × Int32 × Int32 × Int32) :=
  (f_RP_readNumber nf 0 x2 w0_0 rEnd tpS tpN tpA).bind fun (z_4, z_5) =>
  if 0 ≤ z_4 then
  (f_RP_pass nf 58 z_5 rEnd tpS tpN tpA).bind fun (z_9, z_10) =>
    if z_9 = 0 then
    f_RP_readAmount_117 nf 0 0 z_4 x4 x3 z_10 w0_8 w0_9
    else
    (f_RP_readNumber nf 0 59 z_10 rEnd tpS tpN tpA).bind fun (z_21, z_22) =>
      if z_21 < 0 then
      f_RP_readAmount_117 nf 0 z_21 z_4 x4 x3 z_22 w0_8 w0_9
      else
      (f_RP_pass nf 58 z_22 rEnd tpS tpN tpA).bind fun (z_26, z_27) =>
        if z_26 = 0 then
        f_RP_readAmount_117 nf 0 z_21 z_4 x4 x3 z_27 w0_8 w0_9
        else
        (f_RP_readNumber nf 0 59 z_27 rEnd tpS tpN tpA).bind fun (z_31, z_32) =>
          f_RP_readAmount_117 nf z_31 z_21 z_4 x4 x3 z_32 w0_8 w0_9
  else
  some (0, z_5, w0_8, w0_9)
def f_RP_readAmount_38 (nf : Nat) (rEnd : Int32) (tpS : Int32) (tpN : Nat) (tpA : Nat → Int32) (x3 : Int32) (x2 : Int32) (s0 : Int32) (w0_0 : Int32) (w0_8 : Int32) (w0_9 : Int32) : Option (Int32 × Int32 × Int32 × Int32) :=
  if s0 = 0 then
  f_RP_readAmount_55 nf rEnd tpS tpN tpA s0 x3 x2 w0_0 w0_8 w0_9
  else
  f_RP_readAmount_55 nf rEnd tpS tpN tpA s0 x3 x2 (w0_0 + 1) w0_8 w0_9
def f_RP_readAmount_37 (nf : Nat) (rEnd : Int32) (tpS : Int32) (tpN : Nat) (tpA : Nat → Int32) (x3 : Int32) (x2 : Int32) (w0_0 : Int32) (w0_8 : Int32) (w0_9 : Int32) : Option (Int32 × Int32 × Int32 × Int32) :=
  f_RP_readAmount_38 nf rEnd tpS tpN tpA x3 x2 0 w0_0 w0_8 w0_9
def f_RP_readAmount_18 (nf : Nat) (rEnd : Int32) (tpS : Int32) (tpN : Nat) (tpA : Nat → Int32) (x1 : Int32) (x2 : Int32) (s0 : Int32) (w0_0 : Int32) (w0_8 : Int32) (w0_9 : Int32) : Option (Int32 × Int32 × Int32 × Int32) :=
  if x1 = 0 then
  f_RP_readAmount_37 nf rEnd tpS tpN tpA s0 x2 w0_0 w0_8 w0_9
  else
  (f_RP_peek nf w0_0 rEnd tpS tpN tpA).bind fun r_35 =>
    (f_RP_isSign nf r_35).bind fun r_36 =>
    if r_36 = 0 then
    f_RP_readAmount_37 nf rEnd tpS tpN tpA s0 x2 w0_0 w0_8 w0_9
    else
    f_RP_readAmount_38 nf rEnd tpS tpN tpA s0 x2 1 w0_0 w0_8 w0_9
def f_RP_readAmount_17 (nf : Nat) (rEnd : Int32) (tpS : Int32) (tpN : Nat) (tpA : Nat → Int32) (x1 : Int32) (x2 : Int32) (w0_0 : Int32) (w0_8 : Int32) (w0_9 : Int32) : Option (Int32 × Int32 × Int32 × Int32) :=
  f_RP_readAmount_18 nf rEnd tpS tpN tpA x1 x2 0 w0_0 w0_8 w0_9
def f_RP_readAmount_0 (nf : Nat) (rEnd : Int32) (tpS : Int32) (tpN : Nat) (tpA : Nat → Int32) (x1 : Int32) (x2 : Int32) (w0_0 : Int32) (w0_8 : Int32) (w0_9 : Int32) : Option (Int32 × Int32 × Int32 × Int32) :=
  if x1 = 0 then
  f_RP_readAmount_17 nf rEnd tpS tpN tpA x1 x2 w0_0 w0_8 w0_9
  else
  (f_RP_peek nf w0_0 rEnd tpS tpN tpA).bind fun r_38 =>
    if r_38 = (45 : Int32) then
    f_RP_readAmount_18 nf rEnd tpS tpN tpA x1 x2 1 w0_0 w0_8 w0_9
    else
    f_RP_readAmount_17 nf rEnd tpS tpN tpA x1 x2 w0_0 w0_8 w0_9
def f_RP_readAmount (nf : Nat) (p0 : Int32) (p1 : Int32) (rPos : Int32) (rEnd : Int32) (rAm : Int32) (rAw : Int32) (tpS : Int32) (tpN : Nat) (tpA : Nat → Int32) : Option (Int32 × Int32 × Int32 × Int32) :=
  f_RP_readAmount_0 nf rEnd tpS tpN tpA p0 p1 rPos rAm rAw
section
variable {p : Program} {l : Launch} {e : Env} {R : Room} {s : State} {m : MethodId} {args : Array Value} {below : List Frame} {meth : Method} {c : Code} {Q : State → Prop} {dC : Nat → ClassId} {dI : Nat → Nat → Nat} {nf : Nat} {A : Nat → Prop}
variable {h0 : Nat} {rTape : Nat} {rRule : Nat} {tpR : Nat} {cAtpR : ClassId} {rPos : Int32} {rStart : Int32} {rEnd : Int32} {rWide : Int32} {rNp : Int32} {rNs : Int32} {rAm : Int32} {rAw : Int32} {tpS : Int32} {tpN : Nat} {tpA : Nat → Int32} {r0 : Int32} {v0_0 : Int32} {v0_8 : Int32} {v0_9 : Int32}
set_option maxHeartbeats 400000 in
set_option maxRecDepth 100000 in
theorem k_RP_readAmount_186 (C0 : Cx p s m meth c args R b_RP_readAmount "ZoneFiles$RuleParser" 9 (some .boolean) 3 66) (hST : ST A s s.heap) (hA : ∀ q, s.heap.size ≤ q → A q) (hE : ∀ (pc : Nat) (ls : Array Slot) {q2 : Nat} {nA2 : ClassId} (H : Heap) (locs : List Loc), decode b_RP_readAmount pc = .ok (.ireturn, 1) → narrow .boolean (.int r0) = .int r0 → va_P (dC, dI) classes [(h0, .inr (6, [.int v0_0, .ref rTape, .int rStart, .int rEnd, .int rWide, .ref rRule, .int rNp, .int rNs, .int v0_8, .int v0_9])), (rTape, .inr (0, [.ref q2, .int tpS])), (q2, .inl (nA2, tpN, .inl tpA))] H → va_D A [(h0, .inr (6, [.int v0_0, .ref rTape, .int rStart, .int rEnd, .int rWide, .ref rRule, .int rNp, .int rNs, .int v0_8, .int v0_9])), (rTape, .inr (0, [.ref q2, .int tpS])), (q2, .inl (nA2, tpN, .inl tpA))] → va_S A s.heap H locs → va_K (dC, dI) classes [(nA2, .byte)] s → W p l e R s m args below meth c H locs 0 0 Q (F0 m pc ls [.int r0])) {s0 : Int32} {w0_0 : Int32} {w0_8 : Int32} {w0_9 : Int32} (hf : f_RP_readAmount_186 nf s0 w0_0 w0_8 w0_9 = some (r0, v0_0, v0_8, v0_9)) {q2 : Nat} {nA2 : ClassId} {H : Heap} {locs : List Loc} {ls : Array Slot} (hK : va_K (dC, dI) classes [(nA2, .byte)] s) (hP : va_P (dC, dI) classes [(h0, .inr (6, [.int w0_0, .ref rTape, .int rStart, .int rEnd, .int rWide, .ref rRule, .int rNp, .int rNs, .int w0_8, .int w0_9])), (rTape, .inr (0, [.ref q2, .int tpS])), (q2, .inl (nA2, tpN, .inl tpA))] H) (hD : va_D A [(h0, .inr (6, [.int w0_0, .ref rTape, .int rStart, .int rEnd, .int rWide, .ref rRule, .int rNp, .int rNs, .int w0_8, .int w0_9])), (rTape, .inr (0, [.ref q2, .int tpS])), (q2, .inl (nA2, tpN, .inl tpA))]) (hS : va_S A s.heap H locs) (hl : lv_has ls 9 []) : W p l e R s m args below meth c H locs 0 0 Q (F0 m 186 ls [.int s0]) := by
  obtain ⟨hx, hb, hr, hml, hown, hts, hlocks, hRf, hRl⟩ := id C0
  obtain ⟨tms, hZms, hTms, tmg, hZmg, hTmg, hNW⟩ := id hST
  unfold f_RP_readAmount_186 at hf
  obtain ⟨c_18, hf⟩ := it_g hf
  cases rs hf
  exact hE _ _ _ _ d_RP_readAmount_186 (nb_of c_18) hP hD hS hK
set_option maxHeartbeats 400000 in
set_option maxRecDepth 100000 in
theorem k_RP_readAmount_185 (C0 : Cx p s m meth c args R b_RP_readAmount "ZoneFiles$RuleParser" 9 (some .boolean) 3 66) (hST : ST A s s.heap) (hA : ∀ q, s.heap.size ≤ q → A q) (hE : ∀ (pc : Nat) (ls : Array Slot) {q2 : Nat} {nA2 : ClassId} (H : Heap) (locs : List Loc), decode b_RP_readAmount pc = .ok (.ireturn, 1) → narrow .boolean (.int r0) = .int r0 → va_P (dC, dI) classes [(h0, .inr (6, [.int v0_0, .ref rTape, .int rStart, .int rEnd, .int rWide, .ref rRule, .int rNp, .int rNs, .int v0_8, .int v0_9])), (rTape, .inr (0, [.ref q2, .int tpS])), (q2, .inl (nA2, tpN, .inl tpA))] H → va_D A [(h0, .inr (6, [.int v0_0, .ref rTape, .int rStart, .int rEnd, .int rWide, .ref rRule, .int rNp, .int rNs, .int v0_8, .int v0_9])), (rTape, .inr (0, [.ref q2, .int tpS])), (q2, .inl (nA2, tpN, .inl tpA))] → va_S A s.heap H locs → va_K (dC, dI) classes [(nA2, .byte)] s → W p l e R s m args below meth c H locs 0 0 Q (F0 m pc ls [.int r0])) {w0_0 : Int32} {w0_8 : Int32} {w0_9 : Int32} (hf : f_RP_readAmount_185 nf w0_0 w0_8 w0_9 = some (r0, v0_0, v0_8, v0_9)) {q2 : Nat} {nA2 : ClassId} {H : Heap} {locs : List Loc} {ls : Array Slot} (hK : va_K (dC, dI) classes [(nA2, .byte)] s) (hP : va_P (dC, dI) classes [(h0, .inr (6, [.int w0_0, .ref rTape, .int rStart, .int rEnd, .int rWide, .ref rRule, .int rNp, .int rNs, .int w0_8, .int w0_9])), (rTape, .inr (0, [.ref q2, .int tpS])), (q2, .inl (nA2, tpN, .inl tpA))] H) (hD : va_D A [(h0, .inr (6, [.int w0_0, .ref rTape, .int rStart, .int rEnd, .int rWide, .ref rRule, .int rNp, .int rNs, .int w0_8, .int w0_9])), (rTape, .inr (0, [.ref q2, .int tpS])), (q2, .inl (nA2, tpN, .inl tpA))]) (hS : va_S A s.heap H locs) (hl : lv_has ls 9 []) : W p l e R s m args below meth c H locs 0 0 Q (F0 m 185 ls []) := by
  obtain ⟨hx, hb, hr, hml, hown, hts, hlocks, hRf, hRl⟩ := id C0
  obtain ⟨tms, hZms, hTms, tmg, hZmg, hTmg, hNW⟩ := id hST
  unfold f_RP_readAmount_185 at hf
  refine lv_iconst (v := 0) hx hb d_RP_readAmount_185 (by decide) ?_
  exact k_RP_readAmount_186 C0 hST hA hE hf hK hP hD hS (lv_sub hl [] rfl)
set_option maxHeartbeats 400000 in
set_option maxRecDepth 100000 in
theorem k_RP_readAmount_168 (C0 : Cx p s m meth c args R b_RP_readAmount "ZoneFiles$RuleParser" 9 (some .boolean) 3 66) (hST : ST A s s.heap) (hA : ∀ q, s.heap.size ≤ q → A q) (hE : ∀ (pc : Nat) (ls : Array Slot) {q2 : Nat} {nA2 : ClassId} (H : Heap) (locs : List Loc), decode b_RP_readAmount pc = .ok (.ireturn, 1) → narrow .boolean (.int r0) = .int r0 → va_P (dC, dI) classes [(h0, .inr (6, [.int v0_0, .ref rTape, .int rStart, .int rEnd, .int rWide, .ref rRule, .int rNp, .int rNs, .int v0_8, .int v0_9])), (rTape, .inr (0, [.ref q2, .int tpS])), (q2, .inl (nA2, tpN, .inl tpA))] H → va_D A [(h0, .inr (6, [.int v0_0, .ref rTape, .int rStart, .int rEnd, .int rWide, .ref rRule, .int rNp, .int rNs, .int v0_8, .int v0_9])), (rTape, .inr (0, [.ref q2, .int tpS])), (q2, .inl (nA2, tpN, .inl tpA))] → va_S A s.heap H locs → va_K (dC, dI) classes [(nA2, .byte)] s → W p l e R s m args below meth c H locs 0 0 Q (F0 m pc ls [.int r0])) {x7 : Int32} {x6 : Int32} {s0 : Int32} {w0_0 : Int32} {w0_8 : Int32} {w0_9 : Int32} (hf : f_RP_readAmount_168 nf x7 x6 s0 w0_0 w0_8 w0_9 = some (r0, v0_0, v0_8, v0_9)) {q2 : Nat} {nA2 : ClassId} {H : Heap} {locs : List Loc} {ls : Array Slot} (hK : va_K (dC, dI) classes [(nA2, .byte)] s) (hP : va_P (dC, dI) classes [(h0, .inr (6, [.int w0_0, .ref rTape, .int rStart, .int rEnd, .int rWide, .ref rRule, .int rNp, .int rNs, .int w0_8, .int w0_9])), (rTape, .inr (0, [.ref q2, .int tpS])), (q2, .inl (nA2, tpN, .inl tpA))] H) (hD : va_D A [(h0, .inr (6, [.int w0_0, .ref rTape, .int rStart, .int rEnd, .int rWide, .ref rRule, .int rNp, .int rNs, .int w0_8, .int w0_9])), (rTape, .inr (0, [.ref q2, .int tpS])), (q2, .inl (nA2, tpN, .inl tpA))]) (hS : va_S A s.heap H locs) (hl : lv_has ls 9 [(7, .int x7), (6, .int x6)]) : W p l e R s m args below meth c H locs 0 0 Q (F0 m 168 ls [.int s0, .ref h0]) := by
  obtain ⟨hx, hb, hr, hml, hown, hts, hlocks, hRf, hRl⟩ := id C0
  obtain ⟨tms, hZms, hTms, tmg, hZmg, hTmg, hNW⟩ := id hST
  unfold f_RP_readAmount_168 at hf
  obtain ⟨c_16, hf⟩ := it_g hf
  refine va_put (D := (dC, dI)) (ci := 6) (v := .int s0) (ty := .boolean) (C := RRuleParser) (T := TRuleParser) (N := 10) hx hb hts in_RuleParser tyRuleParser ty_RuleParser nm_RuleParser hown hK hP hD hS 0 rfl rfl 9 (by decide) (hts (.fieldLink "ZoneFiles$RuleParser" 129 "ZoneFiles$RuleParser" "amountIsWide" "Z") m_4_62) (fun _ h9 => h9) rfl (by decide +kernel) (nb_of c_16) (fb_of c_16) (Nat.le_of_ble_eq_true rfl) d_RP_readAmount_168 (fun H locs hP hD hS => ?_)
  have hP : va_P (dC, dI) classes [(h0, .inr (6, [.int w0_0, .ref rTape, .int rStart, .int rEnd, .int rWide, .ref rRule, .int rNp, .int rNs, .int w0_8, .int s0])), (rTape, .inr (0, [.ref q2, .int tpS])), (q2, .inl (nA2, tpN, .inl tpA))] H := hP
  have hD : va_D A [(h0, .inr (6, [.int w0_0, .ref rTape, .int rStart, .int rEnd, .int rWide, .ref rRule, .int rNp, .int rNs, .int w0_8, .int s0])), (rTape, .inr (0, [.ref q2, .int tpS])), (q2, .inl (nA2, tpN, .inl tpA))] := hD
  refine lv_iload hx hb d_RP_readAmount_171 (lv_at hl 1 rfl) ?_
  refine lv_if_lt (tgt := 185) hx hb d_RP_readAmount_173 (by decide) (fun c_17 => ?_) (fun c_17 => ?_)
  · have hf := it_t c_17 hf
    exact k_RP_readAmount_185 C0 hST hA hE hf hK hP hD hS (lv_sub hl [] rfl)
  · have hf := it_f c_17 hf
    refine lv_iload hx hb d_RP_readAmount_176 (lv_at hl 0 rfl) ?_
    refine lv_if_lt (tgt := 185) hx hb d_RP_readAmount_178 (by decide) (fun c_19 => ?_) (fun c_19 => ?_)
    · have hf := it_t c_19 hf
      exact k_RP_readAmount_185 C0 hST hA hE hf hK hP hD hS (lv_sub hl [] rfl)
    · have hf := it_f c_19 hf
      refine lv_iconst (v := 1) hx hb d_RP_readAmount_181 (by decide) ?_
      refine lv_goto (tgt := 186) hx hb d_RP_readAmount_182 (by decide) ?_
      exact k_RP_readAmount_186 C0 hST hA hE hf hK hP hD hS (lv_sub hl [] rfl)
set_option maxHeartbeats 400000 in
set_option maxRecDepth 100000 in
theorem k_RP_readAmount_163 (C0 : Cx p s m meth c args R b_RP_readAmount "ZoneFiles$RuleParser" 9 (some .boolean) 3 66) (hST : ST A s s.heap) (hA : ∀ q, s.heap.size ≤ q → A q) (hE : ∀ (pc : Nat) (ls : Array Slot) {q2 : Nat} {nA2 : ClassId} (H : Heap) (locs : List Loc), decode b_RP_readAmount pc = .ok (.ireturn, 1) → narrow .boolean (.int r0) = .int r0 → va_P (dC, dI) classes [(h0, .inr (6, [.int v0_0, .ref rTape, .int rStart, .int rEnd, .int rWide, .ref rRule, .int rNp, .int rNs, .int v0_8, .int v0_9])), (rTape, .inr (0, [.ref q2, .int tpS])), (q2, .inl (nA2, tpN, .inl tpA))] H → va_D A [(h0, .inr (6, [.int v0_0, .ref rTape, .int rStart, .int rEnd, .int rWide, .ref rRule, .int rNp, .int rNs, .int v0_8, .int v0_9])), (rTape, .inr (0, [.ref q2, .int tpS])), (q2, .inl (nA2, tpN, .inl tpA))] → va_S A s.heap H locs → va_K (dC, dI) classes [(nA2, .byte)] s → W p l e R s m args below meth c H locs 0 0 Q (F0 m pc ls [.int r0])) {x7 : Int32} {x6 : Int32} {w0_0 : Int32} {w0_8 : Int32} {w0_9 : Int32} (hf : f_RP_readAmount_163 nf x7 x6 w0_0 w0_8 w0_9 = some (r0, v0_0, v0_8, v0_9)) {q2 : Nat} {nA2 : ClassId} {H : Heap} {locs : List Loc} {ls : Array Slot} (hK : va_K (dC, dI) classes [(nA2, .byte)] s) (hP : va_P (dC, dI) classes [(h0, .inr (6, [.int w0_0, .ref rTape, .int rStart, .int rEnd, .int rWide, .ref rRule, .int rNp, .int rNs, .int w0_8, .int w0_9])), (rTape, .inr (0, [.ref q2, .int tpS])), (q2, .inl (nA2, tpN, .inl tpA))] H) (hD : va_D A [(h0, .inr (6, [.int w0_0, .ref rTape, .int rStart, .int rEnd, .int rWide, .ref rRule, .int rNp, .int rNs, .int w0_8, .int w0_9])), (rTape, .inr (0, [.ref q2, .int tpS])), (q2, .inl (nA2, tpN, .inl tpA))]) (hS : va_S A s.heap H locs) (hl : lv_has ls 9 [(7, .int x7), (6, .int x6)]) : W p l e R s m args below meth c H locs 0 0 Q (F0 m 163 ls [.ref h0]) := by
  obtain ⟨hx, hb, hr, hml, hown, hts, hlocks, hRf, hRl⟩ := id C0
  obtain ⟨tms, hZms, hTms, tmg, hZmg, hTmg, hNW⟩ := id hST
  unfold f_RP_readAmount_163 at hf
  refine lv_iconst (v := 1) hx hb d_RP_readAmount_163 (by decide) ?_
  refine lv_goto (tgt := 168) hx hb d_RP_readAmount_164 (by decide) ?_
  exact k_RP_readAmount_168 C0 hST hA hE hf hK hP hD hS (lv_sub hl [0, 1] rfl)
set_option maxHeartbeats 400000 in
set_option maxRecDepth 100000 in
theorem k_RP_readAmount_147 (C0 : Cx p s m meth c args R b_RP_readAmount "ZoneFiles$RuleParser" 9 (some .boolean) 3 66) (hST : ST A s s.heap) (hA : ∀ q, s.heap.size ≤ q → A q) (hE : ∀ (pc : Nat) (ls : Array Slot) {q2 : Nat} {nA2 : ClassId} (H : Heap) (locs : List Loc), decode b_RP_readAmount pc = .ok (.ireturn, 1) → narrow .boolean (.int r0) = .int r0 → va_P (dC, dI) classes [(h0, .inr (6, [.int v0_0, .ref rTape, .int rStart, .int rEnd, .int rWide, .ref rRule, .int rNp, .int rNs, .int v0_8, .int v0_9])), (rTape, .inr (0, [.ref q2, .int tpS])), (q2, .inl (nA2, tpN, .inl tpA))] H → va_D A [(h0, .inr (6, [.int v0_0, .ref rTape, .int rStart, .int rEnd, .int rWide, .ref rRule, .int rNp, .int rNs, .int v0_8, .int v0_9])), (rTape, .inr (0, [.ref q2, .int tpS])), (q2, .inl (nA2, tpN, .inl tpA))] → va_S A s.heap H locs → va_K (dC, dI) classes [(nA2, .byte)] s → W p l e R s m args below meth c H locs 0 0 Q (F0 m pc ls [.int r0])) {x7 : Int32} {x6 : Int32} {x5 : Int32} {x4 : Int32} {s0 : Int32} {w0_0 : Int32} {w0_8 : Int32} {w0_9 : Int32} (hf : f_RP_readAmount_147 nf x7 x6 x5 x4 s0 w0_0 w0_8 w0_9 = some (r0, v0_0, v0_8, v0_9)) {q2 : Nat} {nA2 : ClassId} {H : Heap} {locs : List Loc} {ls : Array Slot} (hK : va_K (dC, dI) classes [(nA2, .byte)] s) (hP : va_P (dC, dI) classes [(h0, .inr (6, [.int w0_0, .ref rTape, .int rStart, .int rEnd, .int rWide, .ref rRule, .int rNp, .int rNs, .int w0_8, .int w0_9])), (rTape, .inr (0, [.ref q2, .int tpS])), (q2, .inl (nA2, tpN, .inl tpA))] H) (hD : va_D A [(h0, .inr (6, [.int w0_0, .ref rTape, .int rStart, .int rEnd, .int rWide, .ref rRule, .int rNp, .int rNs, .int w0_8, .int w0_9])), (rTape, .inr (0, [.ref q2, .int tpS])), (q2, .inl (nA2, tpN, .inl tpA))]) (hS : va_S A s.heap H locs) (hl : lv_has ls 9 [(7, .int x7), (6, .int x6), (5, .int x5), (4, .int x4), (0, .ref h0)]) : W p l e R s m args below meth c H locs 0 0 Q (F0 m 147 ls [.int s0, .ref h0]) := by
  obtain ⟨hx, hb, hr, hml, hown, hts, hlocks, hRf, hRl⟩ := id C0
  obtain ⟨tms, hZms, hTms, tmg, hZmg, hTmg, hNW⟩ := id hST
  unfold f_RP_readAmount_147 at hf
  refine va_put (D := (dC, dI)) (ci := 6) (v := .int s0) (ty := .int) (C := RRuleParser) (T := TRuleParser) (N := 10) hx hb hts in_RuleParser tyRuleParser ty_RuleParser nm_RuleParser hown hK hP hD hS 0 rfl rfl 8 (by decide) (hts (.fieldLink "ZoneFiles$RuleParser" 95 "ZoneFiles$RuleParser" "amount" "I") m_4_61) (fun _ h9 => h9) rfl (by decide +kernel) rfl rfl (Nat.le_of_ble_eq_true rfl) d_RP_readAmount_147 (fun H locs hP hD hS => ?_)
  have hP : va_P (dC, dI) classes [(h0, .inr (6, [.int w0_0, .ref rTape, .int rStart, .int rEnd, .int rWide, .ref rRule, .int rNp, .int rNs, .int s0, .int w0_9])), (rTape, .inr (0, [.ref q2, .int tpS])), (q2, .inl (nA2, tpN, .inl tpA))] H := hP
  have hD : va_D A [(h0, .inr (6, [.int w0_0, .ref rTape, .int rStart, .int rEnd, .int rWide, .ref rRule, .int rNp, .int rNs, .int s0, .int w0_9])), (rTape, .inr (0, [.ref q2, .int tpS])), (q2, .inl (nA2, tpN, .inl tpA))] := hD
  refine lv_aload_n hx hb d_RP_readAmount_150 rfl (lv_at hl 4 rfl) ?_
  refine lv_iload hx hb d_RP_readAmount_151 (lv_at hl 3 rfl) ?_
  refine lv_if_ne (tgt := 163) hx hb d_RP_readAmount_153 (by decide) (fun c_15 => ?_) (fun c_15 => ?_)
  · have hf := it_f c_15 hf
    exact k_RP_readAmount_163 C0 hST hA hE hf hK hP hD hS (lv_sub hl [0, 1] rfl)
  · have hf := it_t c_15 hf
    refine lv_iload hx hb d_RP_readAmount_156 (lv_at hl 2 rfl) ?_
    refine lv_bipush (v := 24) hx hb d_RP_readAmount_158 (by decide) ?_
    refine lv_icmp_le (tgt := 167) hx hb d_RP_readAmount_160 (by decide) (fun c_20 => ?_) (fun c_20 => ?_)
    · have hf := it_t c_20 hf
      refine lv_iconst (v := 0) hx hb d_RP_readAmount_167 (by decide) ?_
      exact k_RP_readAmount_168 C0 hST hA hE hf hK hP hD hS (lv_sub hl [0, 1] rfl)
    · have hf := it_f c_20 hf
      exact k_RP_readAmount_163 C0 hST hA hE hf hK hP hD hS (lv_sub hl [0, 1] rfl)
set_option maxHeartbeats 400000 in
set_option maxRecDepth 100000 in
theorem k_RP_readAmount_117 (C0 : Cx p s m meth c args R b_RP_readAmount "ZoneFiles$RuleParser" 9 (some .boolean) 3 66) (hST : ST A s s.heap) (hA : ∀ q, s.heap.size ≤ q → A q) (hE : ∀ (pc : Nat) (ls : Array Slot) {q2 : Nat} {nA2 : ClassId} (H : Heap) (locs : List Loc), decode b_RP_readAmount pc = .ok (.ireturn, 1) → narrow .boolean (.int r0) = .int r0 → va_P (dC, dI) classes [(h0, .inr (6, [.int v0_0, .ref rTape, .int rStart, .int rEnd, .int rWide, .ref rRule, .int rNp, .int rNs, .int v0_8, .int v0_9])), (rTape, .inr (0, [.ref q2, .int tpS])), (q2, .inl (nA2, tpN, .inl tpA))] H → va_D A [(h0, .inr (6, [.int v0_0, .ref rTape, .int rStart, .int rEnd, .int rWide, .ref rRule, .int rNp, .int rNs, .int v0_8, .int v0_9])), (rTape, .inr (0, [.ref q2, .int tpS])), (q2, .inl (nA2, tpN, .inl tpA))] → va_S A s.heap H locs → va_K (dC, dI) classes [(nA2, .byte)] s → W p l e R s m args below meth c H locs 0 0 Q (F0 m pc ls [.int r0])) {x7 : Int32} {x6 : Int32} {x5 : Int32} {x4 : Int32} {x3 : Int32} {w0_0 : Int32} {w0_8 : Int32} {w0_9 : Int32} (hf : f_RP_readAmount_117 nf x7 x6 x5 x4 x3 w0_0 w0_8 w0_9 = some (r0, v0_0, v0_8, v0_9)) {q2 : Nat} {nA2 : ClassId} {H : Heap} {locs : List Loc} {ls : Array Slot} (hK : va_K (dC, dI) classes [(nA2, .byte)] s) (hP : va_P (dC, dI) classes [(h0, .inr (6, [.int w0_0, .ref rTape, .int rStart, .int rEnd, .int rWide, .ref rRule, .int rNp, .int rNs, .int w0_8, .int w0_9])), (rTape, .inr (0, [.ref q2, .int tpS])), (q2, .inl (nA2, tpN, .inl tpA))] H) (hD : va_D A [(h0, .inr (6, [.int w0_0, .ref rTape, .int rStart, .int rEnd, .int rWide, .ref rRule, .int rNp, .int rNs, .int w0_8, .int w0_9])), (rTape, .inr (0, [.ref q2, .int tpS])), (q2, .inl (nA2, tpN, .inl tpA))]) (hS : va_S A s.heap H locs) (hl : lv_has ls 9 [(7, .int x7), (6, .int x6), (5, .int x5), (4, .int x4), (3, .int x3), (0, .ref h0)]) : W p l e R s m args below meth c H locs 0 0 Q (F0 m 117 ls []) := by
  obtain ⟨hx, hb, hr, hml, hown, hts, hlocks, hRf, hRl⟩ := id C0
  obtain ⟨tms, hZms, hTms, tmg, hZmg, hTmg, hNW⟩ := id hST
  unfold f_RP_readAmount_117 at hf
  refine lv_sipush (v := 3600) hx hb d_RP_readAmount_117 (by decide) ?_
  refine lv_iload hx hb d_RP_readAmount_120 (lv_at hl 2 rfl) ?_
  refine lv_imul hx hb d_RP_readAmount_122 ?_
  refine lv_bipush (v := 60) hx hb d_RP_readAmount_123 (by decide) ?_
  refine lv_iload hx hb d_RP_readAmount_125 (lv_at hl 1 rfl) ?_
  refine lv_imul hx hb d_RP_readAmount_127 ?_
  refine lv_iadd hx hb d_RP_readAmount_128 ?_
  refine lv_iload hx hb d_RP_readAmount_129 (lv_at hl 0 rfl) ?_
  refine lv_iadd hx hb d_RP_readAmount_131 ?_
  refine lv_istore (lv' := [(8, .int (((3600 * x5) + (60 * x6)) + x7)), (7, .int x7), (6, .int x6), (5, .int x5), (4, .int x4), (3, .int x3), (0, .ref h0)]) hx hb d_RP_readAmount_132 hl (by decide) rfl (fun ls hl => ?_)
  refine lv_aload_n hx hb d_RP_readAmount_134 rfl (lv_at hl 6 rfl) ?_
  refine lv_iload_n hx hb d_RP_readAmount_135 rfl (lv_at hl 5 rfl) ?_
  refine lv_if_eq (tgt := 145) hx hb d_RP_readAmount_136 (by decide) (fun c_14 => ?_) (fun c_14 => ?_)
  · have hf := it_t c_14 hf
    refine lv_iload hx hb d_RP_readAmount_145 (lv_at hl 0 rfl) ?_
    exact k_RP_readAmount_147 C0 hST hA hE hf hK hP hD hS (lv_sub hl [1, 2, 3, 4, 6] rfl)
  · have hf := it_f c_14 hf
    refine lv_iload hx hb d_RP_readAmount_139 (lv_at hl 0 rfl) ?_
    refine lv_ineg hx hb d_RP_readAmount_141 ?_
    refine lv_goto (tgt := 147) hx hb d_RP_readAmount_142 (by decide) ?_
    exact k_RP_readAmount_147 C0 hST hA hE hf hK hP hD hS (lv_sub hl [1, 2, 3, 4, 6] rfl)
set_option maxHeartbeats 400000 in
set_option maxRecDepth 100000 in
theorem k_RP_readAmount_55 (C0 : Cx p s m meth c args R b_RP_readAmount "ZoneFiles$RuleParser" 9 (some .boolean) 3 66) (hST : ST A s s.heap) (hA : ∀ q, s.heap.size ≤ q → A q) (hE : ∀ (pc : Nat) (ls : Array Slot) {q2 : Nat} {nA2 : ClassId} (H : Heap) (locs : List Loc), decode b_RP_readAmount pc = .ok (.ireturn, 1) → narrow .boolean (.int r0) = .int r0 → va_P (dC, dI) classes [(h0, .inr (6, [.int v0_0, .ref rTape, .int rStart, .int rEnd, .int rWide, .ref rRule, .int rNp, .int rNs, .int v0_8, .int v0_9])), (rTape, .inr (0, [.ref q2, .int tpS])), (q2, .inl (nA2, tpN, .inl tpA))] H → va_D A [(h0, .inr (6, [.int v0_0, .ref rTape, .int rStart, .int rEnd, .int rWide, .ref rRule, .int rNp, .int rNs, .int v0_8, .int v0_9])), (rTape, .inr (0, [.ref q2, .int tpS])), (q2, .inl (nA2, tpN, .inl tpA))] → va_S A s.heap H locs → va_K (dC, dI) classes [(nA2, .byte)] s → W p l e R s m args below meth c H locs 0 0 Q (F0 m pc ls [.int r0])) {x4 : Int32} {x3 : Int32} {x2 : Int32} {w0_0 : Int32} {w0_8 : Int32} {w0_9 : Int32} (hf : f_RP_readAmount_55 nf rEnd tpS tpN tpA x4 x3 x2 w0_0 w0_8 w0_9 = some (r0, v0_0, v0_8, v0_9)) {q2 : Nat} {nA2 : ClassId} {H : Heap} {locs : List Loc} {ls : Array Slot} (hK : va_K (dC, dI) classes [(nA2, .byte)] s) (hP : va_P (dC, dI) classes [(h0, .inr (6, [.int w0_0, .ref rTape, .int rStart, .int rEnd, .int rWide, .ref rRule, .int rNp, .int rNs, .int w0_8, .int w0_9])), (rTape, .inr (0, [.ref q2, .int tpS])), (q2, .inl (nA2, tpN, .inl tpA))] H) (hD : va_D A [(h0, .inr (6, [.int w0_0, .ref rTape, .int rStart, .int rEnd, .int rWide, .ref rRule, .int rNp, .int rNs, .int w0_8, .int w0_9])), (rTape, .inr (0, [.ref q2, .int tpS])), (q2, .inl (nA2, tpN, .inl tpA))]) (hS : va_S A s.heap H locs) (hl : lv_has ls 9 [(4, .int x4), (3, .int x3), (0, .ref h0), (2, .int x2)]) : W p l e R s m args below meth c H locs 0 0 Q (F0 m 55 ls []) := by
  obtain ⟨hx, hb, hr, hml, hown, hts, hlocks, hRf, hRl⟩ := id C0
  obtain ⟨tms, hZms, hTms, tmg, hZmg, hTmg, hNW⟩ := id hST
  unfold f_RP_readAmount_55 at hf
  refine lv_aload_n hx hb d_RP_readAmount_55 rfl (lv_at hl 2 rfl) ?_
  refine lv_iconst (v := 0) hx hb d_RP_readAmount_56 (by decide) ?_
  refine lv_iload_n hx hb d_RP_readAmount_57 rfl (lv_at hl 3 rfl) ?_
  obtain ⟨⟨z_4, z_5⟩, hc, hf⟩ := ob hf
  have hPc := hP.sub (ws' := [(h0, .inr (6, [.int w0_0, .ref rTape, .int rStart, .int rEnd, .int rWide, .ref rRule, .int rNp, .int rNs, .int w0_8, .int w0_9])), (rTape, .inr (0, [.ref q2, .int tpS])), (q2, .inl (nA2, tpN, .inl tpA))]) [0, 1, 2] rfl
  have hDc := hD.sub (ws' := [(h0, .inr (6, [.int w0_0, .ref rTape, .int rStart, .int rEnd, .int rWide, .ref rRule, .int rNp, .int rNs, .int w0_8, .int w0_9])), (rTape, .inr (0, [.ref q2, .int tpS])), (q2, .inl (nA2, tpN, .inl tpA))]) [0, 1, 2] (by decide) rfl
  have hKc := hK.sub (tys' := [(nA2, .byte)]) [0] rfl
  have hFc := va_free (wc := [(h0, .inr (6, [.int w0_0, .ref rTape, .int rStart, .int rEnd, .int rWide, .ref rRule, .int rNp, .int rNs, .int w0_8, .int w0_9])), (rTape, .inr (0, [.ref q2, .int tpS])), (q2, .inl (nA2, tpN, .inl tpA))]) hD hS hA [0, 1, 2] rfl
  refine cl_M (v := (some (.int z_4))) (st1 := [.int z_4]) (va_runV (As := [.int 0, .int x2]) (rest := []) ⟨hx, hb, hml, hown, hts⟩ (c_RP_readNumber l dC dI h0 rTape rRule q2 nA2 H.size nf 0 x2 w0_0 rStart rEnd rWide rNp rNs w0_8 w0_9 tpS tpN tpA hc) (cwV 2 hts (gdV m_4_115 m_4_117 msel_35 m_1_17 m_4_118) rfl rfl rfl (by decide +kernel) ⟨Nat.le_trans (Nat.le_of_ble_eq_true rfl) hRf, Nat.le_trans (Nat.le_of_ble_eq_true rfl) hRl⟩) ((MU.pre hPc hKc hDc (hST.mu hS hFc)).vir (va_recv hKc hPc (ci := 6) (q0 := 0) rfl rfl)) rfl rfl hl.1 rfl (lv_room (Nat.le_of_ble_eq_true rfl)) d_RP_readAmount_58 ⟨Nat.zero_le _, Nat.zero_le _⟩) rfl hS (fun q _ h => hFc q h) hFc (fun t H1 locs ht hvm hB hz1 hk1 hS => ?_)
  obtain ⟨q_6, cq_7, hP1, hK1, hD1⟩ := hB
  rw [ht] at hP1
  have hK1 := va_K.moved hvm.symm hK1
  obtain ⟨hP, hD⟩ := va_join (wr := []) (w1 := [(h0, .inr (6, [.int z_5, .ref rTape, .int rStart, .int rEnd, .int rWide, .ref rRule, .int rNp, .int rNs, .int w0_8, .int w0_9])), (rTape, .inr (0, [.ref q_6, .int tpS])), (q_6, .inl (cq_7, tpN, .inl tpA))]) hP hD [0, 1, 2] [] rfl rfl (by decide) (by decide) hk1 hFc hP1 hD1
  have hK := (hK.sub (tys' := []) [] rfl).app hK1
  generalize H1 = H at hP hS ⊢
  have hP := hP.sub (ws' := [(h0, .inr (6, [.int z_5, .ref rTape, .int rStart, .int rEnd, .int rWide, .ref rRule, .int rNp, .int rNs, .int w0_8, .int w0_9])), (rTape, .inr (0, [.ref q_6, .int tpS])), (q_6, .inl (cq_7, tpN, .inl tpA))]) [0, 1, 2] rfl
  have hD := hD.sub (ws' := [(h0, .inr (6, [.int z_5, .ref rTape, .int rStart, .int rEnd, .int rWide, .ref rRule, .int rNp, .int rNs, .int w0_8, .int w0_9])), (rTape, .inr (0, [.ref q_6, .int tpS])), (q_6, .inl (cq_7, tpN, .inl tpA))]) [0, 1, 2] (by decide) rfl
  have hK := hK.sub (tys' := [(cq_7, .byte)]) [0] rfl
  refine lv_istore (lv' := [(5, .int z_4), (4, .int x4), (3, .int x3), (0, .ref h0), (2, .int x2)]) hx hb d_RP_readAmount_61 hl (by decide) rfl (fun ls hl => ?_)
  refine lv_iload hx hb d_RP_readAmount_63 (lv_at hl 0 rfl) ?_
  refine lv_if_ge (tgt := 70) hx hb d_RP_readAmount_65 (by decide) (fun c_8 => ?_) (fun c_8 => ?_)
  · have hf := it_t c_8 hf
    refine lv_iconst (v := 0) hx hb d_RP_readAmount_70 (by decide) ?_
    refine lv_istore (lv' := [(6, .int 0), (5, .int z_4), (4, .int x4), (3, .int x3), (0, .ref h0), (2, .int x2)]) hx hb d_RP_readAmount_71 hl (by decide) rfl (fun ls hl => ?_)
    refine lv_iconst (v := 0) hx hb d_RP_readAmount_73 (by decide) ?_
    refine lv_istore (lv' := [(7, .int 0), (6, .int 0), (5, .int z_4), (4, .int x4), (3, .int x3), (0, .ref h0), (2, .int x2)]) hx hb d_RP_readAmount_74 hl (by decide) rfl (fun ls hl => ?_)
    refine lv_aload_n hx hb d_RP_readAmount_76 rfl (lv_at hl 5 rfl) ?_
    refine lv_bipush (v := 58) hx hb d_RP_readAmount_77 (by decide) ?_
    obtain ⟨⟨z_9, z_10⟩, hc, hf⟩ := ob hf
    have hPc := hP.sub (ws' := [(h0, .inr (6, [.int z_5, .ref rTape, .int rStart, .int rEnd, .int rWide, .ref rRule, .int rNp, .int rNs, .int w0_8, .int w0_9])), (rTape, .inr (0, [.ref q_6, .int tpS])), (q_6, .inl (cq_7, tpN, .inl tpA))]) [0, 1, 2] rfl
    have hDc := hD.sub (ws' := [(h0, .inr (6, [.int z_5, .ref rTape, .int rStart, .int rEnd, .int rWide, .ref rRule, .int rNp, .int rNs, .int w0_8, .int w0_9])), (rTape, .inr (0, [.ref q_6, .int tpS])), (q_6, .inl (cq_7, tpN, .inl tpA))]) [0, 1, 2] (by decide) rfl
    have hKc := hK.sub (tys' := [(cq_7, .byte)]) [0] rfl
    have hFc := va_free (wc := [(h0, .inr (6, [.int z_5, .ref rTape, .int rStart, .int rEnd, .int rWide, .ref rRule, .int rNp, .int rNs, .int w0_8, .int w0_9])), (rTape, .inr (0, [.ref q_6, .int tpS])), (q_6, .inl (cq_7, tpN, .inl tpA))]) hD hS hA [0, 1, 2] rfl
    refine cl_M (v := (some (.int z_9))) (st1 := [.int z_9]) (va_runV (As := [.int 58]) (rest := []) ⟨hx, hb, hml, hown, hts⟩ (c_RP_pass l dC dI h0 rTape rRule q_6 cq_7 H.size nf 58 z_5 rStart rEnd rWide rNp rNs w0_8 w0_9 tpS tpN tpA hc) (cwV 1 hts (gdV m_4_97 m_4_99 msel_32 m_1_17 m_4_100) rfl rfl rfl (by decide +kernel) ⟨Nat.le_trans (Nat.le_of_ble_eq_true rfl) hRf, Nat.le_trans (Nat.le_of_ble_eq_true rfl) hRl⟩) ((MU.pre hPc hKc hDc (hST.mu hS hFc)).vir (va_recv hKc hPc (ci := 6) (q0 := 0) rfl rfl)) rfl rfl hl.1 rfl (lv_room (Nat.le_of_ble_eq_true rfl)) d_RP_readAmount_79 ⟨Nat.zero_le _, Nat.zero_le _⟩) rfl hS (fun q _ h => hFc q h) hFc (fun t H1 locs ht hvm hB hz1 hk1 hS => ?_)
    obtain ⟨q_11, cq_12, hP1, hK1, hD1⟩ := hB
    rw [ht] at hP1
    have hK1 := va_K.moved hvm.symm hK1
    obtain ⟨hP, hD⟩ := va_join (wr := []) (w1 := [(h0, .inr (6, [.int z_10, .ref rTape, .int rStart, .int rEnd, .int rWide, .ref rRule, .int rNp, .int rNs, .int w0_8, .int w0_9])), (rTape, .inr (0, [.ref q_11, .int tpS])), (q_11, .inl (cq_12, tpN, .inl tpA))]) hP hD [0, 1, 2] [] rfl rfl (by decide) (by decide) hk1 hFc hP1 hD1
    have hK := (hK.sub (tys' := []) [] rfl).app hK1
    generalize H1 = H at hP hS ⊢
    have hP := hP.sub (ws' := [(h0, .inr (6, [.int z_10, .ref rTape, .int rStart, .int rEnd, .int rWide, .ref rRule, .int rNp, .int rNs, .int w0_8, .int w0_9])), (rTape, .inr (0, [.ref q_11, .int tpS])), (q_11, .inl (cq_12, tpN, .inl tpA))]) [0, 1, 2] rfl
    have hD := hD.sub (ws' := [(h0, .inr (6, [.int z_10, .ref rTape, .int rStart, .int rEnd, .int rWide, .ref rRule, .int rNp, .int rNs, .int w0_8, .int w0_9])), (rTape, .inr (0, [.ref q_11, .int tpS])), (q_11, .inl (cq_12, tpN, .inl tpA))]) [0, 1, 2] (by decide) rfl
    have hK := hK.sub (tys' := [(cq_12, .byte)]) [0] rfl
    refine lv_if_eq (tgt := 117) hx hb d_RP_readAmount_82 (by decide) (fun c_13 => ?_) (fun c_13 => ?_)
    · have hf := it_t c_13 hf
      exact k_RP_readAmount_117 C0 hST hA hE hf hK hP hD hS (lv_sub hl [0, 1, 2, 3, 4, 5] rfl)
    · have hf := it_f c_13 hf
      refine lv_aload_n hx hb d_RP_readAmount_85 rfl (lv_at hl 5 rfl) ?_
      refine lv_iconst (v := 0) hx hb d_RP_readAmount_86 (by decide) ?_
      refine lv_bipush (v := 59) hx hb d_RP_readAmount_87 (by decide) ?_
      obtain ⟨⟨z_21, z_22⟩, hc, hf⟩ := ob hf
      have hPc := hP.sub (ws' := [(h0, .inr (6, [.int z_10, .ref rTape, .int rStart, .int rEnd, .int rWide, .ref rRule, .int rNp, .int rNs, .int w0_8, .int w0_9])), (rTape, .inr (0, [.ref q_11, .int tpS])), (q_11, .inl (cq_12, tpN, .inl tpA))]) [0, 1, 2] rfl
      have hDc := hD.sub (ws' := [(h0, .inr (6, [.int z_10, .ref rTape, .int rStart, .int rEnd, .int rWide, .ref rRule, .int rNp, .int rNs, .int w0_8, .int w0_9])), (rTape, .inr (0, [.ref q_11, .int tpS])), (q_11, .inl (cq_12, tpN, .inl tpA))]) [0, 1, 2] (by decide) rfl
      have hKc := hK.sub (tys' := [(cq_12, .byte)]) [0] rfl
      have hFc := va_free (wc := [(h0, .inr (6, [.int z_10, .ref rTape, .int rStart, .int rEnd, .int rWide, .ref rRule, .int rNp, .int rNs, .int w0_8, .int w0_9])), (rTape, .inr (0, [.ref q_11, .int tpS])), (q_11, .inl (cq_12, tpN, .inl tpA))]) hD hS hA [0, 1, 2] rfl
      refine cl_M (v := (some (.int z_21))) (st1 := [.int z_21]) (va_runV (As := [.int 0, .int 59]) (rest := []) ⟨hx, hb, hml, hown, hts⟩ (c_RP_readNumber l dC dI h0 rTape rRule q_11 cq_12 H.size nf 0 59 z_10 rStart rEnd rWide rNp rNs w0_8 w0_9 tpS tpN tpA hc) (cwV 2 hts (gdV m_4_115 m_4_117 msel_35 m_1_17 m_4_118) rfl rfl rfl (by decide +kernel) ⟨Nat.le_trans (Nat.le_of_ble_eq_true rfl) hRf, Nat.le_trans (Nat.le_of_ble_eq_true rfl) hRl⟩) ((MU.pre hPc hKc hDc (hST.mu hS hFc)).vir (va_recv hKc hPc (ci := 6) (q0 := 0) rfl rfl)) rfl rfl hl.1 rfl (lv_room (Nat.le_of_ble_eq_true rfl)) d_RP_readAmount_89 ⟨Nat.zero_le _, Nat.zero_le _⟩) rfl hS (fun q _ h => hFc q h) hFc (fun t H1 locs ht hvm hB hz1 hk1 hS => ?_)
      obtain ⟨q_23, cq_24, hP1, hK1, hD1⟩ := hB
      rw [ht] at hP1
      have hK1 := va_K.moved hvm.symm hK1
      obtain ⟨hP, hD⟩ := va_join (wr := []) (w1 := [(h0, .inr (6, [.int z_22, .ref rTape, .int rStart, .int rEnd, .int rWide, .ref rRule, .int rNp, .int rNs, .int w0_8, .int w0_9])), (rTape, .inr (0, [.ref q_23, .int tpS])), (q_23, .inl (cq_24, tpN, .inl tpA))]) hP hD [0, 1, 2] [] rfl rfl (by decide) (by decide) hk1 hFc hP1 hD1
      have hK := (hK.sub (tys' := []) [] rfl).app hK1
      generalize H1 = H at hP hS ⊢
      have hP := hP.sub (ws' := [(h0, .inr (6, [.int z_22, .ref rTape, .int rStart, .int rEnd, .int rWide, .ref rRule, .int rNp, .int rNs, .int w0_8, .int w0_9])), (rTape, .inr (0, [.ref q_23, .int tpS])), (q_23, .inl (cq_24, tpN, .inl tpA))]) [0, 1, 2] rfl
      have hD := hD.sub (ws' := [(h0, .inr (6, [.int z_22, .ref rTape, .int rStart, .int rEnd, .int rWide, .ref rRule, .int rNp, .int rNs, .int w0_8, .int w0_9])), (rTape, .inr (0, [.ref q_23, .int tpS])), (q_23, .inl (cq_24, tpN, .inl tpA))]) [0, 1, 2] (by decide) rfl
      have hK := hK.sub (tys' := [(cq_24, .byte)]) [0] rfl
      refine lv_istore (lv' := [(6, .int z_21), (7, .int 0), (5, .int z_4), (4, .int x4), (3, .int x3), (0, .ref h0), (2, .int x2)]) hx hb d_RP_readAmount_92 hl (by decide) rfl (fun ls hl => ?_)
      refine lv_iload hx hb d_RP_readAmount_94 (lv_at hl 0 rfl) ?_
      refine lv_if_lt (tgt := 117) hx hb d_RP_readAmount_96 (by decide) (fun c_25 => ?_) (fun c_25 => ?_)
      · have hf := it_t c_25 hf
        exact k_RP_readAmount_117 C0 hST hA hE hf hK hP hD hS (lv_sub hl [1, 0, 2, 3, 4, 5] rfl)
      · have hf := it_f c_25 hf
        refine lv_aload_n hx hb d_RP_readAmount_99 rfl (lv_at hl 5 rfl) ?_
        refine lv_bipush (v := 58) hx hb d_RP_readAmount_100 (by decide) ?_
        obtain ⟨⟨z_26, z_27⟩, hc, hf⟩ := ob hf
        have hPc := hP.sub (ws' := [(h0, .inr (6, [.int z_22, .ref rTape, .int rStart, .int rEnd, .int rWide, .ref rRule, .int rNp, .int rNs, .int w0_8, .int w0_9])), (rTape, .inr (0, [.ref q_23, .int tpS])), (q_23, .inl (cq_24, tpN, .inl tpA))]) [0, 1, 2] rfl
        have hDc := hD.sub (ws' := [(h0, .inr (6, [.int z_22, .ref rTape, .int rStart, .int rEnd, .int rWide, .ref rRule, .int rNp, .int rNs, .int w0_8, .int w0_9])), (rTape, .inr (0, [.ref q_23, .int tpS])), (q_23, .inl (cq_24, tpN, .inl tpA))]) [0, 1, 2] (by decide) rfl
        have hKc := hK.sub (tys' := [(cq_24, .byte)]) [0] rfl
        have hFc := va_free (wc := [(h0, .inr (6, [.int z_22, .ref rTape, .int rStart, .int rEnd, .int rWide, .ref rRule, .int rNp, .int rNs, .int w0_8, .int w0_9])), (rTape, .inr (0, [.ref q_23, .int tpS])), (q_23, .inl (cq_24, tpN, .inl tpA))]) hD hS hA [0, 1, 2] rfl
        refine cl_M (v := (some (.int z_26))) (st1 := [.int z_26]) (va_runV (As := [.int 58]) (rest := []) ⟨hx, hb, hml, hown, hts⟩ (c_RP_pass l dC dI h0 rTape rRule q_23 cq_24 H.size nf 58 z_22 rStart rEnd rWide rNp rNs w0_8 w0_9 tpS tpN tpA hc) (cwV 1 hts (gdV m_4_97 m_4_99 msel_32 m_1_17 m_4_100) rfl rfl rfl (by decide +kernel) ⟨Nat.le_trans (Nat.le_of_ble_eq_true rfl) hRf, Nat.le_trans (Nat.le_of_ble_eq_true rfl) hRl⟩) ((MU.pre hPc hKc hDc (hST.mu hS hFc)).vir (va_recv hKc hPc (ci := 6) (q0 := 0) rfl rfl)) rfl rfl hl.1 rfl (lv_room (Nat.le_of_ble_eq_true rfl)) d_RP_readAmount_102 ⟨Nat.zero_le _, Nat.zero_le _⟩) rfl hS (fun q _ h => hFc q h) hFc (fun t H1 locs ht hvm hB hz1 hk1 hS => ?_)
        obtain ⟨q_28, cq_29, hP1, hK1, hD1⟩ := hB
        rw [ht] at hP1
        have hK1 := va_K.moved hvm.symm hK1
        obtain ⟨hP, hD⟩ := va_join (wr := []) (w1 := [(h0, .inr (6, [.int z_27, .ref rTape, .int rStart, .int rEnd, .int rWide, .ref rRule, .int rNp, .int rNs, .int w0_8, .int w0_9])), (rTape, .inr (0, [.ref q_28, .int tpS])), (q_28, .inl (cq_29, tpN, .inl tpA))]) hP hD [0, 1, 2] [] rfl rfl (by decide) (by decide) hk1 hFc hP1 hD1
        have hK := (hK.sub (tys' := []) [] rfl).app hK1
        generalize H1 = H at hP hS ⊢
        have hP := hP.sub (ws' := [(h0, .inr (6, [.int z_27, .ref rTape, .int rStart, .int rEnd, .int rWide, .ref rRule, .int rNp, .int rNs, .int w0_8, .int w0_9])), (rTape, .inr (0, [.ref q_28, .int tpS])), (q_28, .inl (cq_29, tpN, .inl tpA))]) [0, 1, 2] rfl
        have hD := hD.sub (ws' := [(h0, .inr (6, [.int z_27, .ref rTape, .int rStart, .int rEnd, .int rWide, .ref rRule, .int rNp, .int rNs, .int w0_8, .int w0_9])), (rTape, .inr (0, [.ref q_28, .int tpS])), (q_28, .inl (cq_29, tpN, .inl tpA))]) [0, 1, 2] (by decide) rfl
        have hK := hK.sub (tys' := [(cq_29, .byte)]) [0] rfl
        refine lv_if_eq (tgt := 117) hx hb d_RP_readAmount_105 (by decide) (fun c_30 => ?_) (fun c_30 => ?_)
        · have hf := it_t c_30 hf
          exact k_RP_readAmount_117 C0 hST hA hE hf hK hP hD hS (lv_sub hl [1, 0, 2, 3, 4, 5] rfl)
        · have hf := it_f c_30 hf
          refine lv_aload_n hx hb d_RP_readAmount_108 rfl (lv_at hl 5 rfl) ?_
          refine lv_iconst (v := 0) hx hb d_RP_readAmount_109 (by decide) ?_
          refine lv_bipush (v := 59) hx hb d_RP_readAmount_110 (by decide) ?_
          obtain ⟨⟨z_31, z_32⟩, hc, hf⟩ := ob hf
          have hPc := hP.sub (ws' := [(h0, .inr (6, [.int z_27, .ref rTape, .int rStart, .int rEnd, .int rWide, .ref rRule, .int rNp, .int rNs, .int w0_8, .int w0_9])), (rTape, .inr (0, [.ref q_28, .int tpS])), (q_28, .inl (cq_29, tpN, .inl tpA))]) [0, 1, 2] rfl
          have hDc := hD.sub (ws' := [(h0, .inr (6, [.int z_27, .ref rTape, .int rStart, .int rEnd, .int rWide, .ref rRule, .int rNp, .int rNs, .int w0_8, .int w0_9])), (rTape, .inr (0, [.ref q_28, .int tpS])), (q_28, .inl (cq_29, tpN, .inl tpA))]) [0, 1, 2] (by decide) rfl
          have hKc := hK.sub (tys' := [(cq_29, .byte)]) [0] rfl
          have hFc := va_free (wc := [(h0, .inr (6, [.int z_27, .ref rTape, .int rStart, .int rEnd, .int rWide, .ref rRule, .int rNp, .int rNs, .int w0_8, .int w0_9])), (rTape, .inr (0, [.ref q_28, .int tpS])), (q_28, .inl (cq_29, tpN, .inl tpA))]) hD hS hA [0, 1, 2] rfl
          refine cl_M (v := (some (.int z_31))) (st1 := [.int z_31]) (va_runV (As := [.int 0, .int 59]) (rest := []) ⟨hx, hb, hml, hown, hts⟩ (c_RP_readNumber l dC dI h0 rTape rRule q_28 cq_29 H.size nf 0 59 z_27 rStart rEnd rWide rNp rNs w0_8 w0_9 tpS tpN tpA hc) (cwV 2 hts (gdV m_4_115 m_4_117 msel_35 m_1_17 m_4_118) rfl rfl rfl (by decide +kernel) ⟨Nat.le_trans (Nat.le_of_ble_eq_true rfl) hRf, Nat.le_trans (Nat.le_of_ble_eq_true rfl) hRl⟩) ((MU.pre hPc hKc hDc (hST.mu hS hFc)).vir (va_recv hKc hPc (ci := 6) (q0 := 0) rfl rfl)) rfl rfl hl.1 rfl (lv_room (Nat.le_of_ble_eq_true rfl)) d_RP_readAmount_112 ⟨Nat.zero_le _, Nat.zero_le _⟩) rfl hS (fun q _ h => hFc q h) hFc (fun t H1 locs ht hvm hB hz1 hk1 hS => ?_)
          obtain ⟨q_33, cq_34, hP1, hK1, hD1⟩ := hB
          rw [ht] at hP1
          have hK1 := va_K.moved hvm.symm hK1
          obtain ⟨hP, hD⟩ := va_join (wr := []) (w1 := [(h0, .inr (6, [.int z_32, .ref rTape, .int rStart, .int rEnd, .int rWide, .ref rRule, .int rNp, .int rNs, .int w0_8, .int w0_9])), (rTape, .inr (0, [.ref q_33, .int tpS])), (q_33, .inl (cq_34, tpN, .inl tpA))]) hP hD [0, 1, 2] [] rfl rfl (by decide) (by decide) hk1 hFc hP1 hD1
          have hK := (hK.sub (tys' := []) [] rfl).app hK1
          generalize H1 = H at hP hS ⊢
          have hP := hP.sub (ws' := [(h0, .inr (6, [.int z_32, .ref rTape, .int rStart, .int rEnd, .int rWide, .ref rRule, .int rNp, .int rNs, .int w0_8, .int w0_9])), (rTape, .inr (0, [.ref q_33, .int tpS])), (q_33, .inl (cq_34, tpN, .inl tpA))]) [0, 1, 2] rfl
          have hD := hD.sub (ws' := [(h0, .inr (6, [.int z_32, .ref rTape, .int rStart, .int rEnd, .int rWide, .ref rRule, .int rNp, .int rNs, .int w0_8, .int w0_9])), (rTape, .inr (0, [.ref q_33, .int tpS])), (q_33, .inl (cq_34, tpN, .inl tpA))]) [0, 1, 2] (by decide) rfl
          have hK := hK.sub (tys' := [(cq_34, .byte)]) [0] rfl
          refine lv_istore (lv' := [(7, .int z_31), (6, .int z_21), (5, .int z_4), (4, .int x4), (3, .int x3), (0, .ref h0), (2, .int x2)]) hx hb d_RP_readAmount_115 hl (by decide) rfl (fun ls hl => ?_)
          exact k_RP_readAmount_117 C0 hST hA hE hf hK hP hD hS (lv_sub hl [0, 1, 2, 3, 4, 5] rfl)
  · have hf := it_f c_8 hf
    refine lv_iconst (v := 0) hx hb d_RP_readAmount_68 (by decide) ?_
    cases rs hf
    exact hE _ _ _ _ d_RP_readAmount_69 rfl hP hD hS hK
set_option maxHeartbeats 400000 in
set_option maxRecDepth 100000 in
theorem k_RP_readAmount_38 (C0 : Cx p s m meth c args R b_RP_readAmount "ZoneFiles$RuleParser" 9 (some .boolean) 3 66) (hST : ST A s s.heap) (hA : ∀ q, s.heap.size ≤ q → A q) (hE : ∀ (pc : Nat) (ls : Array Slot) {q2 : Nat} {nA2 : ClassId} (H : Heap) (locs : List Loc), decode b_RP_readAmount pc = .ok (.ireturn, 1) → narrow .boolean (.int r0) = .int r0 → va_P (dC, dI) classes [(h0, .inr (6, [.int v0_0, .ref rTape, .int rStart, .int rEnd, .int rWide, .ref rRule, .int rNp, .int rNs, .int v0_8, .int v0_9])), (rTape, .inr (0, [.ref q2, .int tpS])), (q2, .inl (nA2, tpN, .inl tpA))] H → va_D A [(h0, .inr (6, [.int v0_0, .ref rTape, .int rStart, .int rEnd, .int rWide, .ref rRule, .int rNp, .int rNs, .int v0_8, .int v0_9])), (rTape, .inr (0, [.ref q2, .int tpS])), (q2, .inl (nA2, tpN, .inl tpA))] → va_S A s.heap H locs → va_K (dC, dI) classes [(nA2, .byte)] s → W p l e R s m args below meth c H locs 0 0 Q (F0 m pc ls [.int r0])) {x3 : Int32} {x2 : Int32} {s0 : Int32} {w0_0 : Int32} {w0_8 : Int32} {w0_9 : Int32} (hf : f_RP_readAmount_38 nf rEnd tpS tpN tpA x3 x2 s0 w0_0 w0_8 w0_9 = some (r0, v0_0, v0_8, v0_9)) {q2 : Nat} {nA2 : ClassId} {H : Heap} {locs : List Loc} {ls : Array Slot} (hK : va_K (dC, dI) classes [(nA2, .byte)] s) (hP : va_P (dC, dI) classes [(h0, .inr (6, [.int w0_0, .ref rTape, .int rStart, .int rEnd, .int rWide, .ref rRule, .int rNp, .int rNs, .int w0_8, .int w0_9])), (rTape, .inr (0, [.ref q2, .int tpS])), (q2, .inl (nA2, tpN, .inl tpA))] H) (hD : va_D A [(h0, .inr (6, [.int w0_0, .ref rTape, .int rStart, .int rEnd, .int rWide, .ref rRule, .int rNp, .int rNs, .int w0_8, .int w0_9])), (rTape, .inr (0, [.ref q2, .int tpS])), (q2, .inl (nA2, tpN, .inl tpA))]) (hS : va_S A s.heap H locs) (hl : lv_has ls 9 [(3, .int x3), (0, .ref h0), (2, .int x2)]) : W p l e R s m args below meth c H locs 0 0 Q (F0 m 38 ls [.int s0]) := by
  obtain ⟨hx, hb, hr, hml, hown, hts, hlocks, hRf, hRl⟩ := id C0
  obtain ⟨tms, hZms, hTms, tmg, hZmg, hTmg, hNW⟩ := id hST
  unfold f_RP_readAmount_38 at hf
  refine lv_istore (lv' := [(4, .int s0), (3, .int x3), (0, .ref h0), (2, .int x2)]) hx hb d_RP_readAmount_38 hl (by decide) rfl (fun ls hl => ?_)
  refine lv_iload hx hb d_RP_readAmount_40 (lv_at hl 0 rfl) ?_
  refine lv_if_eq (tgt := 55) hx hb d_RP_readAmount_42 (by decide) (fun c_3 => ?_) (fun c_3 => ?_)
  · have hf := it_t c_3 hf
    exact k_RP_readAmount_55 C0 hST hA hE hf hK hP hD hS (lv_sub hl [0, 1, 2, 3] rfl)
  · have hf := it_f c_3 hf
    refine lv_aload_n hx hb d_RP_readAmount_45 rfl (lv_at hl 2 rfl) ?_
    refine lv_dup hx hb d_RP_readAmount_46 rfl ?_
    refine va_get (D := (dC, dI)) (ci := 6) (v := .int w0_0) (C := RRuleParser) (T := TRuleParser) (N := 10) hx hb hts in_RuleParser hown hK hP 0 rfl rfl 0 (by decide) (hts (.fieldLink "ZoneFiles$RuleParser" 28 "ZoneFiles$RuleParser" "pos" "I") m_4_51) (fun _ h9 => h9) rfl d_RP_readAmount_47 ?_
    refine lv_iconst (v := 1) hx hb d_RP_readAmount_50 (by decide) ?_
    refine lv_iadd hx hb d_RP_readAmount_51 ?_
    refine va_put (D := (dC, dI)) (ci := 6) (v := .int (w0_0 + 1)) (ty := .int) (C := RRuleParser) (T := TRuleParser) (N := 10) hx hb hts in_RuleParser tyRuleParser ty_RuleParser nm_RuleParser hown hK hP hD hS 0 rfl rfl 0 (by decide) (hts (.fieldLink "ZoneFiles$RuleParser" 28 "ZoneFiles$RuleParser" "pos" "I") m_4_51) (fun _ h9 => h9) rfl (by decide +kernel) rfl rfl (Nat.le_of_ble_eq_true rfl) d_RP_readAmount_52 (fun H locs hP hD hS => ?_)
    have hP : va_P (dC, dI) classes [(h0, .inr (6, [.int (w0_0 + 1), .ref rTape, .int rStart, .int rEnd, .int rWide, .ref rRule, .int rNp, .int rNs, .int w0_8, .int w0_9])), (rTape, .inr (0, [.ref q2, .int tpS])), (q2, .inl (nA2, tpN, .inl tpA))] H := hP
    have hD : va_D A [(h0, .inr (6, [.int (w0_0 + 1), .ref rTape, .int rStart, .int rEnd, .int rWide, .ref rRule, .int rNp, .int rNs, .int w0_8, .int w0_9])), (rTape, .inr (0, [.ref q2, .int tpS])), (q2, .inl (nA2, tpN, .inl tpA))] := hD
    exact k_RP_readAmount_55 C0 hST hA hE hf hK hP hD hS (lv_sub hl [0, 1, 2, 3] rfl)
set_option maxHeartbeats 400000 in
set_option maxRecDepth 100000 in
theorem k_RP_readAmount_37 (C0 : Cx p s m meth c args R b_RP_readAmount "ZoneFiles$RuleParser" 9 (some .boolean) 3 66) (hST : ST A s s.heap) (hA : ∀ q, s.heap.size ≤ q → A q) (hE : ∀ (pc : Nat) (ls : Array Slot) {q2 : Nat} {nA2 : ClassId} (H : Heap) (locs : List Loc), decode b_RP_readAmount pc = .ok (.ireturn, 1) → narrow .boolean (.int r0) = .int r0 → va_P (dC, dI) classes [(h0, .inr (6, [.int v0_0, .ref rTape, .int rStart, .int rEnd, .int rWide, .ref rRule, .int rNp, .int rNs, .int v0_8, .int v0_9])), (rTape, .inr (0, [.ref q2, .int tpS])), (q2, .inl (nA2, tpN, .inl tpA))] H → va_D A [(h0, .inr (6, [.int v0_0, .ref rTape, .int rStart, .int rEnd, .int rWide, .ref rRule, .int rNp, .int rNs, .int v0_8, .int v0_9])), (rTape, .inr (0, [.ref q2, .int tpS])), (q2, .inl (nA2, tpN, .inl tpA))] → va_S A s.heap H locs → va_K (dC, dI) classes [(nA2, .byte)] s → W p l e R s m args below meth c H locs 0 0 Q (F0 m pc ls [.int r0])) {x3 : Int32} {x2 : Int32} {w0_0 : Int32} {w0_8 : Int32} {w0_9 : Int32} (hf : f_RP_readAmount_37 nf rEnd tpS tpN tpA x3 x2 w0_0 w0_8 w0_9 = some (r0, v0_0, v0_8, v0_9)) {q2 : Nat} {nA2 : ClassId} {H : Heap} {locs : List Loc} {ls : Array Slot} (hK : va_K (dC, dI) classes [(nA2, .byte)] s) (hP : va_P (dC, dI) classes [(h0, .inr (6, [.int w0_0, .ref rTape, .int rStart, .int rEnd, .int rWide, .ref rRule, .int rNp, .int rNs, .int w0_8, .int w0_9])), (rTape, .inr (0, [.ref q2, .int tpS])), (q2, .inl (nA2, tpN, .inl tpA))] H) (hD : va_D A [(h0, .inr (6, [.int w0_0, .ref rTape, .int rStart, .int rEnd, .int rWide, .ref rRule, .int rNp, .int rNs, .int w0_8, .int w0_9])), (rTape, .inr (0, [.ref q2, .int tpS])), (q2, .inl (nA2, tpN, .inl tpA))]) (hS : va_S A s.heap H locs) (hl : lv_has ls 9 [(3, .int x3), (0, .ref h0), (2, .int x2)]) : W p l e R s m args below meth c H locs 0 0 Q (F0 m 37 ls []) := by
  obtain ⟨hx, hb, hr, hml, hown, hts, hlocks, hRf, hRl⟩ := id C0
  obtain ⟨tms, hZms, hTms, tmg, hZmg, hTmg, hNW⟩ := id hST
  unfold f_RP_readAmount_37 at hf
  refine lv_iconst (v := 0) hx hb d_RP_readAmount_37 (by decide) ?_
  exact k_RP_readAmount_38 C0 hST hA hE hf hK hP hD hS (lv_sub hl [0, 1, 2] rfl)
set_option maxHeartbeats 400000 in
set_option maxRecDepth 100000 in
theorem k_RP_readAmount_18 (C0 : Cx p s m meth c args R b_RP_readAmount "ZoneFiles$RuleParser" 9 (some .boolean) 3 66) (hST : ST A s s.heap) (hA : ∀ q, s.heap.size ≤ q → A q) (hE : ∀ (pc : Nat) (ls : Array Slot) {q2 : Nat} {nA2 : ClassId} (H : Heap) (locs : List Loc), decode b_RP_readAmount pc = .ok (.ireturn, 1) → narrow .boolean (.int r0) = .int r0 → va_P (dC, dI) classes [(h0, .inr (6, [.int v0_0, .ref rTape, .int rStart, .int rEnd, .int rWide, .ref rRule, .int rNp, .int rNs, .int v0_8, .int v0_9])), (rTape, .inr (0, [.ref q2, .int tpS])), (q2, .inl (nA2, tpN, .inl tpA))] H → va_D A [(h0, .inr (6, [.int v0_0, .ref rTape, .int rStart, .int rEnd, .int rWide, .ref rRule, .int rNp, .int rNs, .int v0_8, .int v0_9])), (rTape, .inr (0, [.ref q2, .int tpS])), (q2, .inl (nA2, tpN, .inl tpA))] → va_S A s.heap H locs → va_K (dC, dI) classes [(nA2, .byte)] s → W p l e R s m args below meth c H locs 0 0 Q (F0 m pc ls [.int r0])) {x1 : Int32} {x2 : Int32} {s0 : Int32} {w0_0 : Int32} {w0_8 : Int32} {w0_9 : Int32} (hf : f_RP_readAmount_18 nf rEnd tpS tpN tpA x1 x2 s0 w0_0 w0_8 w0_9 = some (r0, v0_0, v0_8, v0_9)) {q2 : Nat} {nA2 : ClassId} {H : Heap} {locs : List Loc} {ls : Array Slot} (hK : va_K (dC, dI) classes [(nA2, .byte)] s) (hP : va_P (dC, dI) classes [(h0, .inr (6, [.int w0_0, .ref rTape, .int rStart, .int rEnd, .int rWide, .ref rRule, .int rNp, .int rNs, .int w0_8, .int w0_9])), (rTape, .inr (0, [.ref q2, .int tpS])), (q2, .inl (nA2, tpN, .inl tpA))] H) (hD : va_D A [(h0, .inr (6, [.int w0_0, .ref rTape, .int rStart, .int rEnd, .int rWide, .ref rRule, .int rNp, .int rNs, .int w0_8, .int w0_9])), (rTape, .inr (0, [.ref q2, .int tpS])), (q2, .inl (nA2, tpN, .inl tpA))]) (hS : va_S A s.heap H locs) (hl : lv_has ls 9 [(0, .ref h0), (1, .int x1), (2, .int x2)]) : W p l e R s m args below meth c H locs 0 0 Q (F0 m 18 ls [.int s0]) := by
  obtain ⟨hx, hb, hr, hml, hown, hts, hlocks, hRf, hRl⟩ := id C0
  obtain ⟨tms, hZms, hTms, tmg, hZmg, hTmg, hNW⟩ := id hST
  unfold f_RP_readAmount_18 at hf
  refine lv_istore_n (lv' := [(3, .int s0), (0, .ref h0), (1, .int x1), (2, .int x2)]) hx hb d_RP_readAmount_18 rfl hl (by decide) rfl (fun ls hl => ?_)
  refine lv_iload_n hx hb d_RP_readAmount_19 rfl (lv_at hl 2 rfl) ?_
  refine lv_if_eq (tgt := 37) hx hb d_RP_readAmount_20 (by decide) (fun c_2 => ?_) (fun c_2 => ?_)
  · have hf := it_t c_2 hf
    exact k_RP_readAmount_37 C0 hST hA hE hf hK hP hD hS (lv_sub hl [0, 1, 3] rfl)
  · have hf := it_f c_2 hf
    refine lv_aload_n hx hb d_RP_readAmount_23 rfl (lv_at hl 1 rfl) ?_
    obtain ⟨r_35, hc, hf⟩ := ob hf
    refine cl_S (v := (some (.int r_35))) (st1 := [.int r_35]) (va_runV (As := []) (rest := []) ⟨hx, hb, hml, hown, hts⟩ (c_RP_peek l dC dI h0 rTape rRule q2 nA2 nf w0_0 rStart rEnd rWide rNp rNs w0_8 w0_9 tpS tpN tpA hc) (cwV 0 hts (gdV m_4_101 m_4_103 msel_33 m_1_17 m_4_104) rfl rfl rfl (by decide +kernel) ⟨Nat.le_trans (Nat.le_of_ble_eq_true rfl) hRf, Nat.le_trans (Nat.le_of_ble_eq_true rfl) hRl⟩) ((RO.pre (hP.sub (ws' := [(h0, .inr (6, [.int w0_0, .ref rTape, .int rStart, .int rEnd, .int rWide, .ref rRule, .int rNp, .int rNs, .int w0_8, .int w0_9])), (rTape, .inr (0, [.ref q2, .int tpS])), (q2, .inl (nA2, tpN, .inl tpA))]) [0, 1, 2] rfl) (hK.sub (tys' := [(nA2, .byte)]) [0] rfl) (hST.ro hS)).vir (va_recv (hK.sub (tys' := [(nA2, .byte)]) [0] rfl) (hP.sub (ws' := [(h0, .inr (6, [.int w0_0, .ref rTape, .int rStart, .int rEnd, .int rWide, .ref rRule, .int rNp, .int rNs, .int w0_8, .int w0_9])), (rTape, .inr (0, [.ref q2, .int tpS])), (q2, .inl (nA2, tpN, .inl tpA))]) [0, 1, 2] rfl) (ci := 6) (q0 := 0) rfl rfl)) rfl rfl hl.1 rfl (lv_room (Nat.le_of_ble_eq_true rfl)) d_RP_readAmount_24 ⟨Nat.zero_le _, Nat.zero_le _⟩) rfl ?_
    obtain ⟨r_36, hc, hf⟩ := ob hf
    refine cl_S (v := (some (.int r_36))) (st1 := [.int r_36]) (va_runS (As := [.int r_35]) (rest := []) ⟨hx, hb, hml, hown, hts⟩ (c_RP_isSign l dC dI nf r_35 hc) (va_cwS 1 hts (gdS m_4_112 m_4_113 m_1_17 m_4_114) rfl rfl rfl (by decide +kernel) ⟨Nat.le_trans (Nat.le_of_ble_eq_true rfl) hRf, Nat.le_trans (Nat.le_of_ble_eq_true rfl) hRl⟩) (RO.pre0 hK (hST.ro hS)).sta rfl rfl hl.1 rfl (lv_room (Nat.le_of_ble_eq_true rfl)) d_RP_readAmount_27 ⟨Nat.zero_le _, Nat.zero_le _⟩) rfl ?_
    refine lv_if_eq (tgt := 37) hx hb d_RP_readAmount_30 (by decide) (fun c_37 => ?_) (fun c_37 => ?_)
    · have hf := it_t c_37 hf
      exact k_RP_readAmount_37 C0 hST hA hE hf hK hP hD hS (lv_sub hl [0, 1, 3] rfl)
    · have hf := it_f c_37 hf
      refine lv_iconst (v := 1) hx hb d_RP_readAmount_33 (by decide) ?_
      refine lv_goto (tgt := 38) hx hb d_RP_readAmount_34 (by decide) ?_
      exact k_RP_readAmount_38 C0 hST hA hE hf hK hP hD hS (lv_sub hl [0, 1, 3] rfl)
set_option maxHeartbeats 400000 in
set_option maxRecDepth 100000 in
theorem k_RP_readAmount_17 (C0 : Cx p s m meth c args R b_RP_readAmount "ZoneFiles$RuleParser" 9 (some .boolean) 3 66) (hST : ST A s s.heap) (hA : ∀ q, s.heap.size ≤ q → A q) (hE : ∀ (pc : Nat) (ls : Array Slot) {q2 : Nat} {nA2 : ClassId} (H : Heap) (locs : List Loc), decode b_RP_readAmount pc = .ok (.ireturn, 1) → narrow .boolean (.int r0) = .int r0 → va_P (dC, dI) classes [(h0, .inr (6, [.int v0_0, .ref rTape, .int rStart, .int rEnd, .int rWide, .ref rRule, .int rNp, .int rNs, .int v0_8, .int v0_9])), (rTape, .inr (0, [.ref q2, .int tpS])), (q2, .inl (nA2, tpN, .inl tpA))] H → va_D A [(h0, .inr (6, [.int v0_0, .ref rTape, .int rStart, .int rEnd, .int rWide, .ref rRule, .int rNp, .int rNs, .int v0_8, .int v0_9])), (rTape, .inr (0, [.ref q2, .int tpS])), (q2, .inl (nA2, tpN, .inl tpA))] → va_S A s.heap H locs → va_K (dC, dI) classes [(nA2, .byte)] s → W p l e R s m args below meth c H locs 0 0 Q (F0 m pc ls [.int r0])) {x1 : Int32} {x2 : Int32} {w0_0 : Int32} {w0_8 : Int32} {w0_9 : Int32} (hf : f_RP_readAmount_17 nf rEnd tpS tpN tpA x1 x2 w0_0 w0_8 w0_9 = some (r0, v0_0, v0_8, v0_9)) {q2 : Nat} {nA2 : ClassId} {H : Heap} {locs : List Loc} {ls : Array Slot} (hK : va_K (dC, dI) classes [(nA2, .byte)] s) (hP : va_P (dC, dI) classes [(h0, .inr (6, [.int w0_0, .ref rTape, .int rStart, .int rEnd, .int rWide, .ref rRule, .int rNp, .int rNs, .int w0_8, .int w0_9])), (rTape, .inr (0, [.ref q2, .int tpS])), (q2, .inl (nA2, tpN, .inl tpA))] H) (hD : va_D A [(h0, .inr (6, [.int w0_0, .ref rTape, .int rStart, .int rEnd, .int rWide, .ref rRule, .int rNp, .int rNs, .int w0_8, .int w0_9])), (rTape, .inr (0, [.ref q2, .int tpS])), (q2, .inl (nA2, tpN, .inl tpA))]) (hS : va_S A s.heap H locs) (hl : lv_has ls 9 [(0, .ref h0), (1, .int x1), (2, .int x2)]) : W p l e R s m args below meth c H locs 0 0 Q (F0 m 17 ls []) := by
  obtain ⟨hx, hb, hr, hml, hown, hts, hlocks, hRf, hRl⟩ := id C0
  obtain ⟨tms, hZms, hTms, tmg, hZmg, hTmg, hNW⟩ := id hST
  unfold f_RP_readAmount_17 at hf
  refine lv_iconst (v := 0) hx hb d_RP_readAmount_17 (by decide) ?_
  exact k_RP_readAmount_18 C0 hST hA hE hf hK hP hD hS (lv_sub hl [0, 1, 2] rfl)
set_option maxHeartbeats 400000 in
set_option maxRecDepth 100000 in
theorem k_RP_readAmount_0 (C0 : Cx p s m meth c args R b_RP_readAmount "ZoneFiles$RuleParser" 9 (some .boolean) 3 66) (hST : ST A s s.heap) (hA : ∀ q, s.heap.size ≤ q → A q) (hE : ∀ (pc : Nat) (ls : Array Slot) {q2 : Nat} {nA2 : ClassId} (H : Heap) (locs : List Loc), decode b_RP_readAmount pc = .ok (.ireturn, 1) → narrow .boolean (.int r0) = .int r0 → va_P (dC, dI) classes [(h0, .inr (6, [.int v0_0, .ref rTape, .int rStart, .int rEnd, .int rWide, .ref rRule, .int rNp, .int rNs, .int v0_8, .int v0_9])), (rTape, .inr (0, [.ref q2, .int tpS])), (q2, .inl (nA2, tpN, .inl tpA))] H → va_D A [(h0, .inr (6, [.int v0_0, .ref rTape, .int rStart, .int rEnd, .int rWide, .ref rRule, .int rNp, .int rNs, .int v0_8, .int v0_9])), (rTape, .inr (0, [.ref q2, .int tpS])), (q2, .inl (nA2, tpN, .inl tpA))] → va_S A s.heap H locs → va_K (dC, dI) classes [(nA2, .byte)] s → W p l e R s m args below meth c H locs 0 0 Q (F0 m pc ls [.int r0])) {x1 : Int32} {x2 : Int32} {w0_0 : Int32} {w0_8 : Int32} {w0_9 : Int32} (hf : f_RP_readAmount_0 nf rEnd tpS tpN tpA x1 x2 w0_0 w0_8 w0_9 = some (r0, v0_0, v0_8, v0_9)) {q2 : Nat} {nA2 : ClassId} {H : Heap} {locs : List Loc} {ls : Array Slot} (hK : va_K (dC, dI) classes [(nA2, .byte)] s) (hP : va_P (dC, dI) classes [(h0, .inr (6, [.int w0_0, .ref rTape, .int rStart, .int rEnd, .int rWide, .ref rRule, .int rNp, .int rNs, .int w0_8, .int w0_9])), (rTape, .inr (0, [.ref q2, .int tpS])), (q2, .inl (nA2, tpN, .inl tpA))] H) (hD : va_D A [(h0, .inr (6, [.int w0_0, .ref rTape, .int rStart, .int rEnd, .int rWide, .ref rRule, .int rNp, .int rNs, .int w0_8, .int w0_9])), (rTape, .inr (0, [.ref q2, .int tpS])), (q2, .inl (nA2, tpN, .inl tpA))]) (hS : va_S A s.heap H locs) (hl : lv_has ls 9 [(0, .ref h0), (1, .int x1), (2, .int x2)]) : W p l e R s m args below meth c H locs 0 0 Q (F0 m 0 ls []) := by
  obtain ⟨hx, hb, hr, hml, hown, hts, hlocks, hRf, hRl⟩ := id C0
  obtain ⟨tms, hZms, hTms, tmg, hZmg, hTmg, hNW⟩ := id hST
  unfold f_RP_readAmount_0 at hf
  refine lv_iload_n hx hb d_RP_readAmount_0 rfl (lv_at hl 1 rfl) ?_
  refine lv_if_eq (tgt := 17) hx hb d_RP_readAmount_1 (by decide) (fun c_1 => ?_) (fun c_1 => ?_)
  · have hf := it_t c_1 hf
    exact k_RP_readAmount_17 C0 hST hA hE hf hK hP hD hS (lv_sub hl [0, 1, 2] rfl)
  · have hf := it_f c_1 hf
    refine lv_aload_n hx hb d_RP_readAmount_4 rfl (lv_at hl 0 rfl) ?_
    obtain ⟨r_38, hc, hf⟩ := ob hf
    refine cl_S (v := (some (.int r_38))) (st1 := [.int r_38]) (va_runV (As := []) (rest := []) ⟨hx, hb, hml, hown, hts⟩ (c_RP_peek l dC dI h0 rTape rRule q2 nA2 nf w0_0 rStart rEnd rWide rNp rNs w0_8 w0_9 tpS tpN tpA hc) (cwV 0 hts (gdV m_4_101 m_4_103 msel_33 m_1_17 m_4_104) rfl rfl rfl (by decide +kernel) ⟨Nat.le_trans (Nat.le_of_ble_eq_true rfl) hRf, Nat.le_trans (Nat.le_of_ble_eq_true rfl) hRl⟩) ((RO.pre (hP.sub (ws' := [(h0, .inr (6, [.int w0_0, .ref rTape, .int rStart, .int rEnd, .int rWide, .ref rRule, .int rNp, .int rNs, .int w0_8, .int w0_9])), (rTape, .inr (0, [.ref q2, .int tpS])), (q2, .inl (nA2, tpN, .inl tpA))]) [0, 1, 2] rfl) (hK.sub (tys' := [(nA2, .byte)]) [0] rfl) (hST.ro hS)).vir (va_recv (hK.sub (tys' := [(nA2, .byte)]) [0] rfl) (hP.sub (ws' := [(h0, .inr (6, [.int w0_0, .ref rTape, .int rStart, .int rEnd, .int rWide, .ref rRule, .int rNp, .int rNs, .int w0_8, .int w0_9])), (rTape, .inr (0, [.ref q2, .int tpS])), (q2, .inl (nA2, tpN, .inl tpA))]) [0, 1, 2] rfl) (ci := 6) (q0 := 0) rfl rfl)) rfl rfl hl.1 rfl (lv_room (Nat.le_of_ble_eq_true rfl)) d_RP_readAmount_5 ⟨Nat.zero_le _, Nat.zero_le _⟩) rfl ?_
    refine lv_bipush (v := 45) hx hb d_RP_readAmount_8 (by decide) ?_
    refine lv_icmp_ne (tgt := 17) hx hb d_RP_readAmount_10 (by decide) (fun c_39 => ?_) (fun c_39 => ?_)
    · have hf := it_f c_39 hf
      exact k_RP_readAmount_17 C0 hST hA hE hf hK hP hD hS (lv_sub hl [0, 1, 2] rfl)
    · have hf := it_t c_39 hf
      refine lv_iconst (v := 1) hx hb d_RP_readAmount_13 (by decide) ?_
      refine lv_goto (tgt := 18) hx hb d_RP_readAmount_14 (by decide) ?_
      exact k_RP_readAmount_18 C0 hST hA hE hf hK hP hD hS (lv_sub hl [0, 1, 2] rfl)
end
set_option maxHeartbeats 400000 in
set_option maxRecDepth 100000 in
theorem c_RP_readAmount (l : Launch) (dC : Nat → ClassId) (dI : Nat → Nat → Nat) (h0 : Nat) (rTape : Nat) (rRule : Nat) (tpR : Nat) (cAtpR : ClassId) (sz : Nat) (nf : Nat) (p0 : Int32) (p1 : Int32) (rPos : Int32) (rStart : Int32) (rEnd : Int32) (rWide : Int32) (rNp : Int32) (rNs : Int32) (rAm : Int32) (rAw : Int32) (tpS : Int32) (tpN : Nat) (tpA : Nat → Int32) {r0 : Int32} {v0_0 : Int32} {v0_8 : Int32} {v0_9 : Int32} (hf : f_RP_readAmount nf p0 p1 rPos rEnd rAm rAw tpS tpN tpA = some (r0, v0_0, v0_8, v0_9)) : Met l y_RP_readAmount (wd y_RP_readAmount b_RP_readAmount 9 (some .boolean)) ({ frames := 3, cells := 0, slots := 0, locals := 66 }) (MU dC dI [(h0, .inr (6, [.int rPos, .ref rTape, .int rStart, .int rEnd, .int rWide, .ref rRule, .int rNp, .int rNs, .int rAm, .int rAw])), (rTape, .inr (0, [.ref tpR, .int tpS])), (tpR, .inl (cAtpR, tpN, .inl tpA))] [(cAtpR, .byte)] sz [.ref h0, .int p0, .int p1]) (MV (some (.int r0)) (fun t => ∃ (q2 : Nat) (nA2 : ClassId), va_P (dC, dI) classes [(h0, .inr (6, [.int v0_0, .ref rTape, .int rStart, .int rEnd, .int rWide, .ref rRule, .int rNp, .int rNs, .int v0_8, .int v0_9])), (rTape, .inr (0, [.ref q2, .int tpS])), (q2, .inl (nA2, tpN, .inl tpA))] t.heap ∧ va_K (dC, dI) classes [(nA2, .byte)] t ∧ va_D (va_A [(h0, .inr (6, [.int rPos, .ref rTape, .int rStart, .int rEnd, .int rWide, .ref rRule, .int rNp, .int rNs, .int rAm, .int rAw])), (rTape, .inr (0, [.ref tpR, .int tpS])), (tpR, .inl (cAtpR, tpN, .inl tpA))] sz) [(h0, .inr (6, [.int v0_0, .ref rTape, .int rStart, .int rEnd, .int rWide, .ref rRule, .int rNp, .int rNs, .int v0_8, .int v0_9])), (rTape, .inr (0, [.ref q2, .int tpS])), (q2, .inl (nA2, tpN, .inl tpA))]) (va_A [(h0, .inr (6, [.int rPos, .ref rTape, .int rStart, .int rEnd, .int rWide, .ref rRule, .int rNp, .int rNs, .int rAm, .int rAw])), (rTape, .inr (0, [.ref tpR, .int tpS])), (tpR, .inl (cAtpR, tpN, .inl tpA))] sz)) 0 0 (va_A [(h0, .inr (6, [.int rPos, .ref rTape, .int rStart, .int rEnd, .int rWide, .ref rRule, .int rNp, .int rNs, .int rAm, .int rAw])), (rTape, .inr (0, [.ref tpR, .int tpS])), (tpR, .inl (cAtpR, tpN, .inl tpA))] sz) :=
  met_M (plainFor_of_name (by decide)) (Nat.le_of_ble_eq_true rfl) (fun p e R s m args below meth c ls hRc hRs hsz hin C0 hST hK hP hD hl => by
    obtain ⟨hx, hb, hr, hml, hown, hts, hlocks, hRf, hRl⟩ := id C0
    subst hsz
    have hA : ∀ q : Nat, s.heap.size ≤ q → va_A [(h0, .inr (6, [.int rPos, .ref rTape, .int rStart, .int rEnd, .int rWide, .ref rRule, .int rNp, .int rNs, .int rAm, .int rAw])), (rTape, .inr (0, [.ref tpR, .int tpS])), (tpR, .inl (cAtpR, tpN, .inl tpA))] s.heap.size q := fun q h => Or.inr h
    have hS : va_S (va_A [(h0, .inr (6, [.int rPos, .ref rTape, .int rStart, .int rEnd, .int rWide, .ref rRule, .int rNp, .int rNs, .int rAm, .int rAw])), (rTape, .inr (0, [.ref tpR, .int tpS])), (tpR, .inl (cAtpR, tpN, .inl tpA))] s.heap.size) s.heap s.heap [] := va_S.rf
    unfold f_RP_readAmount at hf
    exact k_RP_readAmount_0 C0 hST hA (fun pc ls {q2} {nA2} H locs hd hn hP hD hS hK => W.zret hx hb hr hn (fun t ht hW => ⟨⟨rfl, ⟨q2, nA2, by rw [ht]; exact hP, va_K.moved hW.alike hK, hD⟩⟩, hS.F ht⟩) hS.2.2 hd) hf hK hP hD hS (lv_sub hl [0, 1, 2] rfl))
-- ZoneFiles$RuleParser.readName()Z
def f_RP_readName_117 (nf : Nat) (s0 : Int32) (w0_0 : Int32) (w0_6 : Int32) (w0_7 : Int32) : Option (Int32 × Int32 × Int32 × Int32) :=
  if s0 = 0 ∨ s0 = 1 then some (s0, w0_0, w0_6, w0_7) else none
def f_RP_readName_66 (nf : Nat) (rEnd : Int32) (tpS : Int32) (tpN : Nat) (tpA : Nat → Int32) (x1 : Int32) (w0_0 : Int32) (w0_6 : Int32) (w0_7 : Int32) : Option (Int32 × Int32 × Int32 × Int32) :=
  if (3 : Int32) ≤ (w0_0 - w0_6) then
  if x1 = 0 then
    (f_RP_peek nf w0_0 rEnd tpS tpN tpA).bind fun r_8 =>
      (f_ZF_isLetter nf r_8).bind fun r_9 =>
      if r_9 = 0 then
      f_RP_readName_117 nf 1 w0_0 w0_6 (w0_0 - w0_6)
      else
      f_RP_readName_117 nf 0 w0_0 w0_6 (w0_0 - w0_6)
    else
    (f_RP_pass nf 62 w0_0 rEnd tpS tpN tpA).bind fun (z_12, z_13) =>
      f_RP_readName_117 nf z_12 z_13 w0_6 (w0_0 - w0_6)
  else
  some (0, w0_0, w0_6, w0_0 - w0_6)
def f_RP_readName_50 (nf : Nat) (K17 : Int32 → Int32 → Int32 → Int32 → Int32 → Option (Int32 × Int32 × Int32 × Int32)) (x2 : Int32) (x1 : Int32) (w0_0 : Int32) (w0_6 : Int32) (w0_7 : Int32) : Option (Int32 × Int32 × Int32 × Int32) :=
  K17 (x2 + 1) x1 (w0_0 + 1) w0_6 w0_7
def f_RP_readName_17 (nf : Nat) (rEnd : Int32) (tpS : Int32) (tpN : Nat) (tpA : Nat → Int32) : Nat → Int32 → Int32 → Int32 → Int32 → Int32 → Option (Int32 × Int32 × Int32 × Int32)
  | 0, _, _, _, _, _ => none
  | n + 1, x2, x1, w0_0, w0_6, w0_7 =>
    if (10 : Int32) ≤ x2 then
    f_RP_readName_66 nf rEnd tpS tpN tpA x1 w0_0 w0_6 w0_7
    else
    if x1 = 0 then
      (f_RP_peek nf w0_0 rEnd tpS tpN tpA).bind fun r_17 =>
        (f_ZF_isLetter nf r_17).bind fun r_18 =>
        if r_18 = 0 then
        f_RP_readName_66 nf rEnd tpS tpN tpA x1 w0_0 w0_6 w0_7
        else
        f_RP_readName_50 nf (f_RP_readName_17 nf rEnd tpS tpN tpA n) x2 x1 w0_0 w0_6 w0_7
      else
      (f_RP_peek nf w0_0 rEnd tpS tpN tpA).bind fun r_20 =>
        (f_ZF_isNameByte nf r_20).bind fun r_21 =>
        if r_21 = 0 then
        f_RP_readName_66 nf rEnd tpS tpN tpA x1 w0_0 w0_6 w0_7
        else
        f_RP_readName_50 nf (f_RP_readName_17 nf rEnd tpS tpN tpA n) x2 x1 w0_0 w0_6 w0_7
def f_RP_readName_0 (nf : Nat) (rEnd : Int32) (tpS : Int32) (tpN : Nat) (tpA : Nat → Int32) (w0_0 : Int32) (w0_6 : Int32) (w0_7 : Int32) : Option (Int32 × Int32 × Int32 × Int32) :=
  (f_RP_pass nf 60 w0_0 rEnd tpS tpN tpA).bind fun (z_1, z_2) =>
  f_RP_readName_17 nf rEnd tpS tpN tpA nf 0 z_1 z_2 z_2 w0_7
def f_RP_readName (nf : Nat) (rPos : Int32) (rEnd : Int32) (rNp : Int32) (rNs : Int32) (tpS : Int32) (tpN : Nat) (tpA : Nat → Int32) : Option (Int32 × Int32 × Int32 × Int32) :=
  f_RP_readName_0 nf rEnd tpS tpN tpA rPos rNp rNs
section
variable {p : Program} {l : Launch} {e : Env} {R : Room} {s : State} {m : MethodId} {args : Array Value} {below : List Frame} {meth : Method} {c : Code} {Q : State → Prop} {dC : Nat → ClassId} {dI : Nat → Nat → Nat} {nf : Nat} {A : Nat → Prop}
variable {h0 : Nat} {rTape : Nat} {rRule : Nat} {tpR : Nat} {cAtpR : ClassId} {rPos : Int32} {rStart : Int32} {rEnd : Int32} {rWide : Int32} {rNp : Int32} {rNs : Int32} {rAm : Int32} {rAw : Int32} {tpS : Int32} {tpN : Nat} {tpA : Nat → Int32} {r0 : Int32} {v0_0 : Int32} {v0_6 : Int32} {v0_7 : Int32}
set_option maxHeartbeats 400000 in
set_option maxRecDepth 100000 in
theorem k_RP_readName_117 (C0 : Cx p s m meth c args R b_RP_readName "ZoneFiles$RuleParser" 3 (some .boolean) 3 62) (hST : ST A s s.heap) (hA : ∀ q, s.heap.size ≤ q → A q) (hE : ∀ (pc : Nat) (ls : Array Slot) {q2 : Nat} {nA2 : ClassId} (H : Heap) (locs : List Loc), decode b_RP_readName pc = .ok (.ireturn, 1) → narrow .boolean (.int r0) = .int r0 → va_P (dC, dI) classes [(h0, .inr (6, [.int v0_0, .ref rTape, .int rStart, .int rEnd, .int rWide, .ref rRule, .int v0_6, .int v0_7, .int rAm, .int rAw])), (rTape, .inr (0, [.ref q2, .int tpS])), (q2, .inl (nA2, tpN, .inl tpA))] H → va_D A [(h0, .inr (6, [.int v0_0, .ref rTape, .int rStart, .int rEnd, .int rWide, .ref rRule, .int v0_6, .int v0_7, .int rAm, .int rAw])), (rTape, .inr (0, [.ref q2, .int tpS])), (q2, .inl (nA2, tpN, .inl tpA))] → va_S A s.heap H locs → va_K (dC, dI) classes [(nA2, .byte)] s → W p l e R s m args below meth c H locs 0 0 Q (F0 m pc ls [.int r0])) {s0 : Int32} {w0_0 : Int32} {w0_6 : Int32} {w0_7 : Int32} (hf : f_RP_readName_117 nf s0 w0_0 w0_6 w0_7 = some (r0, v0_0, v0_6, v0_7)) {q2 : Nat} {nA2 : ClassId} {H : Heap} {locs : List Loc} {ls : Array Slot} (hK : va_K (dC, dI) classes [(nA2, .byte)] s) (hP : va_P (dC, dI) classes [(h0, .inr (6, [.int w0_0, .ref rTape, .int rStart, .int rEnd, .int rWide, .ref rRule, .int w0_6, .int w0_7, .int rAm, .int rAw])), (rTape, .inr (0, [.ref q2, .int tpS])), (q2, .inl (nA2, tpN, .inl tpA))] H) (hD : va_D A [(h0, .inr (6, [.int w0_0, .ref rTape, .int rStart, .int rEnd, .int rWide, .ref rRule, .int w0_6, .int w0_7, .int rAm, .int rAw])), (rTape, .inr (0, [.ref q2, .int tpS])), (q2, .inl (nA2, tpN, .inl tpA))]) (hS : va_S A s.heap H locs) (hl : lv_has ls 3 []) : W p l e R s m args below meth c H locs 0 0 Q (F0 m 117 ls [.int s0]) := by
  obtain ⟨hx, hb, hr, hml, hown, hts, hlocks, hRf, hRl⟩ := id C0
  obtain ⟨tms, hZms, hTms, tmg, hZmg, hTmg, hNW⟩ := id hST
  unfold f_RP_readName_117 at hf
  obtain ⟨c_11, hf⟩ := it_g hf
  cases rs hf
  exact hE _ _ _ _ d_RP_readName_117 (nb_of c_11) hP hD hS hK
set_option maxHeartbeats 400000 in
set_option maxRecDepth 100000 in
theorem k_RP_readName_66 (C0 : Cx p s m meth c args R b_RP_readName "ZoneFiles$RuleParser" 3 (some .boolean) 3 62) (hST : ST A s s.heap) (hA : ∀ q, s.heap.size ≤ q → A q) (hE : ∀ (pc : Nat) (ls : Array Slot) {q2 : Nat} {nA2 : ClassId} (H : Heap) (locs : List Loc), decode b_RP_readName pc = .ok (.ireturn, 1) → narrow .boolean (.int r0) = .int r0 → va_P (dC, dI) classes [(h0, .inr (6, [.int v0_0, .ref rTape, .int rStart, .int rEnd, .int rWide, .ref rRule, .int v0_6, .int v0_7, .int rAm, .int rAw])), (rTape, .inr (0, [.ref q2, .int tpS])), (q2, .inl (nA2, tpN, .inl tpA))] H → va_D A [(h0, .inr (6, [.int v0_0, .ref rTape, .int rStart, .int rEnd, .int rWide, .ref rRule, .int v0_6, .int v0_7, .int rAm, .int rAw])), (rTape, .inr (0, [.ref q2, .int tpS])), (q2, .inl (nA2, tpN, .inl tpA))] → va_S A s.heap H locs → va_K (dC, dI) classes [(nA2, .byte)] s → W p l e R s m args below meth c H locs 0 0 Q (F0 m pc ls [.int r0])) {x1 : Int32} {w0_0 : Int32} {w0_6 : Int32} {w0_7 : Int32} (hf : f_RP_readName_66 nf rEnd tpS tpN tpA x1 w0_0 w0_6 w0_7 = some (r0, v0_0, v0_6, v0_7)) {q2 : Nat} {nA2 : ClassId} {H : Heap} {locs : List Loc} {ls : Array Slot} (hK : va_K (dC, dI) classes [(nA2, .byte)] s) (hP : va_P (dC, dI) classes [(h0, .inr (6, [.int w0_0, .ref rTape, .int rStart, .int rEnd, .int rWide, .ref rRule, .int w0_6, .int w0_7, .int rAm, .int rAw])), (rTape, .inr (0, [.ref q2, .int tpS])), (q2, .inl (nA2, tpN, .inl tpA))] H) (hD : va_D A [(h0, .inr (6, [.int w0_0, .ref rTape, .int rStart, .int rEnd, .int rWide, .ref rRule, .int w0_6, .int w0_7, .int rAm, .int rAw])), (rTape, .inr (0, [.ref q2, .int tpS])), (q2, .inl (nA2, tpN, .inl tpA))]) (hS : va_S A s.heap H locs) (hl : lv_has ls 3 [(1, .int x1), (0, .ref h0)]) : W p l e R s m args below meth c H locs 0 0 Q (F0 m 66 ls []) := by
  obtain ⟨hx, hb, hr, hml, hown, hts, hlocks, hRf, hRl⟩ := id C0
  obtain ⟨tms, hZms, hTms, tmg, hZmg, hTmg, hNW⟩ := id hST
  unfold f_RP_readName_66 at hf
  refine lv_aload_n hx hb d_RP_readName_66 rfl (lv_at hl 1 rfl) ?_
  refine lv_aload_n hx hb d_RP_readName_67 rfl (lv_at hl 1 rfl) ?_
  refine va_get (D := (dC, dI)) (ci := 6) (v := .int w0_0) (C := RRuleParser) (T := TRuleParser) (N := 10) hx hb hts in_RuleParser hown hK hP 0 rfl rfl 0 (by decide) (hts (.fieldLink "ZoneFiles$RuleParser" 28 "ZoneFiles$RuleParser" "pos" "I") m_4_51) (fun _ h9 => h9) rfl d_RP_readName_68 ?_
  refine lv_aload_n hx hb d_RP_readName_71 rfl (lv_at hl 1 rfl) ?_
  refine va_get (D := (dC, dI)) (ci := 6) (v := .int w0_6) (C := RRuleParser) (T := TRuleParser) (N := 10) hx hb hts in_RuleParser hown hK hP 0 rfl rfl 6 (by decide) (hts (.fieldLink "ZoneFiles$RuleParser" 83 "ZoneFiles$RuleParser" "namePlace" "I") m_4_59) (fun _ h9 => h9) rfl d_RP_readName_72 ?_
  refine lv_isub hx hb d_RP_readName_75 ?_
  refine va_put (D := (dC, dI)) (ci := 6) (v := .int (w0_0 - w0_6)) (ty := .int) (C := RRuleParser) (T := TRuleParser) (N := 10) hx hb hts in_RuleParser tyRuleParser ty_RuleParser nm_RuleParser hown hK hP hD hS 0 rfl rfl 7 (by decide) (hts (.fieldLink "ZoneFiles$RuleParser" 89 "ZoneFiles$RuleParser" "nameSize" "I") m_4_60) (fun _ h9 => h9) rfl (by decide +kernel) rfl rfl (Nat.le_of_ble_eq_true rfl) d_RP_readName_76 (fun H locs hP hD hS => ?_)
  have hP : va_P (dC, dI) classes [(h0, .inr (6, [.int w0_0, .ref rTape, .int rStart, .int rEnd, .int rWide, .ref rRule, .int w0_6, .int (w0_0 - w0_6), .int rAm, .int rAw])), (rTape, .inr (0, [.ref q2, .int tpS])), (q2, .inl (nA2, tpN, .inl tpA))] H := hP
  have hD : va_D A [(h0, .inr (6, [.int w0_0, .ref rTape, .int rStart, .int rEnd, .int rWide, .ref rRule, .int w0_6, .int (w0_0 - w0_6), .int rAm, .int rAw])), (rTape, .inr (0, [.ref q2, .int tpS])), (q2, .inl (nA2, tpN, .inl tpA))] := hD
  refine lv_aload_n hx hb d_RP_readName_79 rfl (lv_at hl 1 rfl) ?_
  refine va_get (D := (dC, dI)) (ci := 6) (v := .int (w0_0 - w0_6)) (C := RRuleParser) (T := TRuleParser) (N := 10) hx hb hts in_RuleParser hown hK hP 0 rfl rfl 7 (by decide) (hts (.fieldLink "ZoneFiles$RuleParser" 89 "ZoneFiles$RuleParser" "nameSize" "I") m_4_60) (fun _ h9 => h9) rfl d_RP_readName_80 ?_
  refine lv_iconst (v := 3) hx hb d_RP_readName_83 (by decide) ?_
  refine lv_icmp_ge (tgt := 89) hx hb d_RP_readName_84 (by decide) (fun c_6 => ?_) (fun c_6 => ?_)
  · have hf := it_t c_6 hf
    refine lv_iload_n hx hb d_RP_readName_89 rfl (lv_at hl 0 rfl) ?_
    refine lv_if_eq (tgt := 102) hx hb d_RP_readName_90 (by decide) (fun c_7 => ?_) (fun c_7 => ?_)
    · have hf := it_t c_7 hf
      refine lv_aload_n hx hb d_RP_readName_102 rfl (lv_at hl 1 rfl) ?_
      obtain ⟨r_8, hc, hf⟩ := ob hf
      refine cl_S (v := (some (.int r_8))) (st1 := [.int r_8]) (va_runV (As := []) (rest := []) ⟨hx, hb, hml, hown, hts⟩ (c_RP_peek l dC dI h0 rTape rRule q2 nA2 nf w0_0 rStart rEnd rWide w0_6 (w0_0 - w0_6) rAm rAw tpS tpN tpA hc) (cwV 0 hts (gdV m_4_101 m_4_103 msel_33 m_1_17 m_4_104) rfl rfl rfl (by decide +kernel) ⟨Nat.le_trans (Nat.le_of_ble_eq_true rfl) hRf, Nat.le_trans (Nat.le_of_ble_eq_true rfl) hRl⟩) ((RO.pre (hP.sub (ws' := [(h0, .inr (6, [.int w0_0, .ref rTape, .int rStart, .int rEnd, .int rWide, .ref rRule, .int w0_6, .int (w0_0 - w0_6), .int rAm, .int rAw])), (rTape, .inr (0, [.ref q2, .int tpS])), (q2, .inl (nA2, tpN, .inl tpA))]) [0, 1, 2] rfl) (hK.sub (tys' := [(nA2, .byte)]) [0] rfl) (hST.ro hS)).vir (va_recv (hK.sub (tys' := [(nA2, .byte)]) [0] rfl) (hP.sub (ws' := [(h0, .inr (6, [.int w0_0, .ref rTape, .int rStart, .int rEnd, .int rWide, .ref rRule, .int w0_6, .int (w0_0 - w0_6), .int rAm, .int rAw])), (rTape, .inr (0, [.ref q2, .int tpS])), (q2, .inl (nA2, tpN, .inl tpA))]) [0, 1, 2] rfl) (ci := 6) (q0 := 0) rfl rfl)) rfl rfl hl.1 rfl (lv_room (Nat.le_of_ble_eq_true rfl)) d_RP_readName_103 ⟨Nat.zero_le _, Nat.zero_le _⟩) rfl ?_
      obtain ⟨r_9, hc, hf⟩ := ob hf
      refine cl_S (v := (some (.int r_9))) (st1 := [.int r_9]) (va_runSN (As := [.int r_8]) (rest := []) ⟨hx, hb, hml, hown, hts⟩ (c_ZF_isLetter l dC dI nf r_8 hc) ⟨va_cnB 1 hts (gd_of m_4_24) rfl rfl rfl hNW.2.2.2.2.2.2.1 (hts _ m_1_1) (by decide +kernel) ⟨Nat.le_trans (Nat.le_of_ble_eq_true rfl) hRf, Nat.le_trans (Nat.le_of_ble_eq_true rfl) hRl⟩, hts _ m_4_23, trivial⟩ (RO.pre0 hK (hST.ro hS)).sta rfl rfl hl.1 rfl (lv_room (Nat.le_of_ble_eq_true rfl)) d_RP_readName_106 ⟨Nat.zero_le _, Nat.zero_le _⟩) rfl ?_
      refine lv_if_ne (tgt := 116) hx hb d_RP_readName_109 (by decide) (fun c_10 => ?_) (fun c_10 => ?_)
      · have hf := it_f c_10 hf
        refine lv_iconst (v := 0) hx hb d_RP_readName_116 (by decide) ?_
        exact k_RP_readName_117 C0 hST hA hE hf hK hP hD hS (lv_sub hl [] rfl)
      · have hf := it_t c_10 hf
        refine lv_iconst (v := 1) hx hb d_RP_readName_112 (by decide) ?_
        refine lv_goto (tgt := 117) hx hb d_RP_readName_113 (by decide) ?_
        exact k_RP_readName_117 C0 hST hA hE hf hK hP hD hS (lv_sub hl [] rfl)
    · have hf := it_f c_7 hf
      refine lv_aload_n hx hb d_RP_readName_93 rfl (lv_at hl 1 rfl) ?_
      refine lv_bipush (v := 62) hx hb d_RP_readName_94 (by decide) ?_
      obtain ⟨⟨z_12, z_13⟩, hc, hf⟩ := ob hf
      have hPc := hP.sub (ws' := [(h0, .inr (6, [.int w0_0, .ref rTape, .int rStart, .int rEnd, .int rWide, .ref rRule, .int w0_6, .int (w0_0 - w0_6), .int rAm, .int rAw])), (rTape, .inr (0, [.ref q2, .int tpS])), (q2, .inl (nA2, tpN, .inl tpA))]) [0, 1, 2] rfl
      have hDc := hD.sub (ws' := [(h0, .inr (6, [.int w0_0, .ref rTape, .int rStart, .int rEnd, .int rWide, .ref rRule, .int w0_6, .int (w0_0 - w0_6), .int rAm, .int rAw])), (rTape, .inr (0, [.ref q2, .int tpS])), (q2, .inl (nA2, tpN, .inl tpA))]) [0, 1, 2] (by decide) rfl
      have hKc := hK.sub (tys' := [(nA2, .byte)]) [0] rfl
      have hFc := va_free (wc := [(h0, .inr (6, [.int w0_0, .ref rTape, .int rStart, .int rEnd, .int rWide, .ref rRule, .int w0_6, .int (w0_0 - w0_6), .int rAm, .int rAw])), (rTape, .inr (0, [.ref q2, .int tpS])), (q2, .inl (nA2, tpN, .inl tpA))]) hD hS hA [0, 1, 2] rfl
      refine cl_M (v := (some (.int z_12))) (st1 := [.int z_12]) (va_runV (As := [.int 62]) (rest := []) ⟨hx, hb, hml, hown, hts⟩ (c_RP_pass l dC dI h0 rTape rRule q2 nA2 H.size nf 62 w0_0 rStart rEnd rWide w0_6 (w0_0 - w0_6) rAm rAw tpS tpN tpA hc) (cwV 1 hts (gdV m_4_97 m_4_99 msel_32 m_1_17 m_4_100) rfl rfl rfl (by decide +kernel) ⟨Nat.le_trans (Nat.le_of_ble_eq_true rfl) hRf, Nat.le_trans (Nat.le_of_ble_eq_true rfl) hRl⟩) ((MU.pre hPc hKc hDc (hST.mu hS hFc)).vir (va_recv hKc hPc (ci := 6) (q0 := 0) rfl rfl)) rfl rfl hl.1 rfl (lv_room (Nat.le_of_ble_eq_true rfl)) d_RP_readName_96 ⟨Nat.zero_le _, Nat.zero_le _⟩) rfl hS (fun q _ h => hFc q h) hFc (fun t H1 locs ht hvm hB hz1 hk1 hS => ?_)
      obtain ⟨q_14, cq_15, hP1, hK1, hD1⟩ := hB
      rw [ht] at hP1
      have hK1 := va_K.moved hvm.symm hK1
      obtain ⟨hP, hD⟩ := va_join (wr := []) (w1 := [(h0, .inr (6, [.int z_13, .ref rTape, .int rStart, .int rEnd, .int rWide, .ref rRule, .int w0_6, .int (w0_0 - w0_6), .int rAm, .int rAw])), (rTape, .inr (0, [.ref q_14, .int tpS])), (q_14, .inl (cq_15, tpN, .inl tpA))]) hP hD [0, 1, 2] [] rfl rfl (by decide) (by decide) hk1 hFc hP1 hD1
      have hK := (hK.sub (tys' := []) [] rfl).app hK1
      generalize H1 = H at hP hS ⊢
      have hP := hP.sub (ws' := [(h0, .inr (6, [.int z_13, .ref rTape, .int rStart, .int rEnd, .int rWide, .ref rRule, .int w0_6, .int (w0_0 - w0_6), .int rAm, .int rAw])), (rTape, .inr (0, [.ref q_14, .int tpS])), (q_14, .inl (cq_15, tpN, .inl tpA))]) [0, 1, 2] rfl
      have hD := hD.sub (ws' := [(h0, .inr (6, [.int z_13, .ref rTape, .int rStart, .int rEnd, .int rWide, .ref rRule, .int w0_6, .int (w0_0 - w0_6), .int rAm, .int rAw])), (rTape, .inr (0, [.ref q_14, .int tpS])), (q_14, .inl (cq_15, tpN, .inl tpA))]) [0, 1, 2] (by decide) rfl
      have hK := hK.sub (tys' := [(cq_15, .byte)]) [0] rfl
      refine lv_goto (tgt := 117) hx hb d_RP_readName_99 (by decide) ?_
      exact k_RP_readName_117 C0 hST hA hE hf hK hP hD hS (lv_sub hl [] rfl)
  · have hf := it_f c_6 hf
    refine lv_iconst (v := 0) hx hb d_RP_readName_87 (by decide) ?_
    cases rs hf
    exact hE _ _ _ _ d_RP_readName_88 rfl hP hD hS hK
set_option maxHeartbeats 400000 in
set_option maxRecDepth 100000 in
theorem k_RP_readName_50 (C0 : Cx p s m meth c args R b_RP_readName "ZoneFiles$RuleParser" 3 (some .boolean) 3 62) (hST : ST A s s.heap) (hA : ∀ q, s.heap.size ≤ q → A q) (hE : ∀ (pc : Nat) (ls : Array Slot) {q2 : Nat} {nA2 : ClassId} (H : Heap) (locs : List Loc), decode b_RP_readName pc = .ok (.ireturn, 1) → narrow .boolean (.int r0) = .int r0 → va_P (dC, dI) classes [(h0, .inr (6, [.int v0_0, .ref rTape, .int rStart, .int rEnd, .int rWide, .ref rRule, .int v0_6, .int v0_7, .int rAm, .int rAw])), (rTape, .inr (0, [.ref q2, .int tpS])), (q2, .inl (nA2, tpN, .inl tpA))] H → va_D A [(h0, .inr (6, [.int v0_0, .ref rTape, .int rStart, .int rEnd, .int rWide, .ref rRule, .int v0_6, .int v0_7, .int rAm, .int rAw])), (rTape, .inr (0, [.ref q2, .int tpS])), (q2, .inl (nA2, tpN, .inl tpA))] → va_S A s.heap H locs → va_K (dC, dI) classes [(nA2, .byte)] s → W p l e R s m args below meth c H locs 0 0 Q (F0 m pc ls [.int r0])) {K17 : Int32 → Int32 → Int32 → Int32 → Int32 → Option (Int32 × Int32 × Int32 × Int32)} (hK17 : ∀ {x2 : Int32} {x1 : Int32} {w0_0 : Int32} {w0_6 : Int32} {w0_7 : Int32}, K17 x2 x1 w0_0 w0_6 w0_7 = some (r0, v0_0, v0_6, v0_7) → ∀ {q2 : Nat} {nA2 : ClassId} {H : Heap} {locs : List Loc} {ls : Array Slot}, va_K (dC, dI) classes [(nA2, .byte)] s → va_P (dC, dI) classes [(h0, .inr (6, [.int w0_0, .ref rTape, .int rStart, .int rEnd, .int rWide, .ref rRule, .int w0_6, .int w0_7, .int rAm, .int rAw])), (rTape, .inr (0, [.ref q2, .int tpS])), (q2, .inl (nA2, tpN, .inl tpA))] H → va_D A [(h0, .inr (6, [.int w0_0, .ref rTape, .int rStart, .int rEnd, .int rWide, .ref rRule, .int w0_6, .int w0_7, .int rAm, .int rAw])), (rTape, .inr (0, [.ref q2, .int tpS])), (q2, .inl (nA2, tpN, .inl tpA))] → va_S A s.heap H locs → lv_has ls 3 [(2, .int x2), (1, .int x1), (0, .ref h0)] → W p l e R s m args below meth c H locs 0 0 Q (F0 m 17 ls [])) {x2 : Int32} {x1 : Int32} {w0_0 : Int32} {w0_6 : Int32} {w0_7 : Int32} (hf : f_RP_readName_50 nf K17 x2 x1 w0_0 w0_6 w0_7 = some (r0, v0_0, v0_6, v0_7)) {q2 : Nat} {nA2 : ClassId} {H : Heap} {locs : List Loc} {ls : Array Slot} (hK : va_K (dC, dI) classes [(nA2, .byte)] s) (hP : va_P (dC, dI) classes [(h0, .inr (6, [.int w0_0, .ref rTape, .int rStart, .int rEnd, .int rWide, .ref rRule, .int w0_6, .int w0_7, .int rAm, .int rAw])), (rTape, .inr (0, [.ref q2, .int tpS])), (q2, .inl (nA2, tpN, .inl tpA))] H) (hD : va_D A [(h0, .inr (6, [.int w0_0, .ref rTape, .int rStart, .int rEnd, .int rWide, .ref rRule, .int w0_6, .int w0_7, .int rAm, .int rAw])), (rTape, .inr (0, [.ref q2, .int tpS])), (q2, .inl (nA2, tpN, .inl tpA))]) (hS : va_S A s.heap H locs) (hl : lv_has ls 3 [(2, .int x2), (1, .int x1), (0, .ref h0)]) : W p l e R s m args below meth c H locs 0 0 Q (F0 m 50 ls []) := by
  obtain ⟨hx, hb, hr, hml, hown, hts, hlocks, hRf, hRl⟩ := id C0
  obtain ⟨tms, hZms, hTms, tmg, hZmg, hTmg, hNW⟩ := id hST
  unfold f_RP_readName_50 at hf
  refine lv_aload_n hx hb d_RP_readName_50 rfl (lv_at hl 2 rfl) ?_
  refine lv_dup hx hb d_RP_readName_51 rfl ?_
  refine va_get (D := (dC, dI)) (ci := 6) (v := .int w0_0) (C := RRuleParser) (T := TRuleParser) (N := 10) hx hb hts in_RuleParser hown hK hP 0 rfl rfl 0 (by decide) (hts (.fieldLink "ZoneFiles$RuleParser" 28 "ZoneFiles$RuleParser" "pos" "I") m_4_51) (fun _ h9 => h9) rfl d_RP_readName_52 ?_
  refine lv_iconst (v := 1) hx hb d_RP_readName_55 (by decide) ?_
  refine lv_iadd hx hb d_RP_readName_56 ?_
  refine va_put (D := (dC, dI)) (ci := 6) (v := .int (w0_0 + 1)) (ty := .int) (C := RRuleParser) (T := TRuleParser) (N := 10) hx hb hts in_RuleParser tyRuleParser ty_RuleParser nm_RuleParser hown hK hP hD hS 0 rfl rfl 0 (by decide) (hts (.fieldLink "ZoneFiles$RuleParser" 28 "ZoneFiles$RuleParser" "pos" "I") m_4_51) (fun _ h9 => h9) rfl (by decide +kernel) rfl rfl (Nat.le_of_ble_eq_true rfl) d_RP_readName_57 (fun H locs hP hD hS => ?_)
  have hP : va_P (dC, dI) classes [(h0, .inr (6, [.int (w0_0 + 1), .ref rTape, .int rStart, .int rEnd, .int rWide, .ref rRule, .int w0_6, .int w0_7, .int rAm, .int rAw])), (rTape, .inr (0, [.ref q2, .int tpS])), (q2, .inl (nA2, tpN, .inl tpA))] H := hP
  have hD : va_D A [(h0, .inr (6, [.int (w0_0 + 1), .ref rTape, .int rStart, .int rEnd, .int rWide, .ref rRule, .int w0_6, .int w0_7, .int rAm, .int rAw])), (rTape, .inr (0, [.ref q2, .int tpS])), (q2, .inl (nA2, tpN, .inl tpA))] := hD
  refine lv_iinc (v := x2 + 1) (lv' := [(2, .int (x2 + 1)), (1, .int x1), (0, .ref h0)]) hx hb d_RP_readName_60 hl (k := 0) rfl rfl (by decide) rfl (fun ls hl => ?_)
  refine lv_goto (tgt := 17) hx hb d_RP_readName_63 (by decide) ?_
  exact hK17 hf hK hP hD hS (lv_sub hl [0, 1, 2] rfl)
set_option maxHeartbeats 400000 in
set_option maxRecDepth 100000 in
theorem k_RP_readName_17 (C0 : Cx p s m meth c args R b_RP_readName "ZoneFiles$RuleParser" 3 (some .boolean) 3 62) (hST : ST A s s.heap) (hA : ∀ q, s.heap.size ≤ q → A q) (hE : ∀ (pc : Nat) (ls : Array Slot) {q2 : Nat} {nA2 : ClassId} (H : Heap) (locs : List Loc), decode b_RP_readName pc = .ok (.ireturn, 1) → narrow .boolean (.int r0) = .int r0 → va_P (dC, dI) classes [(h0, .inr (6, [.int v0_0, .ref rTape, .int rStart, .int rEnd, .int rWide, .ref rRule, .int v0_6, .int v0_7, .int rAm, .int rAw])), (rTape, .inr (0, [.ref q2, .int tpS])), (q2, .inl (nA2, tpN, .inl tpA))] H → va_D A [(h0, .inr (6, [.int v0_0, .ref rTape, .int rStart, .int rEnd, .int rWide, .ref rRule, .int v0_6, .int v0_7, .int rAm, .int rAw])), (rTape, .inr (0, [.ref q2, .int tpS])), (q2, .inl (nA2, tpN, .inl tpA))] → va_S A s.heap H locs → va_K (dC, dI) classes [(nA2, .byte)] s → W p l e R s m args below meth c H locs 0 0 Q (F0 m pc ls [.int r0])) : ∀ (n : Nat) {x2 : Int32} {x1 : Int32} {w0_0 : Int32} {w0_6 : Int32} {w0_7 : Int32}, f_RP_readName_17 nf rEnd tpS tpN tpA n x2 x1 w0_0 w0_6 w0_7 = some (r0, v0_0, v0_6, v0_7) → ∀ {q2 : Nat} {nA2 : ClassId} {H : Heap} {locs : List Loc} {ls : Array Slot}, va_K (dC, dI) classes [(nA2, .byte)] s → va_P (dC, dI) classes [(h0, .inr (6, [.int w0_0, .ref rTape, .int rStart, .int rEnd, .int rWide, .ref rRule, .int w0_6, .int w0_7, .int rAm, .int rAw])), (rTape, .inr (0, [.ref q2, .int tpS])), (q2, .inl (nA2, tpN, .inl tpA))] H → va_D A [(h0, .inr (6, [.int w0_0, .ref rTape, .int rStart, .int rEnd, .int rWide, .ref rRule, .int w0_6, .int w0_7, .int rAm, .int rAw])), (rTape, .inr (0, [.ref q2, .int tpS])), (q2, .inl (nA2, tpN, .inl tpA))] → va_S A s.heap H locs → lv_has ls 3 [(2, .int x2), (1, .int x1), (0, .ref h0)] → W p l e R s m args below meth c H locs 0 0 Q (F0 m 17 ls []) := by
  obtain ⟨hx, hb, hr, hml, hown, hts, hlocks, hRf, hRl⟩ := id C0
  obtain ⟨tms, hZms, hTms, tmg, hZmg, hTmg, hNW⟩ := id hST
  intro n
  induction n with
  | zero =>
    intro x2 x1 w0_0 w0_6 w0_7 hf
    exact absurd hf (by simp [f_RP_readName_17])
  | succ n ih =>
    intro x2 x1 w0_0 w0_6 w0_7 hf q2 nA2 H locs ls hK hP hD hS hl
    unfold f_RP_readName_17 at hf
    refine lv_iload_n hx hb d_RP_readName_17 rfl (lv_at hl 0 rfl) ?_
    refine lv_bipush (v := 10) hx hb d_RP_readName_18 (by decide) ?_
    refine lv_icmp_ge (tgt := 66) hx hb d_RP_readName_20 (by decide) (fun c_5 => ?_) (fun c_5 => ?_)
    · have hf := it_t c_5 hf
      exact k_RP_readName_66 C0 hST hA hE hf hK hP hD hS (lv_sub hl [1, 2] rfl)
    · have hf := it_f c_5 hf
      refine lv_iload_n hx hb d_RP_readName_23 rfl (lv_at hl 1 rfl) ?_
      refine lv_if_eq (tgt := 40) hx hb d_RP_readName_24 (by decide) (fun c_16 => ?_) (fun c_16 => ?_)
      · have hf := it_t c_16 hf
        refine lv_aload_n hx hb d_RP_readName_40 rfl (lv_at hl 2 rfl) ?_
        obtain ⟨r_17, hc, hf⟩ := ob hf
        refine cl_S (v := (some (.int r_17))) (st1 := [.int r_17]) (va_runV (As := []) (rest := []) ⟨hx, hb, hml, hown, hts⟩ (c_RP_peek l dC dI h0 rTape rRule q2 nA2 nf w0_0 rStart rEnd rWide w0_6 w0_7 rAm rAw tpS tpN tpA hc) (cwV 0 hts (gdV m_4_101 m_4_103 msel_33 m_1_17 m_4_104) rfl rfl rfl (by decide +kernel) ⟨Nat.le_trans (Nat.le_of_ble_eq_true rfl) hRf, Nat.le_trans (Nat.le_of_ble_eq_true rfl) hRl⟩) ((RO.pre (hP.sub (ws' := [(h0, .inr (6, [.int w0_0, .ref rTape, .int rStart, .int rEnd, .int rWide, .ref rRule, .int w0_6, .int w0_7, .int rAm, .int rAw])), (rTape, .inr (0, [.ref q2, .int tpS])), (q2, .inl (nA2, tpN, .inl tpA))]) [0, 1, 2] rfl) (hK.sub (tys' := [(nA2, .byte)]) [0] rfl) (hST.ro hS)).vir (va_recv (hK.sub (tys' := [(nA2, .byte)]) [0] rfl) (hP.sub (ws' := [(h0, .inr (6, [.int w0_0, .ref rTape, .int rStart, .int rEnd, .int rWide, .ref rRule, .int w0_6, .int w0_7, .int rAm, .int rAw])), (rTape, .inr (0, [.ref q2, .int tpS])), (q2, .inl (nA2, tpN, .inl tpA))]) [0, 1, 2] rfl) (ci := 6) (q0 := 0) rfl rfl)) rfl rfl hl.1 rfl (lv_room (Nat.le_of_ble_eq_true rfl)) d_RP_readName_41 ⟨Nat.zero_le _, Nat.zero_le _⟩) rfl ?_
        obtain ⟨r_18, hc, hf⟩ := ob hf
        refine cl_S (v := (some (.int r_18))) (st1 := [.int r_18]) (va_runSN (As := [.int r_17]) (rest := []) ⟨hx, hb, hml, hown, hts⟩ (c_ZF_isLetter l dC dI nf r_17 hc) ⟨va_cnB 1 hts (gd_of m_4_24) rfl rfl rfl hNW.2.2.2.2.2.2.1 (hts _ m_1_1) (by decide +kernel) ⟨Nat.le_trans (Nat.le_of_ble_eq_true rfl) hRf, Nat.le_trans (Nat.le_of_ble_eq_true rfl) hRl⟩, hts _ m_4_23, trivial⟩ (RO.pre0 hK (hST.ro hS)).sta rfl rfl hl.1 rfl (lv_room (Nat.le_of_ble_eq_true rfl)) d_RP_readName_44 ⟨Nat.zero_le _, Nat.zero_le _⟩) rfl ?_
        refine lv_if_eq (tgt := 66) hx hb d_RP_readName_47 (by decide) (fun c_19 => ?_) (fun c_19 => ?_)
        · have hf := it_t c_19 hf
          exact k_RP_readName_66 C0 hST hA hE hf hK hP hD hS (lv_sub hl [1, 2] rfl)
        · have hf := it_f c_19 hf
          exact k_RP_readName_50 C0 hST hA hE (fun hf => ih hf) hf hK hP hD hS (lv_sub hl [0, 1, 2] rfl)
      · have hf := it_f c_16 hf
        refine lv_aload_n hx hb d_RP_readName_27 rfl (lv_at hl 2 rfl) ?_
        obtain ⟨r_20, hc, hf⟩ := ob hf
        refine cl_S (v := (some (.int r_20))) (st1 := [.int r_20]) (va_runV (As := []) (rest := []) ⟨hx, hb, hml, hown, hts⟩ (c_RP_peek l dC dI h0 rTape rRule q2 nA2 nf w0_0 rStart rEnd rWide w0_6 w0_7 rAm rAw tpS tpN tpA hc) (cwV 0 hts (gdV m_4_101 m_4_103 msel_33 m_1_17 m_4_104) rfl rfl rfl (by decide +kernel) ⟨Nat.le_trans (Nat.le_of_ble_eq_true rfl) hRf, Nat.le_trans (Nat.le_of_ble_eq_true rfl) hRl⟩) ((RO.pre (hP.sub (ws' := [(h0, .inr (6, [.int w0_0, .ref rTape, .int rStart, .int rEnd, .int rWide, .ref rRule, .int w0_6, .int w0_7, .int rAm, .int rAw])), (rTape, .inr (0, [.ref q2, .int tpS])), (q2, .inl (nA2, tpN, .inl tpA))]) [0, 1, 2] rfl) (hK.sub (tys' := [(nA2, .byte)]) [0] rfl) (hST.ro hS)).vir (va_recv (hK.sub (tys' := [(nA2, .byte)]) [0] rfl) (hP.sub (ws' := [(h0, .inr (6, [.int w0_0, .ref rTape, .int rStart, .int rEnd, .int rWide, .ref rRule, .int w0_6, .int w0_7, .int rAm, .int rAw])), (rTape, .inr (0, [.ref q2, .int tpS])), (q2, .inl (nA2, tpN, .inl tpA))]) [0, 1, 2] rfl) (ci := 6) (q0 := 0) rfl rfl)) rfl rfl hl.1 rfl (lv_room (Nat.le_of_ble_eq_true rfl)) d_RP_readName_28 ⟨Nat.zero_le _, Nat.zero_le _⟩) rfl ?_
        obtain ⟨r_21, hc, hf⟩ := ob hf
        refine cl_S (v := (some (.int r_21))) (st1 := [.int r_21]) (va_runSN (As := [.int r_20]) (rest := []) ⟨hx, hb, hml, hown, hts⟩ (c_ZF_isNameByte l dC dI nf r_20 hc) ⟨va_cnB 1 hts (gd_of m_4_21) rfl rfl rfl hNW.2.2.2.2.2.1 (hts _ m_1_1) (by decide +kernel) ⟨Nat.le_trans (Nat.le_of_ble_eq_true rfl) hRf, Nat.le_trans (Nat.le_of_ble_eq_true rfl) hRl⟩, hts _ m_4_20, trivial⟩ (RO.pre0 hK (hST.ro hS)).sta rfl rfl hl.1 rfl (lv_room (Nat.le_of_ble_eq_true rfl)) d_RP_readName_31 ⟨Nat.zero_le _, Nat.zero_le _⟩) rfl ?_
        refine lv_if_eq (tgt := 66) hx hb d_RP_readName_34 (by decide) (fun c_22 => ?_) (fun c_22 => ?_)
        · have hf := it_t c_22 hf
          exact k_RP_readName_66 C0 hST hA hE hf hK hP hD hS (lv_sub hl [1, 2] rfl)
        · have hf := it_f c_22 hf
          refine lv_goto (tgt := 50) hx hb d_RP_readName_37 (by decide) ?_
          exact k_RP_readName_50 C0 hST hA hE (fun hf => ih hf) hf hK hP hD hS (lv_sub hl [0, 1, 2] rfl)
set_option maxHeartbeats 400000 in
set_option maxRecDepth 100000 in
theorem k_RP_readName_0 (C0 : Cx p s m meth c args R b_RP_readName "ZoneFiles$RuleParser" 3 (some .boolean) 3 62) (hST : ST A s s.heap) (hA : ∀ q, s.heap.size ≤ q → A q) (hE : ∀ (pc : Nat) (ls : Array Slot) {q2 : Nat} {nA2 : ClassId} (H : Heap) (locs : List Loc), decode b_RP_readName pc = .ok (.ireturn, 1) → narrow .boolean (.int r0) = .int r0 → va_P (dC, dI) classes [(h0, .inr (6, [.int v0_0, .ref rTape, .int rStart, .int rEnd, .int rWide, .ref rRule, .int v0_6, .int v0_7, .int rAm, .int rAw])), (rTape, .inr (0, [.ref q2, .int tpS])), (q2, .inl (nA2, tpN, .inl tpA))] H → va_D A [(h0, .inr (6, [.int v0_0, .ref rTape, .int rStart, .int rEnd, .int rWide, .ref rRule, .int v0_6, .int v0_7, .int rAm, .int rAw])), (rTape, .inr (0, [.ref q2, .int tpS])), (q2, .inl (nA2, tpN, .inl tpA))] → va_S A s.heap H locs → va_K (dC, dI) classes [(nA2, .byte)] s → W p l e R s m args below meth c H locs 0 0 Q (F0 m pc ls [.int r0])) {w0_0 : Int32} {w0_6 : Int32} {w0_7 : Int32} (hf : f_RP_readName_0 nf rEnd tpS tpN tpA w0_0 w0_6 w0_7 = some (r0, v0_0, v0_6, v0_7)) {q2 : Nat} {nA2 : ClassId} {H : Heap} {locs : List Loc} {ls : Array Slot} (hK : va_K (dC, dI) classes [(nA2, .byte)] s) (hP : va_P (dC, dI) classes [(h0, .inr (6, [.int w0_0, .ref rTape, .int rStart, .int rEnd, .int rWide, .ref rRule, .int w0_6, .int w0_7, .int rAm, .int rAw])), (rTape, .inr (0, [.ref q2, .int tpS])), (q2, .inl (nA2, tpN, .inl tpA))] H) (hD : va_D A [(h0, .inr (6, [.int w0_0, .ref rTape, .int rStart, .int rEnd, .int rWide, .ref rRule, .int w0_6, .int w0_7, .int rAm, .int rAw])), (rTape, .inr (0, [.ref q2, .int tpS])), (q2, .inl (nA2, tpN, .inl tpA))]) (hS : va_S A s.heap H locs) (hl : lv_has ls 3 [(0, .ref h0)]) : W p l e R s m args below meth c H locs 0 0 Q (F0 m 0 ls []) := by
  obtain ⟨hx, hb, hr, hml, hown, hts, hlocks, hRf, hRl⟩ := id C0
  obtain ⟨tms, hZms, hTms, tmg, hZmg, hTmg, hNW⟩ := id hST
  unfold f_RP_readName_0 at hf
  refine lv_aload_n hx hb d_RP_readName_0 rfl (lv_at hl 0 rfl) ?_
  refine lv_bipush (v := 60) hx hb d_RP_readName_1 (by decide) ?_
  obtain ⟨⟨z_1, z_2⟩, hc, hf⟩ := ob hf
  have hPc := hP.sub (ws' := [(h0, .inr (6, [.int w0_0, .ref rTape, .int rStart, .int rEnd, .int rWide, .ref rRule, .int w0_6, .int w0_7, .int rAm, .int rAw])), (rTape, .inr (0, [.ref q2, .int tpS])), (q2, .inl (nA2, tpN, .inl tpA))]) [0, 1, 2] rfl
  have hDc := hD.sub (ws' := [(h0, .inr (6, [.int w0_0, .ref rTape, .int rStart, .int rEnd, .int rWide, .ref rRule, .int w0_6, .int w0_7, .int rAm, .int rAw])), (rTape, .inr (0, [.ref q2, .int tpS])), (q2, .inl (nA2, tpN, .inl tpA))]) [0, 1, 2] (by decide) rfl
  have hKc := hK.sub (tys' := [(nA2, .byte)]) [0] rfl
  have hFc := va_free (wc := [(h0, .inr (6, [.int w0_0, .ref rTape, .int rStart, .int rEnd, .int rWide, .ref rRule, .int w0_6, .int w0_7, .int rAm, .int rAw])), (rTape, .inr (0, [.ref q2, .int tpS])), (q2, .inl (nA2, tpN, .inl tpA))]) hD hS hA [0, 1, 2] rfl
  refine cl_M (v := (some (.int z_1))) (st1 := [.int z_1]) (va_runV (As := [.int 60]) (rest := []) ⟨hx, hb, hml, hown, hts⟩ (c_RP_pass l dC dI h0 rTape rRule q2 nA2 H.size nf 60 w0_0 rStart rEnd rWide w0_6 w0_7 rAm rAw tpS tpN tpA hc) (cwV 1 hts (gdV m_4_97 m_4_99 msel_32 m_1_17 m_4_100) rfl rfl rfl (by decide +kernel) ⟨Nat.le_trans (Nat.le_of_ble_eq_true rfl) hRf, Nat.le_trans (Nat.le_of_ble_eq_true rfl) hRl⟩) ((MU.pre hPc hKc hDc (hST.mu hS hFc)).vir (va_recv hKc hPc (ci := 6) (q0 := 0) rfl rfl)) rfl rfl hl.1 rfl (lv_room (Nat.le_of_ble_eq_true rfl)) d_RP_readName_3 ⟨Nat.zero_le _, Nat.zero_le _⟩) rfl hS (fun q _ h => hFc q h) hFc (fun t H1 locs ht hvm hB hz1 hk1 hS => ?_)
  obtain ⟨q_3, cq_4, hP1, hK1, hD1⟩ := hB
  rw [ht] at hP1
  have hK1 := va_K.moved hvm.symm hK1
  obtain ⟨hP, hD⟩ := va_join (wr := []) (w1 := [(h0, .inr (6, [.int z_2, .ref rTape, .int rStart, .int rEnd, .int rWide, .ref rRule, .int w0_6, .int w0_7, .int rAm, .int rAw])), (rTape, .inr (0, [.ref q_3, .int tpS])), (q_3, .inl (cq_4, tpN, .inl tpA))]) hP hD [0, 1, 2] [] rfl rfl (by decide) (by decide) hk1 hFc hP1 hD1
  have hK := (hK.sub (tys' := []) [] rfl).app hK1
  generalize H1 = H at hP hS ⊢
  have hP := hP.sub (ws' := [(h0, .inr (6, [.int z_2, .ref rTape, .int rStart, .int rEnd, .int rWide, .ref rRule, .int w0_6, .int w0_7, .int rAm, .int rAw])), (rTape, .inr (0, [.ref q_3, .int tpS])), (q_3, .inl (cq_4, tpN, .inl tpA))]) [0, 1, 2] rfl
  have hD := hD.sub (ws' := [(h0, .inr (6, [.int z_2, .ref rTape, .int rStart, .int rEnd, .int rWide, .ref rRule, .int w0_6, .int w0_7, .int rAm, .int rAw])), (rTape, .inr (0, [.ref q_3, .int tpS])), (q_3, .inl (cq_4, tpN, .inl tpA))]) [0, 1, 2] (by decide) rfl
  have hK := hK.sub (tys' := [(cq_4, .byte)]) [0] rfl
  refine lv_istore_n (lv' := [(1, .int z_1), (0, .ref h0)]) hx hb d_RP_readName_6 rfl hl (by decide) rfl (fun ls hl => ?_)
  refine lv_aload_n hx hb d_RP_readName_7 rfl (lv_at hl 1 rfl) ?_
  refine lv_aload_n hx hb d_RP_readName_8 rfl (lv_at hl 1 rfl) ?_
  refine va_get (D := (dC, dI)) (ci := 6) (v := .int z_2) (C := RRuleParser) (T := TRuleParser) (N := 10) hx hb hts in_RuleParser hown hK hP 0 rfl rfl 0 (by decide) (hts (.fieldLink "ZoneFiles$RuleParser" 28 "ZoneFiles$RuleParser" "pos" "I") m_4_51) (fun _ h9 => h9) rfl d_RP_readName_9 ?_
  refine va_put (D := (dC, dI)) (ci := 6) (v := .int z_2) (ty := .int) (C := RRuleParser) (T := TRuleParser) (N := 10) hx hb hts in_RuleParser tyRuleParser ty_RuleParser nm_RuleParser hown hK hP hD hS 0 rfl rfl 6 (by decide) (hts (.fieldLink "ZoneFiles$RuleParser" 83 "ZoneFiles$RuleParser" "namePlace" "I") m_4_59) (fun _ h9 => h9) rfl (by decide +kernel) rfl rfl (Nat.le_of_ble_eq_true rfl) d_RP_readName_12 (fun H locs hP hD hS => ?_)
  have hP : va_P (dC, dI) classes [(h0, .inr (6, [.int z_2, .ref rTape, .int rStart, .int rEnd, .int rWide, .ref rRule, .int z_2, .int w0_7, .int rAm, .int rAw])), (rTape, .inr (0, [.ref q_3, .int tpS])), (q_3, .inl (cq_4, tpN, .inl tpA))] H := hP
  have hD : va_D A [(h0, .inr (6, [.int z_2, .ref rTape, .int rStart, .int rEnd, .int rWide, .ref rRule, .int z_2, .int w0_7, .int rAm, .int rAw])), (rTape, .inr (0, [.ref q_3, .int tpS])), (q_3, .inl (cq_4, tpN, .inl tpA))] := hD
  refine lv_iconst (v := 0) hx hb d_RP_readName_15 (by decide) ?_
  refine lv_istore_n (lv' := [(2, .int 0), (1, .int z_1), (0, .ref h0)]) hx hb d_RP_readName_16 rfl hl (by decide) rfl (fun ls hl => ?_)
  exact k_RP_readName_17 C0 hST hA hE nf hf hK hP hD hS (lv_sub hl [0, 1, 2] rfl)
end
set_option maxHeartbeats 400000 in
set_option maxRecDepth 100000 in
theorem c_RP_readName (l : Launch) (dC : Nat → ClassId) (dI : Nat → Nat → Nat) (h0 : Nat) (rTape : Nat) (rRule : Nat) (tpR : Nat) (cAtpR : ClassId) (sz : Nat) (nf : Nat) (rPos : Int32) (rStart : Int32) (rEnd : Int32) (rWide : Int32) (rNp : Int32) (rNs : Int32) (rAm : Int32) (rAw : Int32) (tpS : Int32) (tpN : Nat) (tpA : Nat → Int32) {r0 : Int32} {v0_0 : Int32} {v0_6 : Int32} {v0_7 : Int32} (hf : f_RP_readName nf rPos rEnd rNp rNs tpS tpN tpA = some (r0, v0_0, v0_6, v0_7)) : Met l y_RP_readName (wd y_RP_readName b_RP_readName 3 (some .boolean)) ({ frames := 3, cells := 0, slots := 0, locals := 62 }) (MU dC dI [(h0, .inr (6, [.int rPos, .ref rTape, .int rStart, .int rEnd, .int rWide, .ref rRule, .int rNp, .int rNs, .int rAm, .int rAw])), (rTape, .inr (0, [.ref tpR, .int tpS])), (tpR, .inl (cAtpR, tpN, .inl tpA))] [(cAtpR, .byte)] sz [.ref h0]) (MV (some (.int r0)) (fun t => ∃ (q2 : Nat) (nA2 : ClassId), va_P (dC, dI) classes [(h0, .inr (6, [.int v0_0, .ref rTape, .int rStart, .int rEnd, .int rWide, .ref rRule, .int v0_6, .int v0_7, .int rAm, .int rAw])), (rTape, .inr (0, [.ref q2, .int tpS])), (q2, .inl (nA2, tpN, .inl tpA))] t.heap ∧ va_K (dC, dI) classes [(nA2, .byte)] t ∧ va_D (va_A [(h0, .inr (6, [.int rPos, .ref rTape, .int rStart, .int rEnd, .int rWide, .ref rRule, .int rNp, .int rNs, .int rAm, .int rAw])), (rTape, .inr (0, [.ref tpR, .int tpS])), (tpR, .inl (cAtpR, tpN, .inl tpA))] sz) [(h0, .inr (6, [.int v0_0, .ref rTape, .int rStart, .int rEnd, .int rWide, .ref rRule, .int v0_6, .int v0_7, .int rAm, .int rAw])), (rTape, .inr (0, [.ref q2, .int tpS])), (q2, .inl (nA2, tpN, .inl tpA))]) (va_A [(h0, .inr (6, [.int rPos, .ref rTape, .int rStart, .int rEnd, .int rWide, .ref rRule, .int rNp, .int rNs, .int rAm, .int rAw])), (rTape, .inr (0, [.ref tpR, .int tpS])), (tpR, .inl (cAtpR, tpN, .inl tpA))] sz)) 0 0 (va_A [(h0, .inr (6, [.int rPos, .ref rTape, .int rStart, .int rEnd, .int rWide, .ref rRule, .int rNp, .int rNs, .int rAm, .int rAw])), (rTape, .inr (0, [.ref tpR, .int tpS])), (tpR, .inl (cAtpR, tpN, .inl tpA))] sz) :=
  met_M (plainFor_of_name (by decide)) (Nat.le_of_ble_eq_true rfl) (fun p e R s m args below meth c ls hRc hRs hsz hin C0 hST hK hP hD hl => by
    obtain ⟨hx, hb, hr, hml, hown, hts, hlocks, hRf, hRl⟩ := id C0
    subst hsz
    have hA : ∀ q : Nat, s.heap.size ≤ q → va_A [(h0, .inr (6, [.int rPos, .ref rTape, .int rStart, .int rEnd, .int rWide, .ref rRule, .int rNp, .int rNs, .int rAm, .int rAw])), (rTape, .inr (0, [.ref tpR, .int tpS])), (tpR, .inl (cAtpR, tpN, .inl tpA))] s.heap.size q := fun q h => Or.inr h
    have hS : va_S (va_A [(h0, .inr (6, [.int rPos, .ref rTape, .int rStart, .int rEnd, .int rWide, .ref rRule, .int rNp, .int rNs, .int rAm, .int rAw])), (rTape, .inr (0, [.ref tpR, .int tpS])), (tpR, .inl (cAtpR, tpN, .inl tpA))] s.heap.size) s.heap s.heap [] := va_S.rf
    unfold f_RP_readName at hf
    exact k_RP_readName_0 C0 hST hA (fun pc ls {q2} {nA2} H locs hd hn hP hD hS hK => W.zret hx hb hr hn (fun t ht hW => ⟨⟨rfl, ⟨q2, nA2, by rw [ht]; exact hP, va_K.moved hW.alike hK, hD⟩⟩, hS.F ht⟩) hS.2.2 hd) hf hK hP hD hS (lv_sub hl [0] rfl))
-- ZoneFiles$RuleParser.readDay(LZoneFiles$Edge;)Z
def f_RP_readDay_163 (nf : Nat) (s0 : Int32) (w0_0 : Int32) (w3_0 : Int32) (w3_1 : Int32) (w3_2 : Int32) (w3_3 : Int32) : Option (Int32 × Int32 × Int32 × Int32 × Int32 × Int32) :=
  if s0 = 0 ∨ s0 = 1 then some (s0, w0_0, w3_0, w3_1, w3_2, w3_3) else none
def f_RP_readDay_151 (nf : Nat) (w0_0 : Int32) (w3_0 : Int32) (w3_1 : Int32) (w3_2 : Int32) (w3_3 : Int32) : Option (Int32 × Int32 × Int32 × Int32 × Int32 × Int32) :=
  if w3_3 < 0 then
  f_RP_readDay_163 nf 0 w0_0 w3_0 w3_1 w3_2 w3_3
  else
  f_RP_readDay_163 nf 1 w0_0 w3_0 w3_1 w3_2 w3_3
def f_RP_readDay_51 (nf : Nat) (w0_0 : Int32) (w3_0 : Int32) (w3_1 : Int32) (w3_2 : Int32) (w3_3 : Int32) : Option (Int32 × Int32 × Int32 × Int32 × Int32 × Int32) :=
  some (0, w0_0, w3_0, w3_1, w3_2, w3_3)
def f_RP_readDay_79 (nf : Nat) (w0_0 : Int32) (w3_0 : Int32) (w3_1 : Int32) (w3_2 : Int32) (w3_3 : Int32) : Option (Int32 × Int32 × Int32 × Int32 × Int32 × Int32) :=
  some (0, w0_0, w3_0, w3_1, w3_2, w3_3)
def f_RP_readDay_0 (nf : Nat) (rEnd : Int32) (tpS : Int32) (tpN : Nat) (tpA : Nat → Int32) (w0_0 : Int32) (w3_0 : Int32) (w3_1 : Int32) (w3_2 : Int32) (w3_3 : Int32) : Option (Int32 × Int32 × Int32 × Int32 × Int32 × Int32) :=
  (f_RP_peek nf w0_0 rEnd tpS tpN tpA).bind fun r_1 =>
  if r_1 = (77 : Int32) then
  (f_RP_readNumber nf 1 12 (w0_0 + 1) rEnd tpS tpN tpA).bind fun (z_15, z_16) =>
    if z_15 < 0 then
    f_RP_readDay_51 nf z_16 2 z_15 w3_2 w3_3
    else
    (f_RP_pass nf 46 z_16 rEnd tpS tpN tpA).bind fun (z_20, z_21) =>
      if z_20 = 0 then
      f_RP_readDay_51 nf z_21 2 z_15 w3_2 w3_3
      else
      (f_RP_readNumber nf 1 5 z_21 rEnd tpS tpN tpA).bind fun (z_25, z_26) =>
        if z_25 < 0 then
        f_RP_readDay_79 nf z_26 2 z_15 z_25 w3_3
        else
        (f_RP_pass nf 46 z_26 rEnd tpS tpN tpA).bind fun (z_30, z_31) =>
          if z_30 = 0 then
          f_RP_readDay_79 nf z_31 2 z_15 z_25 w3_3
          else
          (f_RP_readNumber nf 0 6 z_31 rEnd tpS tpN tpA).bind fun (z_35, z_36) =>
            f_RP_readDay_151 nf z_36 2 z_15 z_25 z_35
  else
  (f_RP_peek nf w0_0 rEnd tpS tpN tpA).bind fun r_3 =>
    if r_3 = (74 : Int32) then
    (f_RP_readNumber nf 1 365 (w0_0 + 1) rEnd tpS tpN tpA).bind fun (z_11, z_12) =>
      f_RP_readDay_151 nf z_12 0 w3_1 w3_2 z_11
    else
    (f_RP_readNumber nf 0 365 w0_0 rEnd tpS tpN tpA).bind fun (z_5, z_6) =>
      f_RP_readDay_151 nf z_6 1 w3_1 w3_2 z_5
def f_RP_readDay (nf : Nat) (rPos : Int32) (rEnd : Int32) (tpS : Int32) (tpN : Nat) (tpA : Nat → Int32) (edKind : Int32) (edMonth : Int32) (edWeek : Int32) (edDay : Int32) : Option (Int32 × Int32 × Int32 × Int32 × Int32 × Int32) :=
  f_RP_readDay_0 nf rEnd tpS tpN tpA rPos edKind edMonth edWeek edDay
section
variable {p : Program} {l : Launch} {e : Env} {R : Room} {s : State} {m : MethodId} {args : Array Value} {below : List Frame} {meth : Method} {c : Code} {Q : State → Prop} {dC : Nat → ClassId} {dI : Nat → Nat → Nat} {nf : Nat} {A : Nat → Prop}
variable {h0 : Nat} {ed : Nat} {rTape : Nat} {rRule : Nat} {tpR : Nat} {cAtpR : ClassId} {rPos : Int32} {rStart : Int32} {rEnd : Int32} {rWide : Int32} {rNp : Int32} {rNs : Int32} {rAm : Int32} {rAw : Int32} {tpS : Int32} {tpN : Nat} {tpA : Nat → Int32} {edKind : Int32} {edMonth : Int32} {edWeek : Int32} {edDay : Int32} {edTime : Int32} {edClock : Int32} {r0 : Int32} {v0_0 : Int32} {v3_0 : Int32} {v3_1 : Int32} {v3_2 : Int32} {v3_3 : Int32}
set_option maxHeartbeats 400000 in
set_option maxRecDepth 100000 in
theorem k_RP_readDay_163 (C0 : Cx p s m meth c args R b_RP_readDay "ZoneFiles$RuleParser" 2 (some .boolean) 3 66) (hST : ST A s s.heap) (hA : ∀ q, s.heap.size ≤ q → A q) (hE : ∀ (pc : Nat) (ls : Array Slot) {q2 : Nat} {nA2 : ClassId} (H : Heap) (locs : List Loc), decode b_RP_readDay pc = .ok (.ireturn, 1) → narrow .boolean (.int r0) = .int r0 → va_P (dC, dI) classes [(h0, .inr (6, [.int v0_0, .ref rTape, .int rStart, .int rEnd, .int rWide, .ref rRule, .int rNp, .int rNs, .int rAm, .int rAw])), (rTape, .inr (0, [.ref q2, .int tpS])), (q2, .inl (nA2, tpN, .inl tpA)), (ed, .inr (1, [.int v3_0, .int v3_1, .int v3_2, .int v3_3, .int edTime, .int edClock]))] H → va_D A [(h0, .inr (6, [.int v0_0, .ref rTape, .int rStart, .int rEnd, .int rWide, .ref rRule, .int rNp, .int rNs, .int rAm, .int rAw])), (rTape, .inr (0, [.ref q2, .int tpS])), (q2, .inl (nA2, tpN, .inl tpA)), (ed, .inr (1, [.int v3_0, .int v3_1, .int v3_2, .int v3_3, .int edTime, .int edClock]))] → va_S A s.heap H locs → va_K (dC, dI) classes [(nA2, .byte)] s → W p l e R s m args below meth c H locs 0 0 Q (F0 m pc ls [.int r0])) {s0 : Int32} {w0_0 : Int32} {w3_0 : Int32} {w3_1 : Int32} {w3_2 : Int32} {w3_3 : Int32} (hf : f_RP_readDay_163 nf s0 w0_0 w3_0 w3_1 w3_2 w3_3 = some (r0, v0_0, v3_0, v3_1, v3_2, v3_3)) {q2 : Nat} {nA2 : ClassId} {H : Heap} {locs : List Loc} {ls : Array Slot} (hK : va_K (dC, dI) classes [(nA2, .byte)] s) (hP : va_P (dC, dI) classes [(h0, .inr (6, [.int w0_0, .ref rTape, .int rStart, .int rEnd, .int rWide, .ref rRule, .int rNp, .int rNs, .int rAm, .int rAw])), (rTape, .inr (0, [.ref q2, .int tpS])), (q2, .inl (nA2, tpN, .inl tpA)), (ed, .inr (1, [.int w3_0, .int w3_1, .int w3_2, .int w3_3, .int edTime, .int edClock]))] H) (hD : va_D A [(h0, .inr (6, [.int w0_0, .ref rTape, .int rStart, .int rEnd, .int rWide, .ref rRule, .int rNp, .int rNs, .int rAm, .int rAw])), (rTape, .inr (0, [.ref q2, .int tpS])), (q2, .inl (nA2, tpN, .inl tpA)), (ed, .inr (1, [.int w3_0, .int w3_1, .int w3_2, .int w3_3, .int edTime, .int edClock]))]) (hS : va_S A s.heap H locs) (hl : lv_has ls 2 []) : W p l e R s m args below meth c H locs 0 0 Q (F0 m 163 ls [.int s0]) := by
  obtain ⟨hx, hb, hr, hml, hown, hts, hlocks, hRf, hRl⟩ := id C0
  obtain ⟨tms, hZms, hTms, tmg, hZmg, hTmg, hNW⟩ := id hST
  unfold f_RP_readDay_163 at hf
  obtain ⟨c_10, hf⟩ := it_g hf
  cases rs hf
  exact hE _ _ _ _ d_RP_readDay_163 (nb_of c_10) hP hD hS hK
set_option maxHeartbeats 400000 in
set_option maxRecDepth 100000 in
theorem k_RP_readDay_151 (C0 : Cx p s m meth c args R b_RP_readDay "ZoneFiles$RuleParser" 2 (some .boolean) 3 66) (hST : ST A s s.heap) (hA : ∀ q, s.heap.size ≤ q → A q) (hE : ∀ (pc : Nat) (ls : Array Slot) {q2 : Nat} {nA2 : ClassId} (H : Heap) (locs : List Loc), decode b_RP_readDay pc = .ok (.ireturn, 1) → narrow .boolean (.int r0) = .int r0 → va_P (dC, dI) classes [(h0, .inr (6, [.int v0_0, .ref rTape, .int rStart, .int rEnd, .int rWide, .ref rRule, .int rNp, .int rNs, .int rAm, .int rAw])), (rTape, .inr (0, [.ref q2, .int tpS])), (q2, .inl (nA2, tpN, .inl tpA)), (ed, .inr (1, [.int v3_0, .int v3_1, .int v3_2, .int v3_3, .int edTime, .int edClock]))] H → va_D A [(h0, .inr (6, [.int v0_0, .ref rTape, .int rStart, .int rEnd, .int rWide, .ref rRule, .int rNp, .int rNs, .int rAm, .int rAw])), (rTape, .inr (0, [.ref q2, .int tpS])), (q2, .inl (nA2, tpN, .inl tpA)), (ed, .inr (1, [.int v3_0, .int v3_1, .int v3_2, .int v3_3, .int edTime, .int edClock]))] → va_S A s.heap H locs → va_K (dC, dI) classes [(nA2, .byte)] s → W p l e R s m args below meth c H locs 0 0 Q (F0 m pc ls [.int r0])) {w0_0 : Int32} {w3_0 : Int32} {w3_1 : Int32} {w3_2 : Int32} {w3_3 : Int32} (hf : f_RP_readDay_151 nf w0_0 w3_0 w3_1 w3_2 w3_3 = some (r0, v0_0, v3_0, v3_1, v3_2, v3_3)) {q2 : Nat} {nA2 : ClassId} {H : Heap} {locs : List Loc} {ls : Array Slot} (hK : va_K (dC, dI) classes [(nA2, .byte)] s) (hP : va_P (dC, dI) classes [(h0, .inr (6, [.int w0_0, .ref rTape, .int rStart, .int rEnd, .int rWide, .ref rRule, .int rNp, .int rNs, .int rAm, .int rAw])), (rTape, .inr (0, [.ref q2, .int tpS])), (q2, .inl (nA2, tpN, .inl tpA)), (ed, .inr (1, [.int w3_0, .int w3_1, .int w3_2, .int w3_3, .int edTime, .int edClock]))] H) (hD : va_D A [(h0, .inr (6, [.int w0_0, .ref rTape, .int rStart, .int rEnd, .int rWide, .ref rRule, .int rNp, .int rNs, .int rAm, .int rAw])), (rTape, .inr (0, [.ref q2, .int tpS])), (q2, .inl (nA2, tpN, .inl tpA)), (ed, .inr (1, [.int w3_0, .int w3_1, .int w3_2, .int w3_3, .int edTime, .int edClock]))]) (hS : va_S A s.heap H locs) (hl : lv_has ls 2 [(1, .ref ed)]) : W p l e R s m args below meth c H locs 0 0 Q (F0 m 151 ls []) := by
  obtain ⟨hx, hb, hr, hml, hown, hts, hlocks, hRf, hRl⟩ := id C0
  obtain ⟨tms, hZms, hTms, tmg, hZmg, hTmg, hNW⟩ := id hST
  unfold f_RP_readDay_151 at hf
  refine lv_aload_n hx hb d_RP_readDay_151 rfl (lv_at hl 0 rfl) ?_
  refine va_get (D := (dC, dI)) (ci := 1) (v := .int w3_3) (C := REdge) (T := TEdge) (N := 6) hx hb hts in_Edge hown hK hP 3 rfl rfl 3 (by decide) (hts (.fieldLink "ZoneFiles$RuleParser" 145 "ZoneFiles$Edge" "day" "I") m_1_81) (fun _ h9 => h9) rfl d_RP_readDay_152 ?_
  refine lv_if_lt (tgt := 162) hx hb d_RP_readDay_155 (by decide) (fun c_9 => ?_) (fun c_9 => ?_)
  · have hf := it_t c_9 hf
    refine lv_iconst (v := 0) hx hb d_RP_readDay_162 (by decide) ?_
    exact k_RP_readDay_163 C0 hST hA hE hf hK hP hD hS (lv_sub hl [] rfl)
  · have hf := it_f c_9 hf
    refine lv_iconst (v := 1) hx hb d_RP_readDay_158 (by decide) ?_
    refine lv_goto (tgt := 163) hx hb d_RP_readDay_159 (by decide) ?_
    exact k_RP_readDay_163 C0 hST hA hE hf hK hP hD hS (lv_sub hl [] rfl)
set_option maxHeartbeats 400000 in
set_option maxRecDepth 100000 in
theorem k_RP_readDay_51 (C0 : Cx p s m meth c args R b_RP_readDay "ZoneFiles$RuleParser" 2 (some .boolean) 3 66) (hST : ST A s s.heap) (hA : ∀ q, s.heap.size ≤ q → A q) (hE : ∀ (pc : Nat) (ls : Array Slot) {q2 : Nat} {nA2 : ClassId} (H : Heap) (locs : List Loc), decode b_RP_readDay pc = .ok (.ireturn, 1) → narrow .boolean (.int r0) = .int r0 → va_P (dC, dI) classes [(h0, .inr (6, [.int v0_0, .ref rTape, .int rStart, .int rEnd, .int rWide, .ref rRule, .int rNp, .int rNs, .int rAm, .int rAw])), (rTape, .inr (0, [.ref q2, .int tpS])), (q2, .inl (nA2, tpN, .inl tpA)), (ed, .inr (1, [.int v3_0, .int v3_1, .int v3_2, .int v3_3, .int edTime, .int edClock]))] H → va_D A [(h0, .inr (6, [.int v0_0, .ref rTape, .int rStart, .int rEnd, .int rWide, .ref rRule, .int rNp, .int rNs, .int rAm, .int rAw])), (rTape, .inr (0, [.ref q2, .int tpS])), (q2, .inl (nA2, tpN, .inl tpA)), (ed, .inr (1, [.int v3_0, .int v3_1, .int v3_2, .int v3_3, .int edTime, .int edClock]))] → va_S A s.heap H locs → va_K (dC, dI) classes [(nA2, .byte)] s → W p l e R s m args below meth c H locs 0 0 Q (F0 m pc ls [.int r0])) {w0_0 : Int32} {w3_0 : Int32} {w3_1 : Int32} {w3_2 : Int32} {w3_3 : Int32} (hf : f_RP_readDay_51 nf w0_0 w3_0 w3_1 w3_2 w3_3 = some (r0, v0_0, v3_0, v3_1, v3_2, v3_3)) {q2 : Nat} {nA2 : ClassId} {H : Heap} {locs : List Loc} {ls : Array Slot} (hK : va_K (dC, dI) classes [(nA2, .byte)] s) (hP : va_P (dC, dI) classes [(h0, .inr (6, [.int w0_0, .ref rTape, .int rStart, .int rEnd, .int rWide, .ref rRule, .int rNp, .int rNs, .int rAm, .int rAw])), (rTape, .inr (0, [.ref q2, .int tpS])), (q2, .inl (nA2, tpN, .inl tpA)), (ed, .inr (1, [.int w3_0, .int w3_1, .int w3_2, .int w3_3, .int edTime, .int edClock]))] H) (hD : va_D A [(h0, .inr (6, [.int w0_0, .ref rTape, .int rStart, .int rEnd, .int rWide, .ref rRule, .int rNp, .int rNs, .int rAm, .int rAw])), (rTape, .inr (0, [.ref q2, .int tpS])), (q2, .inl (nA2, tpN, .inl tpA)), (ed, .inr (1, [.int w3_0, .int w3_1, .int w3_2, .int w3_3, .int edTime, .int edClock]))]) (hS : va_S A s.heap H locs) (hl : lv_has ls 2 []) : W p l e R s m args below meth c H locs 0 0 Q (F0 m 51 ls []) := by
  obtain ⟨hx, hb, hr, hml, hown, hts, hlocks, hRf, hRl⟩ := id C0
  obtain ⟨tms, hZms, hTms, tmg, hZmg, hTmg, hNW⟩ := id hST
  unfold f_RP_readDay_51 at hf
  refine lv_iconst (v := 0) hx hb d_RP_readDay_51 (by decide) ?_
  cases rs hf
  exact hE _ _ _ _ d_RP_readDay_52 rfl hP hD hS hK
set_option maxHeartbeats 400000 in
set_option maxRecDepth 100000 in
theorem k_RP_readDay_79 (C0 : Cx p s m meth c args R b_RP_readDay "ZoneFiles$RuleParser" 2 (some .boolean) 3 66) (hST : ST A s s.heap) (hA : ∀ q, s.heap.size ≤ q → A q) (hE : ∀ (pc : Nat) (ls : Array Slot) {q2 : Nat} {nA2 : ClassId} (H : Heap) (locs : List Loc), decode b_RP_readDay pc = .ok (.ireturn, 1) → narrow .boolean (.int r0) = .int r0 → va_P (dC, dI) classes [(h0, .inr (6, [.int v0_0, .ref rTape, .int rStart, .int rEnd, .int rWide, .ref rRule, .int rNp, .int rNs, .int rAm, .int rAw])), (rTape, .inr (0, [.ref q2, .int tpS])), (q2, .inl (nA2, tpN, .inl tpA)), (ed, .inr (1, [.int v3_0, .int v3_1, .int v3_2, .int v3_3, .int edTime, .int edClock]))] H → va_D A [(h0, .inr (6, [.int v0_0, .ref rTape, .int rStart, .int rEnd, .int rWide, .ref rRule, .int rNp, .int rNs, .int rAm, .int rAw])), (rTape, .inr (0, [.ref q2, .int tpS])), (q2, .inl (nA2, tpN, .inl tpA)), (ed, .inr (1, [.int v3_0, .int v3_1, .int v3_2, .int v3_3, .int edTime, .int edClock]))] → va_S A s.heap H locs → va_K (dC, dI) classes [(nA2, .byte)] s → W p l e R s m args below meth c H locs 0 0 Q (F0 m pc ls [.int r0])) {w0_0 : Int32} {w3_0 : Int32} {w3_1 : Int32} {w3_2 : Int32} {w3_3 : Int32} (hf : f_RP_readDay_79 nf w0_0 w3_0 w3_1 w3_2 w3_3 = some (r0, v0_0, v3_0, v3_1, v3_2, v3_3)) {q2 : Nat} {nA2 : ClassId} {H : Heap} {locs : List Loc} {ls : Array Slot} (hK : va_K (dC, dI) classes [(nA2, .byte)] s) (hP : va_P (dC, dI) classes [(h0, .inr (6, [.int w0_0, .ref rTape, .int rStart, .int rEnd, .int rWide, .ref rRule, .int rNp, .int rNs, .int rAm, .int rAw])), (rTape, .inr (0, [.ref q2, .int tpS])), (q2, .inl (nA2, tpN, .inl tpA)), (ed, .inr (1, [.int w3_0, .int w3_1, .int w3_2, .int w3_3, .int edTime, .int edClock]))] H) (hD : va_D A [(h0, .inr (6, [.int w0_0, .ref rTape, .int rStart, .int rEnd, .int rWide, .ref rRule, .int rNp, .int rNs, .int rAm, .int rAw])), (rTape, .inr (0, [.ref q2, .int tpS])), (q2, .inl (nA2, tpN, .inl tpA)), (ed, .inr (1, [.int w3_0, .int w3_1, .int w3_2, .int w3_3, .int edTime, .int edClock]))]) (hS : va_S A s.heap H locs) (hl : lv_has ls 2 []) : W p l e R s m args below meth c H locs 0 0 Q (F0 m 79 ls []) := by
  obtain ⟨hx, hb, hr, hml, hown, hts, hlocks, hRf, hRl⟩ := id C0
  obtain ⟨tms, hZms, hTms, tmg, hZmg, hTmg, hNW⟩ := id hST
  unfold f_RP_readDay_79 at hf
  refine lv_iconst (v := 0) hx hb d_RP_readDay_79 (by decide) ?_
  cases rs hf
  exact hE _ _ _ _ d_RP_readDay_80 rfl hP hD hS hK
set_option maxHeartbeats 400000 in
set_option maxRecDepth 100000 in
theorem k_RP_readDay_0 (C0 : Cx p s m meth c args R b_RP_readDay "ZoneFiles$RuleParser" 2 (some .boolean) 3 66) (hST : ST A s s.heap) (hA : ∀ q, s.heap.size ≤ q → A q) (hE : ∀ (pc : Nat) (ls : Array Slot) {q2 : Nat} {nA2 : ClassId} (H : Heap) (locs : List Loc), decode b_RP_readDay pc = .ok (.ireturn, 1) → narrow .boolean (.int r0) = .int r0 → va_P (dC, dI) classes [(h0, .inr (6, [.int v0_0, .ref rTape, .int rStart, .int rEnd, .int rWide, .ref rRule, .int rNp, .int rNs, .int rAm, .int rAw])), (rTape, .inr (0, [.ref q2, .int tpS])), (q2, .inl (nA2, tpN, .inl tpA)), (ed, .inr (1, [.int v3_0, .int v3_1, .int v3_2, .int v3_3, .int edTime, .int edClock]))] H → va_D A [(h0, .inr (6, [.int v0_0, .ref rTape, .int rStart, .int rEnd, .int rWide, .ref rRule, .int rNp, .int rNs, .int rAm, .int rAw])), (rTape, .inr (0, [.ref q2, .int tpS])), (q2, .inl (nA2, tpN, .inl tpA)), (ed, .inr (1, [.int v3_0, .int v3_1, .int v3_2, .int v3_3, .int edTime, .int edClock]))] → va_S A s.heap H locs → va_K (dC, dI) classes [(nA2, .byte)] s → W p l e R s m args below meth c H locs 0 0 Q (F0 m pc ls [.int r0])) {w0_0 : Int32} {w3_0 : Int32} {w3_1 : Int32} {w3_2 : Int32} {w3_3 : Int32} (hf : f_RP_readDay_0 nf rEnd tpS tpN tpA w0_0 w3_0 w3_1 w3_2 w3_3 = some (r0, v0_0, v3_0, v3_1, v3_2, v3_3)) {q2 : Nat} {nA2 : ClassId} {H : Heap} {locs : List Loc} {ls : Array Slot} (hK : va_K (dC, dI) classes [(nA2, .byte)] s) (hP : va_P (dC, dI) classes [(h0, .inr (6, [.int w0_0, .ref rTape, .int rStart, .int rEnd, .int rWide, .ref rRule, .int rNp, .int rNs, .int rAm, .int rAw])), (rTape, .inr (0, [.ref q2, .int tpS])), (q2, .inl (nA2, tpN, .inl tpA)), (ed, .inr (1, [.int w3_0, .int w3_1, .int w3_2, .int w3_3, .int edTime, .int edClock]))] H) (hD : va_D A [(h0, .inr (6, [.int w0_0, .ref rTape, .int rStart, .int rEnd, .int rWide, .ref rRule, .int rNp, .int rNs, .int rAm, .int rAw])), (rTape, .inr (0, [.ref q2, .int tpS])), (q2, .inl (nA2, tpN, .inl tpA)), (ed, .inr (1, [.int w3_0, .int w3_1, .int w3_2, .int w3_3, .int edTime, .int edClock]))]) (hS : va_S A s.heap H locs) (hl : lv_has ls 2 [(0, .ref h0), (1, .ref ed)]) : W p l e R s m args below meth c H locs 0 0 Q (F0 m 0 ls []) := by
  obtain ⟨hx, hb, hr, hml, hown, hts, hlocks, hRf, hRl⟩ := id C0
  obtain ⟨tms, hZms, hTms, tmg, hZmg, hTmg, hNW⟩ := id hST
  unfold f_RP_readDay_0 at hf
  refine lv_aload_n hx hb d_RP_readDay_0 rfl (lv_at hl 0 rfl) ?_
  obtain ⟨r_1, hc, hf⟩ := ob hf
  refine cl_S (v := (some (.int r_1))) (st1 := [.int r_1]) (va_runV (As := []) (rest := []) ⟨hx, hb, hml, hown, hts⟩ (c_RP_peek l dC dI h0 rTape rRule q2 nA2 nf w0_0 rStart rEnd rWide rNp rNs rAm rAw tpS tpN tpA hc) (cwV 0 hts (gdV m_4_101 m_4_103 msel_33 m_1_17 m_4_104) rfl rfl rfl (by decide +kernel) ⟨Nat.le_trans (Nat.le_of_ble_eq_true rfl) hRf, Nat.le_trans (Nat.le_of_ble_eq_true rfl) hRl⟩) ((RO.pre (hP.sub (ws' := [(h0, .inr (6, [.int w0_0, .ref rTape, .int rStart, .int rEnd, .int rWide, .ref rRule, .int rNp, .int rNs, .int rAm, .int rAw])), (rTape, .inr (0, [.ref q2, .int tpS])), (q2, .inl (nA2, tpN, .inl tpA))]) [0, 1, 2] rfl) (hK.sub (tys' := [(nA2, .byte)]) [0] rfl) (hST.ro hS)).vir (va_recv (hK.sub (tys' := [(nA2, .byte)]) [0] rfl) (hP.sub (ws' := [(h0, .inr (6, [.int w0_0, .ref rTape, .int rStart, .int rEnd, .int rWide, .ref rRule, .int rNp, .int rNs, .int rAm, .int rAw])), (rTape, .inr (0, [.ref q2, .int tpS])), (q2, .inl (nA2, tpN, .inl tpA))]) [0, 1, 2] rfl) (ci := 6) (q0 := 0) rfl rfl)) rfl rfl hl.1 rfl (lv_room (Nat.le_of_ble_eq_true rfl)) d_RP_readDay_1 ⟨Nat.zero_le _, Nat.zero_le _⟩) rfl ?_
  refine lv_bipush (v := 77) hx hb d_RP_readDay_4 (by decide) ?_
  refine lv_icmp_ne (tgt := 95) hx hb d_RP_readDay_6 (by decide) (fun c_2 => ?_) (fun c_2 => ?_)
  · have hf := it_f c_2 hf
    refine lv_aload_n hx hb d_RP_readDay_95 rfl (lv_at hl 0 rfl) ?_
    obtain ⟨r_3, hc, hf⟩ := ob hf
    refine cl_S (v := (some (.int r_3))) (st1 := [.int r_3]) (va_runV (As := []) (rest := []) ⟨hx, hb, hml, hown, hts⟩ (c_RP_peek l dC dI h0 rTape rRule q2 nA2 nf w0_0 rStart rEnd rWide rNp rNs rAm rAw tpS tpN tpA hc) (cwV 0 hts (gdV m_4_101 m_4_103 msel_33 m_1_17 m_4_104) rfl rfl rfl (by decide +kernel) ⟨Nat.le_trans (Nat.le_of_ble_eq_true rfl) hRf, Nat.le_trans (Nat.le_of_ble_eq_true rfl) hRl⟩) ((RO.pre (hP.sub (ws' := [(h0, .inr (6, [.int w0_0, .ref rTape, .int rStart, .int rEnd, .int rWide, .ref rRule, .int rNp, .int rNs, .int rAm, .int rAw])), (rTape, .inr (0, [.ref q2, .int tpS])), (q2, .inl (nA2, tpN, .inl tpA))]) [0, 1, 2] rfl) (hK.sub (tys' := [(nA2, .byte)]) [0] rfl) (hST.ro hS)).vir (va_recv (hK.sub (tys' := [(nA2, .byte)]) [0] rfl) (hP.sub (ws' := [(h0, .inr (6, [.int w0_0, .ref rTape, .int rStart, .int rEnd, .int rWide, .ref rRule, .int rNp, .int rNs, .int rAm, .int rAw])), (rTape, .inr (0, [.ref q2, .int tpS])), (q2, .inl (nA2, tpN, .inl tpA))]) [0, 1, 2] rfl) (ci := 6) (q0 := 0) rfl rfl)) rfl rfl hl.1 rfl (lv_room (Nat.le_of_ble_eq_true rfl)) d_RP_readDay_96 ⟨Nat.zero_le _, Nat.zero_le _⟩) rfl ?_
    refine lv_bipush (v := 74) hx hb d_RP_readDay_99 (by decide) ?_
    refine lv_icmp_ne (tgt := 134) hx hb d_RP_readDay_101 (by decide) (fun c_4 => ?_) (fun c_4 => ?_)
    · have hf := it_f c_4 hf
      refine lv_aload_n hx hb d_RP_readDay_134 rfl (lv_at hl 1 rfl) ?_
      refine lv_iconst (v := 1) hx hb d_RP_readDay_135 (by decide) ?_
      refine va_put (D := (dC, dI)) (ci := 1) (v := .int 1) (ty := .int) (C := REdge) (T := TEdge) (N := 6) hx hb hts in_Edge tyEdge ty_Edge nm_Edge hown hK hP hD hS 3 rfl rfl 0 (by decide) (hts (.fieldLink "ZoneFiles$RuleParser" 132 "ZoneFiles$Edge" "kind" "I") m_1_75) (fun _ h9 => h9) rfl (by decide +kernel) rfl rfl (Nat.le_of_ble_eq_true rfl) d_RP_readDay_136 (fun H locs hP hD hS => ?_)
      have hP : va_P (dC, dI) classes [(h0, .inr (6, [.int w0_0, .ref rTape, .int rStart, .int rEnd, .int rWide, .ref rRule, .int rNp, .int rNs, .int rAm, .int rAw])), (rTape, .inr (0, [.ref q2, .int tpS])), (q2, .inl (nA2, tpN, .inl tpA)), (ed, .inr (1, [.int 1, .int w3_1, .int w3_2, .int w3_3, .int edTime, .int edClock]))] H := hP
      have hD : va_D A [(h0, .inr (6, [.int w0_0, .ref rTape, .int rStart, .int rEnd, .int rWide, .ref rRule, .int rNp, .int rNs, .int rAm, .int rAw])), (rTape, .inr (0, [.ref q2, .int tpS])), (q2, .inl (nA2, tpN, .inl tpA)), (ed, .inr (1, [.int 1, .int w3_1, .int w3_2, .int w3_3, .int edTime, .int edClock]))] := hD
      refine lv_aload_n hx hb d_RP_readDay_139 rfl (lv_at hl 1 rfl) ?_
      refine lv_aload_n hx hb d_RP_readDay_140 rfl (lv_at hl 0 rfl) ?_
      refine lv_iconst (v := 0) hx hb d_RP_readDay_141 (by decide) ?_
      refine lv_sipush (v := 365) hx hb d_RP_readDay_142 (by decide) ?_
      obtain ⟨⟨z_5, z_6⟩, hc, hf⟩ := ob hf
      have hPc := hP.sub (ws' := [(h0, .inr (6, [.int w0_0, .ref rTape, .int rStart, .int rEnd, .int rWide, .ref rRule, .int rNp, .int rNs, .int rAm, .int rAw])), (rTape, .inr (0, [.ref q2, .int tpS])), (q2, .inl (nA2, tpN, .inl tpA))]) [0, 1, 2] rfl
      have hDc := hD.sub (ws' := [(h0, .inr (6, [.int w0_0, .ref rTape, .int rStart, .int rEnd, .int rWide, .ref rRule, .int rNp, .int rNs, .int rAm, .int rAw])), (rTape, .inr (0, [.ref q2, .int tpS])), (q2, .inl (nA2, tpN, .inl tpA))]) [0, 1, 2] (by decide) rfl
      have hKc := hK.sub (tys' := [(nA2, .byte)]) [0] rfl
      have hFc := va_free (wc := [(h0, .inr (6, [.int w0_0, .ref rTape, .int rStart, .int rEnd, .int rWide, .ref rRule, .int rNp, .int rNs, .int rAm, .int rAw])), (rTape, .inr (0, [.ref q2, .int tpS])), (q2, .inl (nA2, tpN, .inl tpA))]) hD hS hA [0, 1, 2] rfl
      refine cl_M (v := (some (.int z_5))) (st1 := [.int z_5, .ref ed]) (va_runV (As := [.int 0, .int 365]) (rest := [.ref ed]) ⟨hx, hb, hml, hown, hts⟩ (c_RP_readNumber l dC dI h0 rTape rRule q2 nA2 H.size nf 0 365 w0_0 rStart rEnd rWide rNp rNs rAm rAw tpS tpN tpA hc) (cwV 2 hts (gdV m_4_115 m_4_117 msel_35 m_1_17 m_4_118) rfl rfl rfl (by decide +kernel) ⟨Nat.le_trans (Nat.le_of_ble_eq_true rfl) hRf, Nat.le_trans (Nat.le_of_ble_eq_true rfl) hRl⟩) ((MU.pre hPc hKc hDc (hST.mu hS hFc)).vir (va_recv hKc hPc (ci := 6) (q0 := 0) rfl rfl)) rfl rfl hl.1 rfl (lv_room (Nat.le_of_ble_eq_true rfl)) d_RP_readDay_145 ⟨Nat.zero_le _, Nat.zero_le _⟩) rfl hS (fun q _ h => hFc q h) hFc (fun t H1 locs ht hvm hB hz1 hk1 hS => ?_)
      obtain ⟨q_7, cq_8, hP1, hK1, hD1⟩ := hB
      rw [ht] at hP1
      have hK1 := va_K.moved hvm.symm hK1
      obtain ⟨hP, hD⟩ := va_join (wr := [(ed, .inr (1, [.int 1, .int w3_1, .int w3_2, .int w3_3, .int edTime, .int edClock]))]) (w1 := [(h0, .inr (6, [.int z_6, .ref rTape, .int rStart, .int rEnd, .int rWide, .ref rRule, .int rNp, .int rNs, .int rAm, .int rAw])), (rTape, .inr (0, [.ref q_7, .int tpS])), (q_7, .inl (cq_8, tpN, .inl tpA))]) hP hD [0, 1, 2] [3] rfl rfl (by decide) (by decide) hk1 hFc hP1 hD1
      have hK := (hK.sub (tys' := []) [] rfl).app hK1
      generalize H1 = H at hP hS ⊢
      have hP := hP.sub (ws' := [(h0, .inr (6, [.int z_6, .ref rTape, .int rStart, .int rEnd, .int rWide, .ref rRule, .int rNp, .int rNs, .int rAm, .int rAw])), (rTape, .inr (0, [.ref q_7, .int tpS])), (q_7, .inl (cq_8, tpN, .inl tpA)), (ed, .inr (1, [.int 1, .int w3_1, .int w3_2, .int w3_3, .int edTime, .int edClock]))]) [1, 2, 3, 0] rfl
      have hD := hD.sub (ws' := [(h0, .inr (6, [.int z_6, .ref rTape, .int rStart, .int rEnd, .int rWide, .ref rRule, .int rNp, .int rNs, .int rAm, .int rAw])), (rTape, .inr (0, [.ref q_7, .int tpS])), (q_7, .inl (cq_8, tpN, .inl tpA)), (ed, .inr (1, [.int 1, .int w3_1, .int w3_2, .int w3_3, .int edTime, .int edClock]))]) [1, 2, 3, 0] (by decide) rfl
      have hK := hK.sub (tys' := [(cq_8, .byte)]) [0] rfl
      refine va_put (D := (dC, dI)) (ci := 1) (v := .int z_5) (ty := .int) (C := REdge) (T := TEdge) (N := 6) hx hb hts in_Edge tyEdge ty_Edge nm_Edge hown hK hP hD hS 3 rfl rfl 3 (by decide) (hts (.fieldLink "ZoneFiles$RuleParser" 145 "ZoneFiles$Edge" "day" "I") m_1_81) (fun _ h9 => h9) rfl (by decide +kernel) rfl rfl (Nat.le_of_ble_eq_true rfl) d_RP_readDay_148 (fun H locs hP hD hS => ?_)
      have hP : va_P (dC, dI) classes [(h0, .inr (6, [.int z_6, .ref rTape, .int rStart, .int rEnd, .int rWide, .ref rRule, .int rNp, .int rNs, .int rAm, .int rAw])), (rTape, .inr (0, [.ref q_7, .int tpS])), (q_7, .inl (cq_8, tpN, .inl tpA)), (ed, .inr (1, [.int 1, .int w3_1, .int w3_2, .int z_5, .int edTime, .int edClock]))] H := hP
      have hD : va_D A [(h0, .inr (6, [.int z_6, .ref rTape, .int rStart, .int rEnd, .int rWide, .ref rRule, .int rNp, .int rNs, .int rAm, .int rAw])), (rTape, .inr (0, [.ref q_7, .int tpS])), (q_7, .inl (cq_8, tpN, .inl tpA)), (ed, .inr (1, [.int 1, .int w3_1, .int w3_2, .int z_5, .int edTime, .int edClock]))] := hD
      exact k_RP_readDay_151 C0 hST hA hE hf hK hP hD hS (lv_sub hl [1] rfl)
    · have hf := it_t c_4 hf
      refine lv_aload_n hx hb d_RP_readDay_104 rfl (lv_at hl 0 rfl) ?_
      refine lv_dup hx hb d_RP_readDay_105 rfl ?_
      refine va_get (D := (dC, dI)) (ci := 6) (v := .int w0_0) (C := RRuleParser) (T := TRuleParser) (N := 10) hx hb hts in_RuleParser hown hK hP 0 rfl rfl 0 (by decide) (hts (.fieldLink "ZoneFiles$RuleParser" 28 "ZoneFiles$RuleParser" "pos" "I") m_4_51) (fun _ h9 => h9) rfl d_RP_readDay_106 ?_
      refine lv_iconst (v := 1) hx hb d_RP_readDay_109 (by decide) ?_
      refine lv_iadd hx hb d_RP_readDay_110 ?_
      refine va_put (D := (dC, dI)) (ci := 6) (v := .int (w0_0 + 1)) (ty := .int) (C := RRuleParser) (T := TRuleParser) (N := 10) hx hb hts in_RuleParser tyRuleParser ty_RuleParser nm_RuleParser hown hK hP hD hS 0 rfl rfl 0 (by decide) (hts (.fieldLink "ZoneFiles$RuleParser" 28 "ZoneFiles$RuleParser" "pos" "I") m_4_51) (fun _ h9 => h9) rfl (by decide +kernel) rfl rfl (Nat.le_of_ble_eq_true rfl) d_RP_readDay_111 (fun H locs hP hD hS => ?_)
      have hP : va_P (dC, dI) classes [(h0, .inr (6, [.int (w0_0 + 1), .ref rTape, .int rStart, .int rEnd, .int rWide, .ref rRule, .int rNp, .int rNs, .int rAm, .int rAw])), (rTape, .inr (0, [.ref q2, .int tpS])), (q2, .inl (nA2, tpN, .inl tpA)), (ed, .inr (1, [.int w3_0, .int w3_1, .int w3_2, .int w3_3, .int edTime, .int edClock]))] H := hP
      have hD : va_D A [(h0, .inr (6, [.int (w0_0 + 1), .ref rTape, .int rStart, .int rEnd, .int rWide, .ref rRule, .int rNp, .int rNs, .int rAm, .int rAw])), (rTape, .inr (0, [.ref q2, .int tpS])), (q2, .inl (nA2, tpN, .inl tpA)), (ed, .inr (1, [.int w3_0, .int w3_1, .int w3_2, .int w3_3, .int edTime, .int edClock]))] := hD
      refine lv_aload_n hx hb d_RP_readDay_114 rfl (lv_at hl 1 rfl) ?_
      refine lv_iconst (v := 0) hx hb d_RP_readDay_115 (by decide) ?_
      refine va_put (D := (dC, dI)) (ci := 1) (v := .int 0) (ty := .int) (C := REdge) (T := TEdge) (N := 6) hx hb hts in_Edge tyEdge ty_Edge nm_Edge hown hK hP hD hS 3 rfl rfl 0 (by decide) (hts (.fieldLink "ZoneFiles$RuleParser" 132 "ZoneFiles$Edge" "kind" "I") m_1_75) (fun _ h9 => h9) rfl (by decide +kernel) rfl rfl (Nat.le_of_ble_eq_true rfl) d_RP_readDay_116 (fun H locs hP hD hS => ?_)
      have hP : va_P (dC, dI) classes [(h0, .inr (6, [.int (w0_0 + 1), .ref rTape, .int rStart, .int rEnd, .int rWide, .ref rRule, .int rNp, .int rNs, .int rAm, .int rAw])), (rTape, .inr (0, [.ref q2, .int tpS])), (q2, .inl (nA2, tpN, .inl tpA)), (ed, .inr (1, [.int 0, .int w3_1, .int w3_2, .int w3_3, .int edTime, .int edClock]))] H := hP
      have hD : va_D A [(h0, .inr (6, [.int (w0_0 + 1), .ref rTape, .int rStart, .int rEnd, .int rWide, .ref rRule, .int rNp, .int rNs, .int rAm, .int rAw])), (rTape, .inr (0, [.ref q2, .int tpS])), (q2, .inl (nA2, tpN, .inl tpA)), (ed, .inr (1, [.int 0, .int w3_1, .int w3_2, .int w3_3, .int edTime, .int edClock]))] := hD
      refine lv_aload_n hx hb d_RP_readDay_119 rfl (lv_at hl 1 rfl) ?_
      refine lv_aload_n hx hb d_RP_readDay_120 rfl (lv_at hl 0 rfl) ?_
      refine lv_iconst (v := 1) hx hb d_RP_readDay_121 (by decide) ?_
      refine lv_sipush (v := 365) hx hb d_RP_readDay_122 (by decide) ?_
      obtain ⟨⟨z_11, z_12⟩, hc, hf⟩ := ob hf
      have hPc := hP.sub (ws' := [(h0, .inr (6, [.int (w0_0 + 1), .ref rTape, .int rStart, .int rEnd, .int rWide, .ref rRule, .int rNp, .int rNs, .int rAm, .int rAw])), (rTape, .inr (0, [.ref q2, .int tpS])), (q2, .inl (nA2, tpN, .inl tpA))]) [0, 1, 2] rfl
      have hDc := hD.sub (ws' := [(h0, .inr (6, [.int (w0_0 + 1), .ref rTape, .int rStart, .int rEnd, .int rWide, .ref rRule, .int rNp, .int rNs, .int rAm, .int rAw])), (rTape, .inr (0, [.ref q2, .int tpS])), (q2, .inl (nA2, tpN, .inl tpA))]) [0, 1, 2] (by decide) rfl
      have hKc := hK.sub (tys' := [(nA2, .byte)]) [0] rfl
      have hFc := va_free (wc := [(h0, .inr (6, [.int (w0_0 + 1), .ref rTape, .int rStart, .int rEnd, .int rWide, .ref rRule, .int rNp, .int rNs, .int rAm, .int rAw])), (rTape, .inr (0, [.ref q2, .int tpS])), (q2, .inl (nA2, tpN, .inl tpA))]) hD hS hA [0, 1, 2] rfl
      refine cl_M (v := (some (.int z_11))) (st1 := [.int z_11, .ref ed]) (va_runV (As := [.int 1, .int 365]) (rest := [.ref ed]) ⟨hx, hb, hml, hown, hts⟩ (c_RP_readNumber l dC dI h0 rTape rRule q2 nA2 H.size nf 1 365 (w0_0 + 1) rStart rEnd rWide rNp rNs rAm rAw tpS tpN tpA hc) (cwV 2 hts (gdV m_4_115 m_4_117 msel_35 m_1_17 m_4_118) rfl rfl rfl (by decide +kernel) ⟨Nat.le_trans (Nat.le_of_ble_eq_true rfl) hRf, Nat.le_trans (Nat.le_of_ble_eq_true rfl) hRl⟩) ((MU.pre hPc hKc hDc (hST.mu hS hFc)).vir (va_recv hKc hPc (ci := 6) (q0 := 0) rfl rfl)) rfl rfl hl.1 rfl (lv_room (Nat.le_of_ble_eq_true rfl)) d_RP_readDay_125 ⟨Nat.zero_le _, Nat.zero_le _⟩) rfl hS (fun q _ h => hFc q h) hFc (fun t H1 locs ht hvm hB hz1 hk1 hS => ?_)
      obtain ⟨q_13, cq_14, hP1, hK1, hD1⟩ := hB
      rw [ht] at hP1
      have hK1 := va_K.moved hvm.symm hK1
      obtain ⟨hP, hD⟩ := va_join (wr := [(ed, .inr (1, [.int 0, .int w3_1, .int w3_2, .int w3_3, .int edTime, .int edClock]))]) (w1 := [(h0, .inr (6, [.int z_12, .ref rTape, .int rStart, .int rEnd, .int rWide, .ref rRule, .int rNp, .int rNs, .int rAm, .int rAw])), (rTape, .inr (0, [.ref q_13, .int tpS])), (q_13, .inl (cq_14, tpN, .inl tpA))]) hP hD [0, 1, 2] [3] rfl rfl (by decide) (by decide) hk1 hFc hP1 hD1
      have hK := (hK.sub (tys' := []) [] rfl).app hK1
      generalize H1 = H at hP hS ⊢
      have hP := hP.sub (ws' := [(h0, .inr (6, [.int z_12, .ref rTape, .int rStart, .int rEnd, .int rWide, .ref rRule, .int rNp, .int rNs, .int rAm, .int rAw])), (rTape, .inr (0, [.ref q_13, .int tpS])), (q_13, .inl (cq_14, tpN, .inl tpA)), (ed, .inr (1, [.int 0, .int w3_1, .int w3_2, .int w3_3, .int edTime, .int edClock]))]) [1, 2, 3, 0] rfl
      have hD := hD.sub (ws' := [(h0, .inr (6, [.int z_12, .ref rTape, .int rStart, .int rEnd, .int rWide, .ref rRule, .int rNp, .int rNs, .int rAm, .int rAw])), (rTape, .inr (0, [.ref q_13, .int tpS])), (q_13, .inl (cq_14, tpN, .inl tpA)), (ed, .inr (1, [.int 0, .int w3_1, .int w3_2, .int w3_3, .int edTime, .int edClock]))]) [1, 2, 3, 0] (by decide) rfl
      have hK := hK.sub (tys' := [(cq_14, .byte)]) [0] rfl
      refine va_put (D := (dC, dI)) (ci := 1) (v := .int z_11) (ty := .int) (C := REdge) (T := TEdge) (N := 6) hx hb hts in_Edge tyEdge ty_Edge nm_Edge hown hK hP hD hS 3 rfl rfl 3 (by decide) (hts (.fieldLink "ZoneFiles$RuleParser" 145 "ZoneFiles$Edge" "day" "I") m_1_81) (fun _ h9 => h9) rfl (by decide +kernel) rfl rfl (Nat.le_of_ble_eq_true rfl) d_RP_readDay_128 (fun H locs hP hD hS => ?_)
      have hP : va_P (dC, dI) classes [(h0, .inr (6, [.int z_12, .ref rTape, .int rStart, .int rEnd, .int rWide, .ref rRule, .int rNp, .int rNs, .int rAm, .int rAw])), (rTape, .inr (0, [.ref q_13, .int tpS])), (q_13, .inl (cq_14, tpN, .inl tpA)), (ed, .inr (1, [.int 0, .int w3_1, .int w3_2, .int z_11, .int edTime, .int edClock]))] H := hP
      have hD : va_D A [(h0, .inr (6, [.int z_12, .ref rTape, .int rStart, .int rEnd, .int rWide, .ref rRule, .int rNp, .int rNs, .int rAm, .int rAw])), (rTape, .inr (0, [.ref q_13, .int tpS])), (q_13, .inl (cq_14, tpN, .inl tpA)), (ed, .inr (1, [.int 0, .int w3_1, .int w3_2, .int z_11, .int edTime, .int edClock]))] := hD
      refine lv_goto (tgt := 151) hx hb d_RP_readDay_131 (by decide) ?_
      exact k_RP_readDay_151 C0 hST hA hE hf hK hP hD hS (lv_sub hl [1] rfl)
  · have hf := it_t c_2 hf
    refine lv_aload_n hx hb d_RP_readDay_9 rfl (lv_at hl 0 rfl) ?_
    refine lv_dup hx hb d_RP_readDay_10 rfl ?_
    refine va_get (D := (dC, dI)) (ci := 6) (v := .int w0_0) (C := RRuleParser) (T := TRuleParser) (N := 10) hx hb hts in_RuleParser hown hK hP 0 rfl rfl 0 (by decide) (hts (.fieldLink "ZoneFiles$RuleParser" 28 "ZoneFiles$RuleParser" "pos" "I") m_4_51) (fun _ h9 => h9) rfl d_RP_readDay_11 ?_
    refine lv_iconst (v := 1) hx hb d_RP_readDay_14 (by decide) ?_
    refine lv_iadd hx hb d_RP_readDay_15 ?_
    refine va_put (D := (dC, dI)) (ci := 6) (v := .int (w0_0 + 1)) (ty := .int) (C := RRuleParser) (T := TRuleParser) (N := 10) hx hb hts in_RuleParser tyRuleParser ty_RuleParser nm_RuleParser hown hK hP hD hS 0 rfl rfl 0 (by decide) (hts (.fieldLink "ZoneFiles$RuleParser" 28 "ZoneFiles$RuleParser" "pos" "I") m_4_51) (fun _ h9 => h9) rfl (by decide +kernel) rfl rfl (Nat.le_of_ble_eq_true rfl) d_RP_readDay_16 (fun H locs hP hD hS => ?_)
    have hP : va_P (dC, dI) classes [(h0, .inr (6, [.int (w0_0 + 1), .ref rTape, .int rStart, .int rEnd, .int rWide, .ref rRule, .int rNp, .int rNs, .int rAm, .int rAw])), (rTape, .inr (0, [.ref q2, .int tpS])), (q2, .inl (nA2, tpN, .inl tpA)), (ed, .inr (1, [.int w3_0, .int w3_1, .int w3_2, .int w3_3, .int edTime, .int edClock]))] H := hP
    have hD : va_D A [(h0, .inr (6, [.int (w0_0 + 1), .ref rTape, .int rStart, .int rEnd, .int rWide, .ref rRule, .int rNp, .int rNs, .int rAm, .int rAw])), (rTape, .inr (0, [.ref q2, .int tpS])), (q2, .inl (nA2, tpN, .inl tpA)), (ed, .inr (1, [.int w3_0, .int w3_1, .int w3_2, .int w3_3, .int edTime, .int edClock]))] := hD
    refine lv_aload_n hx hb d_RP_readDay_19 rfl (lv_at hl 1 rfl) ?_
    refine lv_iconst (v := 2) hx hb d_RP_readDay_20 (by decide) ?_
    refine va_put (D := (dC, dI)) (ci := 1) (v := .int 2) (ty := .int) (C := REdge) (T := TEdge) (N := 6) hx hb hts in_Edge tyEdge ty_Edge nm_Edge hown hK hP hD hS 3 rfl rfl 0 (by decide) (hts (.fieldLink "ZoneFiles$RuleParser" 132 "ZoneFiles$Edge" "kind" "I") m_1_75) (fun _ h9 => h9) rfl (by decide +kernel) rfl rfl (Nat.le_of_ble_eq_true rfl) d_RP_readDay_21 (fun H locs hP hD hS => ?_)
    have hP : va_P (dC, dI) classes [(h0, .inr (6, [.int (w0_0 + 1), .ref rTape, .int rStart, .int rEnd, .int rWide, .ref rRule, .int rNp, .int rNs, .int rAm, .int rAw])), (rTape, .inr (0, [.ref q2, .int tpS])), (q2, .inl (nA2, tpN, .inl tpA)), (ed, .inr (1, [.int 2, .int w3_1, .int w3_2, .int w3_3, .int edTime, .int edClock]))] H := hP
    have hD : va_D A [(h0, .inr (6, [.int (w0_0 + 1), .ref rTape, .int rStart, .int rEnd, .int rWide, .ref rRule, .int rNp, .int rNs, .int rAm, .int rAw])), (rTape, .inr (0, [.ref q2, .int tpS])), (q2, .inl (nA2, tpN, .inl tpA)), (ed, .inr (1, [.int 2, .int w3_1, .int w3_2, .int w3_3, .int edTime, .int edClock]))] := hD
    refine lv_aload_n hx hb d_RP_readDay_24 rfl (lv_at hl 1 rfl) ?_
    refine lv_aload_n hx hb d_RP_readDay_25 rfl (lv_at hl 0 rfl) ?_
    refine lv_iconst (v := 1) hx hb d_RP_readDay_26 (by decide) ?_
    refine lv_bipush (v := 12) hx hb d_RP_readDay_27 (by decide) ?_
    obtain ⟨⟨z_15, z_16⟩, hc, hf⟩ := ob hf
    have hPc := hP.sub (ws' := [(h0, .inr (6, [.int (w0_0 + 1), .ref rTape, .int rStart, .int rEnd, .int rWide, .ref rRule, .int rNp, .int rNs, .int rAm, .int rAw])), (rTape, .inr (0, [.ref q2, .int tpS])), (q2, .inl (nA2, tpN, .inl tpA))]) [0, 1, 2] rfl
    have hDc := hD.sub (ws' := [(h0, .inr (6, [.int (w0_0 + 1), .ref rTape, .int rStart, .int rEnd, .int rWide, .ref rRule, .int rNp, .int rNs, .int rAm, .int rAw])), (rTape, .inr (0, [.ref q2, .int tpS])), (q2, .inl (nA2, tpN, .inl tpA))]) [0, 1, 2] (by decide) rfl
    have hKc := hK.sub (tys' := [(nA2, .byte)]) [0] rfl
    have hFc := va_free (wc := [(h0, .inr (6, [.int (w0_0 + 1), .ref rTape, .int rStart, .int rEnd, .int rWide, .ref rRule, .int rNp, .int rNs, .int rAm, .int rAw])), (rTape, .inr (0, [.ref q2, .int tpS])), (q2, .inl (nA2, tpN, .inl tpA))]) hD hS hA [0, 1, 2] rfl
    refine cl_M (v := (some (.int z_15))) (st1 := [.int z_15, .ref ed]) (va_runV (As := [.int 1, .int 12]) (rest := [.ref ed]) ⟨hx, hb, hml, hown, hts⟩ (c_RP_readNumber l dC dI h0 rTape rRule q2 nA2 H.size nf 1 12 (w0_0 + 1) rStart rEnd rWide rNp rNs rAm rAw tpS tpN tpA hc) (cwV 2 hts (gdV m_4_115 m_4_117 msel_35 m_1_17 m_4_118) rfl rfl rfl (by decide +kernel) ⟨Nat.le_trans (Nat.le_of_ble_eq_true rfl) hRf, Nat.le_trans (Nat.le_of_ble_eq_true rfl) hRl⟩) ((MU.pre hPc hKc hDc (hST.mu hS hFc)).vir (va_recv hKc hPc (ci := 6) (q0 := 0) rfl rfl)) rfl rfl hl.1 rfl (lv_room (Nat.le_of_ble_eq_true rfl)) d_RP_readDay_29 ⟨Nat.zero_le _, Nat.zero_le _⟩) rfl hS (fun q _ h => hFc q h) hFc (fun t H1 locs ht hvm hB hz1 hk1 hS => ?_)
    obtain ⟨q_17, cq_18, hP1, hK1, hD1⟩ := hB
    rw [ht] at hP1
    have hK1 := va_K.moved hvm.symm hK1
    obtain ⟨hP, hD⟩ := va_join (wr := [(ed, .inr (1, [.int 2, .int w3_1, .int w3_2, .int w3_3, .int edTime, .int edClock]))]) (w1 := [(h0, .inr (6, [.int z_16, .ref rTape, .int rStart, .int rEnd, .int rWide, .ref rRule, .int rNp, .int rNs, .int rAm, .int rAw])), (rTape, .inr (0, [.ref q_17, .int tpS])), (q_17, .inl (cq_18, tpN, .inl tpA))]) hP hD [0, 1, 2] [3] rfl rfl (by decide) (by decide) hk1 hFc hP1 hD1
    have hK := (hK.sub (tys' := []) [] rfl).app hK1
    generalize H1 = H at hP hS ⊢
    have hP := hP.sub (ws' := [(h0, .inr (6, [.int z_16, .ref rTape, .int rStart, .int rEnd, .int rWide, .ref rRule, .int rNp, .int rNs, .int rAm, .int rAw])), (rTape, .inr (0, [.ref q_17, .int tpS])), (q_17, .inl (cq_18, tpN, .inl tpA)), (ed, .inr (1, [.int 2, .int w3_1, .int w3_2, .int w3_3, .int edTime, .int edClock]))]) [1, 2, 3, 0] rfl
    have hD := hD.sub (ws' := [(h0, .inr (6, [.int z_16, .ref rTape, .int rStart, .int rEnd, .int rWide, .ref rRule, .int rNp, .int rNs, .int rAm, .int rAw])), (rTape, .inr (0, [.ref q_17, .int tpS])), (q_17, .inl (cq_18, tpN, .inl tpA)), (ed, .inr (1, [.int 2, .int w3_1, .int w3_2, .int w3_3, .int edTime, .int edClock]))]) [1, 2, 3, 0] (by decide) rfl
    have hK := hK.sub (tys' := [(cq_18, .byte)]) [0] rfl
    refine va_put (D := (dC, dI)) (ci := 1) (v := .int z_15) (ty := .int) (C := REdge) (T := TEdge) (N := 6) hx hb hts in_Edge tyEdge ty_Edge nm_Edge hown hK hP hD hS 3 rfl rfl 1 (by decide) (hts (.fieldLink "ZoneFiles$RuleParser" 139 "ZoneFiles$Edge" "month" "I") m_1_77) (fun _ h9 => h9) rfl (by decide +kernel) rfl rfl (Nat.le_of_ble_eq_true rfl) d_RP_readDay_32 (fun H locs hP hD hS => ?_)
    have hP : va_P (dC, dI) classes [(h0, .inr (6, [.int z_16, .ref rTape, .int rStart, .int rEnd, .int rWide, .ref rRule, .int rNp, .int rNs, .int rAm, .int rAw])), (rTape, .inr (0, [.ref q_17, .int tpS])), (q_17, .inl (cq_18, tpN, .inl tpA)), (ed, .inr (1, [.int 2, .int z_15, .int w3_2, .int w3_3, .int edTime, .int edClock]))] H := hP
    have hD : va_D A [(h0, .inr (6, [.int z_16, .ref rTape, .int rStart, .int rEnd, .int rWide, .ref rRule, .int rNp, .int rNs, .int rAm, .int rAw])), (rTape, .inr (0, [.ref q_17, .int tpS])), (q_17, .inl (cq_18, tpN, .inl tpA)), (ed, .inr (1, [.int 2, .int z_15, .int w3_2, .int w3_3, .int edTime, .int edClock]))] := hD
    refine lv_aload_n hx hb d_RP_readDay_35 rfl (lv_at hl 1 rfl) ?_
    refine va_get (D := (dC, dI)) (ci := 1) (v := .int z_15) (C := REdge) (T := TEdge) (N := 6) hx hb hts in_Edge hown hK hP 3 rfl rfl 1 (by decide) (hts (.fieldLink "ZoneFiles$RuleParser" 139 "ZoneFiles$Edge" "month" "I") m_1_77) (fun _ h9 => h9) rfl d_RP_readDay_36 ?_
    refine lv_if_lt (tgt := 51) hx hb d_RP_readDay_39 (by decide) (fun c_19 => ?_) (fun c_19 => ?_)
    · have hf := it_t c_19 hf
      exact k_RP_readDay_51 C0 hST hA hE hf hK hP hD hS (lv_sub hl [] rfl)
    · have hf := it_f c_19 hf
      refine lv_aload_n hx hb d_RP_readDay_42 rfl (lv_at hl 0 rfl) ?_
      refine lv_bipush (v := 46) hx hb d_RP_readDay_43 (by decide) ?_
      obtain ⟨⟨z_20, z_21⟩, hc, hf⟩ := ob hf
      have hPc := hP.sub (ws' := [(h0, .inr (6, [.int z_16, .ref rTape, .int rStart, .int rEnd, .int rWide, .ref rRule, .int rNp, .int rNs, .int rAm, .int rAw])), (rTape, .inr (0, [.ref q_17, .int tpS])), (q_17, .inl (cq_18, tpN, .inl tpA))]) [0, 1, 2] rfl
      have hDc := hD.sub (ws' := [(h0, .inr (6, [.int z_16, .ref rTape, .int rStart, .int rEnd, .int rWide, .ref rRule, .int rNp, .int rNs, .int rAm, .int rAw])), (rTape, .inr (0, [.ref q_17, .int tpS])), (q_17, .inl (cq_18, tpN, .inl tpA))]) [0, 1, 2] (by decide) rfl
      have hKc := hK.sub (tys' := [(cq_18, .byte)]) [0] rfl
      have hFc := va_free (wc := [(h0, .inr (6, [.int z_16, .ref rTape, .int rStart, .int rEnd, .int rWide, .ref rRule, .int rNp, .int rNs, .int rAm, .int rAw])), (rTape, .inr (0, [.ref q_17, .int tpS])), (q_17, .inl (cq_18, tpN, .inl tpA))]) hD hS hA [0, 1, 2] rfl
      refine cl_M (v := (some (.int z_20))) (st1 := [.int z_20]) (va_runV (As := [.int 46]) (rest := []) ⟨hx, hb, hml, hown, hts⟩ (c_RP_pass l dC dI h0 rTape rRule q_17 cq_18 H.size nf 46 z_16 rStart rEnd rWide rNp rNs rAm rAw tpS tpN tpA hc) (cwV 1 hts (gdV m_4_97 m_4_99 msel_32 m_1_17 m_4_100) rfl rfl rfl (by decide +kernel) ⟨Nat.le_trans (Nat.le_of_ble_eq_true rfl) hRf, Nat.le_trans (Nat.le_of_ble_eq_true rfl) hRl⟩) ((MU.pre hPc hKc hDc (hST.mu hS hFc)).vir (va_recv hKc hPc (ci := 6) (q0 := 0) rfl rfl)) rfl rfl hl.1 rfl (lv_room (Nat.le_of_ble_eq_true rfl)) d_RP_readDay_45 ⟨Nat.zero_le _, Nat.zero_le _⟩) rfl hS (fun q _ h => hFc q h) hFc (fun t H1 locs ht hvm hB hz1 hk1 hS => ?_)
      obtain ⟨q_22, cq_23, hP1, hK1, hD1⟩ := hB
      rw [ht] at hP1
      have hK1 := va_K.moved hvm.symm hK1
      obtain ⟨hP, hD⟩ := va_join (wr := [(ed, .inr (1, [.int 2, .int z_15, .int w3_2, .int w3_3, .int edTime, .int edClock]))]) (w1 := [(h0, .inr (6, [.int z_21, .ref rTape, .int rStart, .int rEnd, .int rWide, .ref rRule, .int rNp, .int rNs, .int rAm, .int rAw])), (rTape, .inr (0, [.ref q_22, .int tpS])), (q_22, .inl (cq_23, tpN, .inl tpA))]) hP hD [0, 1, 2] [3] rfl rfl (by decide) (by decide) hk1 hFc hP1 hD1
      have hK := (hK.sub (tys' := []) [] rfl).app hK1
      generalize H1 = H at hP hS ⊢
      have hP := hP.sub (ws' := [(h0, .inr (6, [.int z_21, .ref rTape, .int rStart, .int rEnd, .int rWide, .ref rRule, .int rNp, .int rNs, .int rAm, .int rAw])), (rTape, .inr (0, [.ref q_22, .int tpS])), (q_22, .inl (cq_23, tpN, .inl tpA)), (ed, .inr (1, [.int 2, .int z_15, .int w3_2, .int w3_3, .int edTime, .int edClock]))]) [1, 2, 3, 0] rfl
      have hD := hD.sub (ws' := [(h0, .inr (6, [.int z_21, .ref rTape, .int rStart, .int rEnd, .int rWide, .ref rRule, .int rNp, .int rNs, .int rAm, .int rAw])), (rTape, .inr (0, [.ref q_22, .int tpS])), (q_22, .inl (cq_23, tpN, .inl tpA)), (ed, .inr (1, [.int 2, .int z_15, .int w3_2, .int w3_3, .int edTime, .int edClock]))]) [1, 2, 3, 0] (by decide) rfl
      have hK := hK.sub (tys' := [(cq_23, .byte)]) [0] rfl
      refine lv_if_ne (tgt := 53) hx hb d_RP_readDay_48 (by decide) (fun c_24 => ?_) (fun c_24 => ?_)
      · have hf := it_f c_24 hf
        refine lv_aload_n hx hb d_RP_readDay_53 rfl (lv_at hl 1 rfl) ?_
        refine lv_aload_n hx hb d_RP_readDay_54 rfl (lv_at hl 0 rfl) ?_
        refine lv_iconst (v := 1) hx hb d_RP_readDay_55 (by decide) ?_
        refine lv_iconst (v := 5) hx hb d_RP_readDay_56 (by decide) ?_
        obtain ⟨⟨z_25, z_26⟩, hc, hf⟩ := ob hf
        have hPc := hP.sub (ws' := [(h0, .inr (6, [.int z_21, .ref rTape, .int rStart, .int rEnd, .int rWide, .ref rRule, .int rNp, .int rNs, .int rAm, .int rAw])), (rTape, .inr (0, [.ref q_22, .int tpS])), (q_22, .inl (cq_23, tpN, .inl tpA))]) [0, 1, 2] rfl
        have hDc := hD.sub (ws' := [(h0, .inr (6, [.int z_21, .ref rTape, .int rStart, .int rEnd, .int rWide, .ref rRule, .int rNp, .int rNs, .int rAm, .int rAw])), (rTape, .inr (0, [.ref q_22, .int tpS])), (q_22, .inl (cq_23, tpN, .inl tpA))]) [0, 1, 2] (by decide) rfl
        have hKc := hK.sub (tys' := [(cq_23, .byte)]) [0] rfl
        have hFc := va_free (wc := [(h0, .inr (6, [.int z_21, .ref rTape, .int rStart, .int rEnd, .int rWide, .ref rRule, .int rNp, .int rNs, .int rAm, .int rAw])), (rTape, .inr (0, [.ref q_22, .int tpS])), (q_22, .inl (cq_23, tpN, .inl tpA))]) hD hS hA [0, 1, 2] rfl
        refine cl_M (v := (some (.int z_25))) (st1 := [.int z_25, .ref ed]) (va_runV (As := [.int 1, .int 5]) (rest := [.ref ed]) ⟨hx, hb, hml, hown, hts⟩ (c_RP_readNumber l dC dI h0 rTape rRule q_22 cq_23 H.size nf 1 5 z_21 rStart rEnd rWide rNp rNs rAm rAw tpS tpN tpA hc) (cwV 2 hts (gdV m_4_115 m_4_117 msel_35 m_1_17 m_4_118) rfl rfl rfl (by decide +kernel) ⟨Nat.le_trans (Nat.le_of_ble_eq_true rfl) hRf, Nat.le_trans (Nat.le_of_ble_eq_true rfl) hRl⟩) ((MU.pre hPc hKc hDc (hST.mu hS hFc)).vir (va_recv hKc hPc (ci := 6) (q0 := 0) rfl rfl)) rfl rfl hl.1 rfl (lv_room (Nat.le_of_ble_eq_true rfl)) d_RP_readDay_57 ⟨Nat.zero_le _, Nat.zero_le _⟩) rfl hS (fun q _ h => hFc q h) hFc (fun t H1 locs ht hvm hB hz1 hk1 hS => ?_)
        obtain ⟨q_27, cq_28, hP1, hK1, hD1⟩ := hB
        rw [ht] at hP1
        have hK1 := va_K.moved hvm.symm hK1
        obtain ⟨hP, hD⟩ := va_join (wr := [(ed, .inr (1, [.int 2, .int z_15, .int w3_2, .int w3_3, .int edTime, .int edClock]))]) (w1 := [(h0, .inr (6, [.int z_26, .ref rTape, .int rStart, .int rEnd, .int rWide, .ref rRule, .int rNp, .int rNs, .int rAm, .int rAw])), (rTape, .inr (0, [.ref q_27, .int tpS])), (q_27, .inl (cq_28, tpN, .inl tpA))]) hP hD [0, 1, 2] [3] rfl rfl (by decide) (by decide) hk1 hFc hP1 hD1
        have hK := (hK.sub (tys' := []) [] rfl).app hK1
        generalize H1 = H at hP hS ⊢
        have hP := hP.sub (ws' := [(h0, .inr (6, [.int z_26, .ref rTape, .int rStart, .int rEnd, .int rWide, .ref rRule, .int rNp, .int rNs, .int rAm, .int rAw])), (rTape, .inr (0, [.ref q_27, .int tpS])), (q_27, .inl (cq_28, tpN, .inl tpA)), (ed, .inr (1, [.int 2, .int z_15, .int w3_2, .int w3_3, .int edTime, .int edClock]))]) [1, 2, 3, 0] rfl
        have hD := hD.sub (ws' := [(h0, .inr (6, [.int z_26, .ref rTape, .int rStart, .int rEnd, .int rWide, .ref rRule, .int rNp, .int rNs, .int rAm, .int rAw])), (rTape, .inr (0, [.ref q_27, .int tpS])), (q_27, .inl (cq_28, tpN, .inl tpA)), (ed, .inr (1, [.int 2, .int z_15, .int w3_2, .int w3_3, .int edTime, .int edClock]))]) [1, 2, 3, 0] (by decide) rfl
        have hK := hK.sub (tys' := [(cq_28, .byte)]) [0] rfl
        refine va_put (D := (dC, dI)) (ci := 1) (v := .int z_25) (ty := .int) (C := REdge) (T := TEdge) (N := 6) hx hb hts in_Edge tyEdge ty_Edge nm_Edge hown hK hP hD hS 3 rfl rfl 2 (by decide) (hts (.fieldLink "ZoneFiles$RuleParser" 142 "ZoneFiles$Edge" "week" "I") m_1_79) (fun _ h9 => h9) rfl (by decide +kernel) rfl rfl (Nat.le_of_ble_eq_true rfl) d_RP_readDay_60 (fun H locs hP hD hS => ?_)
        have hP : va_P (dC, dI) classes [(h0, .inr (6, [.int z_26, .ref rTape, .int rStart, .int rEnd, .int rWide, .ref rRule, .int rNp, .int rNs, .int rAm, .int rAw])), (rTape, .inr (0, [.ref q_27, .int tpS])), (q_27, .inl (cq_28, tpN, .inl tpA)), (ed, .inr (1, [.int 2, .int z_15, .int z_25, .int w3_3, .int edTime, .int edClock]))] H := hP
        have hD : va_D A [(h0, .inr (6, [.int z_26, .ref rTape, .int rStart, .int rEnd, .int rWide, .ref rRule, .int rNp, .int rNs, .int rAm, .int rAw])), (rTape, .inr (0, [.ref q_27, .int tpS])), (q_27, .inl (cq_28, tpN, .inl tpA)), (ed, .inr (1, [.int 2, .int z_15, .int z_25, .int w3_3, .int edTime, .int edClock]))] := hD
        refine lv_aload_n hx hb d_RP_readDay_63 rfl (lv_at hl 1 rfl) ?_
        refine va_get (D := (dC, dI)) (ci := 1) (v := .int z_25) (C := REdge) (T := TEdge) (N := 6) hx hb hts in_Edge hown hK hP 3 rfl rfl 2 (by decide) (hts (.fieldLink "ZoneFiles$RuleParser" 142 "ZoneFiles$Edge" "week" "I") m_1_79) (fun _ h9 => h9) rfl d_RP_readDay_64 ?_
        refine lv_if_lt (tgt := 79) hx hb d_RP_readDay_67 (by decide) (fun c_29 => ?_) (fun c_29 => ?_)
        · have hf := it_t c_29 hf
          exact k_RP_readDay_79 C0 hST hA hE hf hK hP hD hS (lv_sub hl [] rfl)
        · have hf := it_f c_29 hf
          refine lv_aload_n hx hb d_RP_readDay_70 rfl (lv_at hl 0 rfl) ?_
          refine lv_bipush (v := 46) hx hb d_RP_readDay_71 (by decide) ?_
          obtain ⟨⟨z_30, z_31⟩, hc, hf⟩ := ob hf
          have hPc := hP.sub (ws' := [(h0, .inr (6, [.int z_26, .ref rTape, .int rStart, .int rEnd, .int rWide, .ref rRule, .int rNp, .int rNs, .int rAm, .int rAw])), (rTape, .inr (0, [.ref q_27, .int tpS])), (q_27, .inl (cq_28, tpN, .inl tpA))]) [0, 1, 2] rfl
          have hDc := hD.sub (ws' := [(h0, .inr (6, [.int z_26, .ref rTape, .int rStart, .int rEnd, .int rWide, .ref rRule, .int rNp, .int rNs, .int rAm, .int rAw])), (rTape, .inr (0, [.ref q_27, .int tpS])), (q_27, .inl (cq_28, tpN, .inl tpA))]) [0, 1, 2] (by decide) rfl
          have hKc := hK.sub (tys' := [(cq_28, .byte)]) [0] rfl
          have hFc := va_free (wc := [(h0, .inr (6, [.int z_26, .ref rTape, .int rStart, .int rEnd, .int rWide, .ref rRule, .int rNp, .int rNs, .int rAm, .int rAw])), (rTape, .inr (0, [.ref q_27, .int tpS])), (q_27, .inl (cq_28, tpN, .inl tpA))]) hD hS hA [0, 1, 2] rfl
          refine cl_M (v := (some (.int z_30))) (st1 := [.int z_30]) (va_runV (As := [.int 46]) (rest := []) ⟨hx, hb, hml, hown, hts⟩ (c_RP_pass l dC dI h0 rTape rRule q_27 cq_28 H.size nf 46 z_26 rStart rEnd rWide rNp rNs rAm rAw tpS tpN tpA hc) (cwV 1 hts (gdV m_4_97 m_4_99 msel_32 m_1_17 m_4_100) rfl rfl rfl (by decide +kernel) ⟨Nat.le_trans (Nat.le_of_ble_eq_true rfl) hRf, Nat.le_trans (Nat.le_of_ble_eq_true rfl) hRl⟩) ((MU.pre hPc hKc hDc (hST.mu hS hFc)).vir (va_recv hKc hPc (ci := 6) (q0 := 0) rfl rfl)) rfl rfl hl.1 rfl (lv_room (Nat.le_of_ble_eq_true rfl)) d_RP_readDay_73 ⟨Nat.zero_le _, Nat.zero_le _⟩) rfl hS (fun q _ h => hFc q h) hFc (fun t H1 locs ht hvm hB hz1 hk1 hS => ?_)
          obtain ⟨q_32, cq_33, hP1, hK1, hD1⟩ := hB
          rw [ht] at hP1
          have hK1 := va_K.moved hvm.symm hK1
          obtain ⟨hP, hD⟩ := va_join (wr := [(ed, .inr (1, [.int 2, .int z_15, .int z_25, .int w3_3, .int edTime, .int edClock]))]) (w1 := [(h0, .inr (6, [.int z_31, .ref rTape, .int rStart, .int rEnd, .int rWide, .ref rRule, .int rNp, .int rNs, .int rAm, .int rAw])), (rTape, .inr (0, [.ref q_32, .int tpS])), (q_32, .inl (cq_33, tpN, .inl tpA))]) hP hD [0, 1, 2] [3] rfl rfl (by decide) (by decide) hk1 hFc hP1 hD1
          have hK := (hK.sub (tys' := []) [] rfl).app hK1
          generalize H1 = H at hP hS ⊢
          have hP := hP.sub (ws' := [(h0, .inr (6, [.int z_31, .ref rTape, .int rStart, .int rEnd, .int rWide, .ref rRule, .int rNp, .int rNs, .int rAm, .int rAw])), (rTape, .inr (0, [.ref q_32, .int tpS])), (q_32, .inl (cq_33, tpN, .inl tpA)), (ed, .inr (1, [.int 2, .int z_15, .int z_25, .int w3_3, .int edTime, .int edClock]))]) [1, 2, 3, 0] rfl
          have hD := hD.sub (ws' := [(h0, .inr (6, [.int z_31, .ref rTape, .int rStart, .int rEnd, .int rWide, .ref rRule, .int rNp, .int rNs, .int rAm, .int rAw])), (rTape, .inr (0, [.ref q_32, .int tpS])), (q_32, .inl (cq_33, tpN, .inl tpA)), (ed, .inr (1, [.int 2, .int z_15, .int z_25, .int w3_3, .int edTime, .int edClock]))]) [1, 2, 3, 0] (by decide) rfl
          have hK := hK.sub (tys' := [(cq_33, .byte)]) [0] rfl
          refine lv_if_ne (tgt := 81) hx hb d_RP_readDay_76 (by decide) (fun c_34 => ?_) (fun c_34 => ?_)
          · have hf := it_f c_34 hf
            refine lv_aload_n hx hb d_RP_readDay_81 rfl (lv_at hl 1 rfl) ?_
            refine lv_aload_n hx hb d_RP_readDay_82 rfl (lv_at hl 0 rfl) ?_
            refine lv_iconst (v := 0) hx hb d_RP_readDay_83 (by decide) ?_
            refine lv_bipush (v := 6) hx hb d_RP_readDay_84 (by decide) ?_
            obtain ⟨⟨z_35, z_36⟩, hc, hf⟩ := ob hf
            have hPc := hP.sub (ws' := [(h0, .inr (6, [.int z_31, .ref rTape, .int rStart, .int rEnd, .int rWide, .ref rRule, .int rNp, .int rNs, .int rAm, .int rAw])), (rTape, .inr (0, [.ref q_32, .int tpS])), (q_32, .inl (cq_33, tpN, .inl tpA))]) [0, 1, 2] rfl
            have hDc := hD.sub (ws' := [(h0, .inr (6, [.int z_31, .ref rTape, .int rStart, .int rEnd, .int rWide, .ref rRule, .int rNp, .int rNs, .int rAm, .int rAw])), (rTape, .inr (0, [.ref q_32, .int tpS])), (q_32, .inl (cq_33, tpN, .inl tpA))]) [0, 1, 2] (by decide) rfl
            have hKc := hK.sub (tys' := [(cq_33, .byte)]) [0] rfl
            have hFc := va_free (wc := [(h0, .inr (6, [.int z_31, .ref rTape, .int rStart, .int rEnd, .int rWide, .ref rRule, .int rNp, .int rNs, .int rAm, .int rAw])), (rTape, .inr (0, [.ref q_32, .int tpS])), (q_32, .inl (cq_33, tpN, .inl tpA))]) hD hS hA [0, 1, 2] rfl
            refine cl_M (v := (some (.int z_35))) (st1 := [.int z_35, .ref ed]) (va_runV (As := [.int 0, .int 6]) (rest := [.ref ed]) ⟨hx, hb, hml, hown, hts⟩ (c_RP_readNumber l dC dI h0 rTape rRule q_32 cq_33 H.size nf 0 6 z_31 rStart rEnd rWide rNp rNs rAm rAw tpS tpN tpA hc) (cwV 2 hts (gdV m_4_115 m_4_117 msel_35 m_1_17 m_4_118) rfl rfl rfl (by decide +kernel) ⟨Nat.le_trans (Nat.le_of_ble_eq_true rfl) hRf, Nat.le_trans (Nat.le_of_ble_eq_true rfl) hRl⟩) ((MU.pre hPc hKc hDc (hST.mu hS hFc)).vir (va_recv hKc hPc (ci := 6) (q0 := 0) rfl rfl)) rfl rfl hl.1 rfl (lv_room (Nat.le_of_ble_eq_true rfl)) d_RP_readDay_86 ⟨Nat.zero_le _, Nat.zero_le _⟩) rfl hS (fun q _ h => hFc q h) hFc (fun t H1 locs ht hvm hB hz1 hk1 hS => ?_)
            obtain ⟨q_37, cq_38, hP1, hK1, hD1⟩ := hB
            rw [ht] at hP1
            have hK1 := va_K.moved hvm.symm hK1
            obtain ⟨hP, hD⟩ := va_join (wr := [(ed, .inr (1, [.int 2, .int z_15, .int z_25, .int w3_3, .int edTime, .int edClock]))]) (w1 := [(h0, .inr (6, [.int z_36, .ref rTape, .int rStart, .int rEnd, .int rWide, .ref rRule, .int rNp, .int rNs, .int rAm, .int rAw])), (rTape, .inr (0, [.ref q_37, .int tpS])), (q_37, .inl (cq_38, tpN, .inl tpA))]) hP hD [0, 1, 2] [3] rfl rfl (by decide) (by decide) hk1 hFc hP1 hD1
            have hK := (hK.sub (tys' := []) [] rfl).app hK1
            generalize H1 = H at hP hS ⊢
            have hP := hP.sub (ws' := [(h0, .inr (6, [.int z_36, .ref rTape, .int rStart, .int rEnd, .int rWide, .ref rRule, .int rNp, .int rNs, .int rAm, .int rAw])), (rTape, .inr (0, [.ref q_37, .int tpS])), (q_37, .inl (cq_38, tpN, .inl tpA)), (ed, .inr (1, [.int 2, .int z_15, .int z_25, .int w3_3, .int edTime, .int edClock]))]) [1, 2, 3, 0] rfl
            have hD := hD.sub (ws' := [(h0, .inr (6, [.int z_36, .ref rTape, .int rStart, .int rEnd, .int rWide, .ref rRule, .int rNp, .int rNs, .int rAm, .int rAw])), (rTape, .inr (0, [.ref q_37, .int tpS])), (q_37, .inl (cq_38, tpN, .inl tpA)), (ed, .inr (1, [.int 2, .int z_15, .int z_25, .int w3_3, .int edTime, .int edClock]))]) [1, 2, 3, 0] (by decide) rfl
            have hK := hK.sub (tys' := [(cq_38, .byte)]) [0] rfl
            refine va_put (D := (dC, dI)) (ci := 1) (v := .int z_35) (ty := .int) (C := REdge) (T := TEdge) (N := 6) hx hb hts in_Edge tyEdge ty_Edge nm_Edge hown hK hP hD hS 3 rfl rfl 3 (by decide) (hts (.fieldLink "ZoneFiles$RuleParser" 145 "ZoneFiles$Edge" "day" "I") m_1_81) (fun _ h9 => h9) rfl (by decide +kernel) rfl rfl (Nat.le_of_ble_eq_true rfl) d_RP_readDay_89 (fun H locs hP hD hS => ?_)
            have hP : va_P (dC, dI) classes [(h0, .inr (6, [.int z_36, .ref rTape, .int rStart, .int rEnd, .int rWide, .ref rRule, .int rNp, .int rNs, .int rAm, .int rAw])), (rTape, .inr (0, [.ref q_37, .int tpS])), (q_37, .inl (cq_38, tpN, .inl tpA)), (ed, .inr (1, [.int 2, .int z_15, .int z_25, .int z_35, .int edTime, .int edClock]))] H := hP
            have hD : va_D A [(h0, .inr (6, [.int z_36, .ref rTape, .int rStart, .int rEnd, .int rWide, .ref rRule, .int rNp, .int rNs, .int rAm, .int rAw])), (rTape, .inr (0, [.ref q_37, .int tpS])), (q_37, .inl (cq_38, tpN, .inl tpA)), (ed, .inr (1, [.int 2, .int z_15, .int z_25, .int z_35, .int edTime, .int edClock]))] := hD
            refine lv_goto (tgt := 151) hx hb d_RP_readDay_92 (by decide) ?_
            exact k_RP_readDay_151 C0 hST hA hE hf hK hP hD hS (lv_sub hl [1] rfl)
          · have hf := it_t c_34 hf
            exact k_RP_readDay_79 C0 hST hA hE hf hK hP hD hS (lv_sub hl [] rfl)
      · have hf := it_t c_24 hf
        exact k_RP_readDay_51 C0 hST hA hE hf hK hP hD hS (lv_sub hl [] rfl)
end
set_option maxHeartbeats 400000 in
set_option maxRecDepth 100000 in
theorem c_RP_readDay (l : Launch) (dC : Nat → ClassId) (dI : Nat → Nat → Nat) (h0 : Nat) (ed : Nat) (rTape : Nat) (rRule : Nat) (tpR : Nat) (cAtpR : ClassId) (sz : Nat) (nf : Nat) (rPos : Int32) (rStart : Int32) (rEnd : Int32) (rWide : Int32) (rNp : Int32) (rNs : Int32) (rAm : Int32) (rAw : Int32) (tpS : Int32) (tpN : Nat) (tpA : Nat → Int32) (edKind : Int32) (edMonth : Int32) (edWeek : Int32) (edDay : Int32) (edTime : Int32) (edClock : Int32) {r0 : Int32} {v0_0 : Int32} {v3_0 : Int32} {v3_1 : Int32} {v3_2 : Int32} {v3_3 : Int32} (hf : f_RP_readDay nf rPos rEnd tpS tpN tpA edKind edMonth edWeek edDay = some (r0, v0_0, v3_0, v3_1, v3_2, v3_3)) : Met l y_RP_readDay (wd y_RP_readDay b_RP_readDay 2 (some .boolean)) ({ frames := 3, cells := 0, slots := 0, locals := 66 }) (MU dC dI [(h0, .inr (6, [.int rPos, .ref rTape, .int rStart, .int rEnd, .int rWide, .ref rRule, .int rNp, .int rNs, .int rAm, .int rAw])), (rTape, .inr (0, [.ref tpR, .int tpS])), (tpR, .inl (cAtpR, tpN, .inl tpA)), (ed, .inr (1, [.int edKind, .int edMonth, .int edWeek, .int edDay, .int edTime, .int edClock]))] [(cAtpR, .byte)] sz [.ref h0, .ref ed]) (MV (some (.int r0)) (fun t => ∃ (q2 : Nat) (nA2 : ClassId), va_P (dC, dI) classes [(h0, .inr (6, [.int v0_0, .ref rTape, .int rStart, .int rEnd, .int rWide, .ref rRule, .int rNp, .int rNs, .int rAm, .int rAw])), (rTape, .inr (0, [.ref q2, .int tpS])), (q2, .inl (nA2, tpN, .inl tpA)), (ed, .inr (1, [.int v3_0, .int v3_1, .int v3_2, .int v3_3, .int edTime, .int edClock]))] t.heap ∧ va_K (dC, dI) classes [(nA2, .byte)] t ∧ va_D (va_A [(h0, .inr (6, [.int rPos, .ref rTape, .int rStart, .int rEnd, .int rWide, .ref rRule, .int rNp, .int rNs, .int rAm, .int rAw])), (rTape, .inr (0, [.ref tpR, .int tpS])), (tpR, .inl (cAtpR, tpN, .inl tpA)), (ed, .inr (1, [.int edKind, .int edMonth, .int edWeek, .int edDay, .int edTime, .int edClock]))] sz) [(h0, .inr (6, [.int v0_0, .ref rTape, .int rStart, .int rEnd, .int rWide, .ref rRule, .int rNp, .int rNs, .int rAm, .int rAw])), (rTape, .inr (0, [.ref q2, .int tpS])), (q2, .inl (nA2, tpN, .inl tpA)), (ed, .inr (1, [.int v3_0, .int v3_1, .int v3_2, .int v3_3, .int edTime, .int edClock]))]) (va_A [(h0, .inr (6, [.int rPos, .ref rTape, .int rStart, .int rEnd, .int rWide, .ref rRule, .int rNp, .int rNs, .int rAm, .int rAw])), (rTape, .inr (0, [.ref tpR, .int tpS])), (tpR, .inl (cAtpR, tpN, .inl tpA)), (ed, .inr (1, [.int edKind, .int edMonth, .int edWeek, .int edDay, .int edTime, .int edClock]))] sz)) 0 0 (va_A [(h0, .inr (6, [.int rPos, .ref rTape, .int rStart, .int rEnd, .int rWide, .ref rRule, .int rNp, .int rNs, .int rAm, .int rAw])), (rTape, .inr (0, [.ref tpR, .int tpS])), (tpR, .inl (cAtpR, tpN, .inl tpA)), (ed, .inr (1, [.int edKind, .int edMonth, .int edWeek, .int edDay, .int edTime, .int edClock]))] sz) :=
  met_M (plainFor_of_name (by decide)) (Nat.le_of_ble_eq_true rfl) (fun p e R s m args below meth c ls hRc hRs hsz hin C0 hST hK hP hD hl => by
    obtain ⟨hx, hb, hr, hml, hown, hts, hlocks, hRf, hRl⟩ := id C0
    subst hsz
    have hA : ∀ q : Nat, s.heap.size ≤ q → va_A [(h0, .inr (6, [.int rPos, .ref rTape, .int rStart, .int rEnd, .int rWide, .ref rRule, .int rNp, .int rNs, .int rAm, .int rAw])), (rTape, .inr (0, [.ref tpR, .int tpS])), (tpR, .inl (cAtpR, tpN, .inl tpA)), (ed, .inr (1, [.int edKind, .int edMonth, .int edWeek, .int edDay, .int edTime, .int edClock]))] s.heap.size q := fun q h => Or.inr h
    have hS : va_S (va_A [(h0, .inr (6, [.int rPos, .ref rTape, .int rStart, .int rEnd, .int rWide, .ref rRule, .int rNp, .int rNs, .int rAm, .int rAw])), (rTape, .inr (0, [.ref tpR, .int tpS])), (tpR, .inl (cAtpR, tpN, .inl tpA)), (ed, .inr (1, [.int edKind, .int edMonth, .int edWeek, .int edDay, .int edTime, .int edClock]))] s.heap.size) s.heap s.heap [] := va_S.rf
    unfold f_RP_readDay at hf
    exact k_RP_readDay_0 C0 hST hA (fun pc ls {q2} {nA2} H locs hd hn hP hD hS hK => W.zret hx hb hr hn (fun t ht hW => ⟨⟨rfl, ⟨q2, nA2, by rw [ht]; exact hP, va_K.moved hW.alike hK, hD⟩⟩, hS.F ht⟩) hS.2.2 hd) hf hK hP hD hS (lv_sub hl [0, 1] rfl))
-- ZoneFiles$RuleParser.readEdge(LZoneFiles$Edge;)Z
def f_RP_readEdge_17 (nf : Nat) (w0_0 : Int32) (w0_8 : Int32) (w0_9 : Int32) (w3_4 : Int32) (w4_0 : Int32) (w4_1 : Int32) (w4_2 : Int32) (w4_3 : Int32) (w4_4 : Int32) : Option (Int32 × Int32 × Int32 × Int32 × Int32 × Int32 × Int32 × Int32 × Int32 × Int32) :=
  some (0, w0_0, w0_8, w0_9, w3_4, w4_0, w4_1, w4_2, w4_3, w4_4)
def f_RP_readEdge_109 (nf : Nat) (s0 : Int32) (w0_0 : Int32) (w0_8 : Int32) (w0_9 : Int32) (w3_4 : Int32) (w4_0 : Int32) (w4_1 : Int32) (w4_2 : Int32) (w4_3 : Int32) (w4_4 : Int32) : Option (Int32 × Int32 × Int32 × Int32 × Int32 × Int32 × Int32 × Int32 × Int32 × Int32) :=
  if s0 = 0 ∨ s0 = 1 then some (1, w0_0, w0_8, w0_9, s0, w4_0, w4_1, w4_2, w4_3, w4_4) else none
def f_RP_readEdge_104 (nf : Nat) (w0_0 : Int32) (w0_8 : Int32) (w0_9 : Int32) (w3_4 : Int32) (w4_0 : Int32) (w4_1 : Int32) (w4_2 : Int32) (w4_3 : Int32) (w4_4 : Int32) : Option (Int32 × Int32 × Int32 × Int32 × Int32 × Int32 × Int32 × Int32 × Int32 × Int32) :=
  f_RP_readEdge_109 nf 1 w0_0 w0_8 w0_9 w3_4 w4_0 w4_1 w4_2 w4_3 w4_4
def f_RP_readEdge_67 (nf : Nat) (rEnd : Int32) (tpS : Int32) (tpN : Nat) (tpA : Nat → Int32) (s0 : Int32) (s1 : Int32) (w0_0 : Int32) (w0_8 : Int32) (w0_9 : Int32) (w3_4 : Int32) (w4_0 : Int32) (w4_1 : Int32) (w4_2 : Int32) (w4_3 : Int32) (w4_4 : Int32) : Option (Int32 × Int32 × Int32 × Int32 × Int32 × Int32 × Int32 × Int32 × Int32 × Int32) :=
  (f_RP_readAmount nf s1 s0 w0_0 rEnd w0_8 w0_9 tpS tpN tpA).bind fun (z_18, z_19, z_20, z_21) =>
  if z_18 = 0 then
  some (0, z_19, z_20, z_21, w3_4, w4_0, w4_1, w4_2, w4_3, w4_4)
  else
  if w3_4 = 0 then
    if z_21 = 0 then
      f_RP_readEdge_109 nf 0 z_19 z_20 z_21 w3_4 w4_0 w4_1 w4_2 w4_3 z_20
      else
      f_RP_readEdge_104 nf z_19 z_20 z_21 w3_4 w4_0 w4_1 w4_2 w4_3 z_20
    else
    f_RP_readEdge_104 nf z_19 z_20 z_21 w3_4 w4_0 w4_1 w4_2 w4_3 z_20
def f_RP_readEdge_0 (nf : Nat) (rEnd : Int32) (rWide : Int32) (tpS : Int32) (tpN : Nat) (tpA : Nat → Int32) (w0_0 : Int32) (w0_8 : Int32) (w0_9 : Int32) (w3_4 : Int32) (w4_0 : Int32) (w4_1 : Int32) (w4_2 : Int32) (w4_3 : Int32) (w4_4 : Int32) : Option (Int32 × Int32 × Int32 × Int32 × Int32 × Int32 × Int32 × Int32 × Int32 × Int32) :=
  (f_RP_pass nf 44 w0_0 rEnd tpS tpN tpA).bind fun (z_1, z_2) =>
  if z_1 = 0 then
  f_RP_readEdge_17 nf z_2 w0_8 w0_9 w3_4 w4_0 w4_1 w4_2 w4_3 w4_4
  else
  (f_RP_readDay nf z_2 rEnd tpS tpN tpA w4_0 w4_1 w4_2 w4_3).bind fun (z_6, z_7, z_8, z_9, z_10, z_11) =>
    if z_6 = 0 then
    f_RP_readEdge_17 nf z_7 w0_8 w0_9 w3_4 z_8 z_9 z_10 z_11 w4_4
    else
    (f_RP_peek nf z_7 rEnd tpS tpN tpA).bind fun r_15 =>
      if r_15 = (47 : Int32) then
      if rWide = 0 then
        f_RP_readEdge_67 nf rEnd tpS tpN tpA 24 rWide (z_7 + 1) w0_8 w0_9 w3_4 z_8 z_9 z_10 z_11 7200
        else
        f_RP_readEdge_67 nf rEnd tpS tpN tpA 167 rWide (z_7 + 1) w0_8 w0_9 w3_4 z_8 z_9 z_10 z_11 7200
      else
      some (1, z_7, w0_8, w0_9, w3_4, z_8, z_9, z_10, z_11, 7200)
def f_RP_readEdge (nf : Nat) (rPos : Int32) (rEnd : Int32) (rWide : Int32) (rAm : Int32) (rAw : Int32) (tpS : Int32) (tpN : Nat) (tpA : Nat → Int32) (ruWide : Int32) (edKind : Int32) (edMonth : Int32) (edWeek : Int32) (edDay : Int32) (edTime : Int32) : Option (Int32 × Int32 × Int32 × Int32 × Int32 × Int32 × Int32 × Int32 × Int32 × Int32) :=
  f_RP_readEdge_0 nf rEnd rWide tpS tpN tpA rPos rAm rAw ruWide edKind edMonth edWeek edDay edTime
section
variable {p : Program} {l : Launch} {e : Env} {R : Room} {s : State} {m : MethodId} {args : Array Value} {below : List Frame} {meth : Method} {c : Code} {Q : State → Prop} {dC : Nat → ClassId} {dI : Nat → Nat → Nat} {nf : Nat} {A : Nat → Prop}
variable {h0 : Nat} {ed : Nat} {rTape : Nat} {rRule : Nat} {tpR : Nat} {ruT : Nat} {ruB : Nat} {ruE : Nat} {cAtpR : ClassId} {rPos : Int32} {rStart : Int32} {rEnd : Int32} {rWide : Int32} {rNp : Int32} {rNs : Int32} {rAm : Int32} {rAw : Int32} {tpS : Int32} {tpN : Nat} {tpA : Nat → Int32} {ruHas : Int32} {ruWide : Int32} {ruSo : Int32} {ruUo : Int32} {ruSp : Int32} {ruSs : Int32} {ruUp : Int32} {ruUs : Int32} {ruNev : Int32} {edKind : Int32} {edMonth : Int32} {edWeek : Int32} {edDay : Int32} {edTime : Int32} {edClock : Int32} {r0 : Int32} {v0_0 : Int32} {v0_8 : Int32} {v0_9 : Int32} {v3_4 : Int32} {v4_0 : Int32} {v4_1 : Int32} {v4_2 : Int32} {v4_3 : Int32} {v4_4 : Int32}
set_option maxHeartbeats 400000 in
set_option maxRecDepth 100000 in
theorem k_RP_readEdge_17 (C0 : Cx p s m meth c args R b_RP_readEdge "ZoneFiles$RuleParser" 2 (some .boolean) 4 94) (hST : ST A s s.heap) (hA : ∀ q, s.heap.size ≤ q → A q) (hE : ∀ (pc : Nat) (ls : Array Slot) {q2 : Nat} {nA2 : ClassId} (H : Heap) (locs : List Loc), decode b_RP_readEdge pc = .ok (.ireturn, 1) → narrow .boolean (.int r0) = .int r0 → va_P (dC, dI) classes [(h0, .inr (6, [.int v0_0, .ref rTape, .int rStart, .int rEnd, .int rWide, .ref rRule, .int rNp, .int rNs, .int v0_8, .int v0_9])), (rTape, .inr (0, [.ref q2, .int tpS])), (q2, .inl (nA2, tpN, .inl tpA)), (rRule, .inr (5, [.ref ruT, .ref ruB, .ref ruE, .int ruHas, .int v3_4, .int ruSo, .int ruUo, .int ruSp, .int ruSs, .int ruUp, .int ruUs, .int ruNev])), (ed, .inr (1, [.int v4_0, .int v4_1, .int v4_2, .int v4_3, .int v4_4, .int edClock]))] H → va_D A [(h0, .inr (6, [.int v0_0, .ref rTape, .int rStart, .int rEnd, .int rWide, .ref rRule, .int rNp, .int rNs, .int v0_8, .int v0_9])), (rTape, .inr (0, [.ref q2, .int tpS])), (q2, .inl (nA2, tpN, .inl tpA)), (rRule, .inr (5, [.ref ruT, .ref ruB, .ref ruE, .int ruHas, .int v3_4, .int ruSo, .int ruUo, .int ruSp, .int ruSs, .int ruUp, .int ruUs, .int ruNev])), (ed, .inr (1, [.int v4_0, .int v4_1, .int v4_2, .int v4_3, .int v4_4, .int edClock]))] → va_S A s.heap H locs → va_K (dC, dI) classes [(nA2, .byte)] s → W p l e R s m args below meth c H locs 0 0 Q (F0 m pc ls [.int r0])) {w0_0 : Int32} {w0_8 : Int32} {w0_9 : Int32} {w3_4 : Int32} {w4_0 : Int32} {w4_1 : Int32} {w4_2 : Int32} {w4_3 : Int32} {w4_4 : Int32} (hf : f_RP_readEdge_17 nf w0_0 w0_8 w0_9 w3_4 w4_0 w4_1 w4_2 w4_3 w4_4 = some (r0, v0_0, v0_8, v0_9, v3_4, v4_0, v4_1, v4_2, v4_3, v4_4)) {q2 : Nat} {nA2 : ClassId} {H : Heap} {locs : List Loc} {ls : Array Slot} (hK : va_K (dC, dI) classes [(nA2, .byte)] s) (hP : va_P (dC, dI) classes [(h0, .inr (6, [.int w0_0, .ref rTape, .int rStart, .int rEnd, .int rWide, .ref rRule, .int rNp, .int rNs, .int w0_8, .int w0_9])), (rTape, .inr (0, [.ref q2, .int tpS])), (q2, .inl (nA2, tpN, .inl tpA)), (rRule, .inr (5, [.ref ruT, .ref ruB, .ref ruE, .int ruHas, .int w3_4, .int ruSo, .int ruUo, .int ruSp, .int ruSs, .int ruUp, .int ruUs, .int ruNev])), (ed, .inr (1, [.int w4_0, .int w4_1, .int w4_2, .int w4_3, .int w4_4, .int edClock]))] H) (hD : va_D A [(h0, .inr (6, [.int w0_0, .ref rTape, .int rStart, .int rEnd, .int rWide, .ref rRule, .int rNp, .int rNs, .int w0_8, .int w0_9])), (rTape, .inr (0, [.ref q2, .int tpS])), (q2, .inl (nA2, tpN, .inl tpA)), (rRule, .inr (5, [.ref ruT, .ref ruB, .ref ruE, .int ruHas, .int w3_4, .int ruSo, .int ruUo, .int ruSp, .int ruSs, .int ruUp, .int ruUs, .int ruNev])), (ed, .inr (1, [.int w4_0, .int w4_1, .int w4_2, .int w4_3, .int w4_4, .int edClock]))]) (hS : va_S A s.heap H locs) (hl : lv_has ls 2 []) : W p l e R s m args below meth c H locs 0 0 Q (F0 m 17 ls []) := by
  obtain ⟨hx, hb, hr, hml, hown, hts, hlocks, hRf, hRl⟩ := id C0
  obtain ⟨tms, hZms, hTms, tmg, hZmg, hTmg, hNW⟩ := id hST
  unfold f_RP_readEdge_17 at hf
  refine lv_iconst (v := 0) hx hb d_RP_readEdge_17 (by decide) ?_
  cases rs hf
  exact hE _ _ _ _ d_RP_readEdge_18 rfl hP hD hS hK
set_option maxHeartbeats 400000 in
set_option maxRecDepth 100000 in
theorem k_RP_readEdge_109 (C0 : Cx p s m meth c args R b_RP_readEdge "ZoneFiles$RuleParser" 2 (some .boolean) 4 94) (hST : ST A s s.heap) (hA : ∀ q, s.heap.size ≤ q → A q) (hE : ∀ (pc : Nat) (ls : Array Slot) {q2 : Nat} {nA2 : ClassId} (H : Heap) (locs : List Loc), decode b_RP_readEdge pc = .ok (.ireturn, 1) → narrow .boolean (.int r0) = .int r0 → va_P (dC, dI) classes [(h0, .inr (6, [.int v0_0, .ref rTape, .int rStart, .int rEnd, .int rWide, .ref rRule, .int rNp, .int rNs, .int v0_8, .int v0_9])), (rTape, .inr (0, [.ref q2, .int tpS])), (q2, .inl (nA2, tpN, .inl tpA)), (rRule, .inr (5, [.ref ruT, .ref ruB, .ref ruE, .int ruHas, .int v3_4, .int ruSo, .int ruUo, .int ruSp, .int ruSs, .int ruUp, .int ruUs, .int ruNev])), (ed, .inr (1, [.int v4_0, .int v4_1, .int v4_2, .int v4_3, .int v4_4, .int edClock]))] H → va_D A [(h0, .inr (6, [.int v0_0, .ref rTape, .int rStart, .int rEnd, .int rWide, .ref rRule, .int rNp, .int rNs, .int v0_8, .int v0_9])), (rTape, .inr (0, [.ref q2, .int tpS])), (q2, .inl (nA2, tpN, .inl tpA)), (rRule, .inr (5, [.ref ruT, .ref ruB, .ref ruE, .int ruHas, .int v3_4, .int ruSo, .int ruUo, .int ruSp, .int ruSs, .int ruUp, .int ruUs, .int ruNev])), (ed, .inr (1, [.int v4_0, .int v4_1, .int v4_2, .int v4_3, .int v4_4, .int edClock]))] → va_S A s.heap H locs → va_K (dC, dI) classes [(nA2, .byte)] s → W p l e R s m args below meth c H locs 0 0 Q (F0 m pc ls [.int r0])) {s0 : Int32} {w0_0 : Int32} {w0_8 : Int32} {w0_9 : Int32} {w3_4 : Int32} {w4_0 : Int32} {w4_1 : Int32} {w4_2 : Int32} {w4_3 : Int32} {w4_4 : Int32} (hf : f_RP_readEdge_109 nf s0 w0_0 w0_8 w0_9 w3_4 w4_0 w4_1 w4_2 w4_3 w4_4 = some (r0, v0_0, v0_8, v0_9, v3_4, v4_0, v4_1, v4_2, v4_3, v4_4)) {q2 : Nat} {nA2 : ClassId} {H : Heap} {locs : List Loc} {ls : Array Slot} (hK : va_K (dC, dI) classes [(nA2, .byte)] s) (hP : va_P (dC, dI) classes [(h0, .inr (6, [.int w0_0, .ref rTape, .int rStart, .int rEnd, .int rWide, .ref rRule, .int rNp, .int rNs, .int w0_8, .int w0_9])), (rTape, .inr (0, [.ref q2, .int tpS])), (q2, .inl (nA2, tpN, .inl tpA)), (rRule, .inr (5, [.ref ruT, .ref ruB, .ref ruE, .int ruHas, .int w3_4, .int ruSo, .int ruUo, .int ruSp, .int ruSs, .int ruUp, .int ruUs, .int ruNev])), (ed, .inr (1, [.int w4_0, .int w4_1, .int w4_2, .int w4_3, .int w4_4, .int edClock]))] H) (hD : va_D A [(h0, .inr (6, [.int w0_0, .ref rTape, .int rStart, .int rEnd, .int rWide, .ref rRule, .int rNp, .int rNs, .int w0_8, .int w0_9])), (rTape, .inr (0, [.ref q2, .int tpS])), (q2, .inl (nA2, tpN, .inl tpA)), (rRule, .inr (5, [.ref ruT, .ref ruB, .ref ruE, .int ruHas, .int w3_4, .int ruSo, .int ruUo, .int ruSp, .int ruSs, .int ruUp, .int ruUs, .int ruNev])), (ed, .inr (1, [.int w4_0, .int w4_1, .int w4_2, .int w4_3, .int w4_4, .int edClock]))]) (hS : va_S A s.heap H locs) (hl : lv_has ls 2 []) : W p l e R s m args below meth c H locs 0 0 Q (F0 m 109 ls [.int s0, .ref rRule]) := by
  obtain ⟨hx, hb, hr, hml, hown, hts, hlocks, hRf, hRl⟩ := id C0
  obtain ⟨tms, hZms, hTms, tmg, hZmg, hTmg, hNW⟩ := id hST
  unfold f_RP_readEdge_109 at hf
  obtain ⟨c_26, hf⟩ := it_g hf
  refine va_put (D := (dC, dI)) (ci := 5) (v := .int s0) (ty := .boolean) (C := RRule) (T := TRule) (N := 12) hx hb hts in_Rule tyRule ty_Rule nm_Rule hown hK hP hD hS 3 rfl rfl 4 (by decide) (hts (.fieldLink "ZoneFiles$RuleParser" 126 "ZoneFiles$Rule" "needsWide" "Z") m_1_117) (fun _ h9 => h9) rfl (by decide +kernel) (nb_of c_26) (fb_of c_26) (Nat.le_of_ble_eq_true rfl) d_RP_readEdge_109 (fun H locs hP hD hS => ?_)
  have hP : va_P (dC, dI) classes [(h0, .inr (6, [.int w0_0, .ref rTape, .int rStart, .int rEnd, .int rWide, .ref rRule, .int rNp, .int rNs, .int w0_8, .int w0_9])), (rTape, .inr (0, [.ref q2, .int tpS])), (q2, .inl (nA2, tpN, .inl tpA)), (rRule, .inr (5, [.ref ruT, .ref ruB, .ref ruE, .int ruHas, .int s0, .int ruSo, .int ruUo, .int ruSp, .int ruSs, .int ruUp, .int ruUs, .int ruNev])), (ed, .inr (1, [.int w4_0, .int w4_1, .int w4_2, .int w4_3, .int w4_4, .int edClock]))] H := hP
  have hD : va_D A [(h0, .inr (6, [.int w0_0, .ref rTape, .int rStart, .int rEnd, .int rWide, .ref rRule, .int rNp, .int rNs, .int w0_8, .int w0_9])), (rTape, .inr (0, [.ref q2, .int tpS])), (q2, .inl (nA2, tpN, .inl tpA)), (rRule, .inr (5, [.ref ruT, .ref ruB, .ref ruE, .int ruHas, .int s0, .int ruSo, .int ruUo, .int ruSp, .int ruSs, .int ruUp, .int ruUs, .int ruNev])), (ed, .inr (1, [.int w4_0, .int w4_1, .int w4_2, .int w4_3, .int w4_4, .int edClock]))] := hD
  refine lv_iconst (v := 1) hx hb d_RP_readEdge_112 (by decide) ?_
  cases rs hf
  exact hE _ _ _ _ d_RP_readEdge_113 rfl hP hD hS hK
set_option maxHeartbeats 400000 in
set_option maxRecDepth 100000 in
theorem k_RP_readEdge_104 (C0 : Cx p s m meth c args R b_RP_readEdge "ZoneFiles$RuleParser" 2 (some .boolean) 4 94) (hST : ST A s s.heap) (hA : ∀ q, s.heap.size ≤ q → A q) (hE : ∀ (pc : Nat) (ls : Array Slot) {q2 : Nat} {nA2 : ClassId} (H : Heap) (locs : List Loc), decode b_RP_readEdge pc = .ok (.ireturn, 1) → narrow .boolean (.int r0) = .int r0 → va_P (dC, dI) classes [(h0, .inr (6, [.int v0_0, .ref rTape, .int rStart, .int rEnd, .int rWide, .ref rRule, .int rNp, .int rNs, .int v0_8, .int v0_9])), (rTape, .inr (0, [.ref q2, .int tpS])), (q2, .inl (nA2, tpN, .inl tpA)), (rRule, .inr (5, [.ref ruT, .ref ruB, .ref ruE, .int ruHas, .int v3_4, .int ruSo, .int ruUo, .int ruSp, .int ruSs, .int ruUp, .int ruUs, .int ruNev])), (ed, .inr (1, [.int v4_0, .int v4_1, .int v4_2, .int v4_3, .int v4_4, .int edClock]))] H → va_D A [(h0, .inr (6, [.int v0_0, .ref rTape, .int rStart, .int rEnd, .int rWide, .ref rRule, .int rNp, .int rNs, .int v0_8, .int v0_9])), (rTape, .inr (0, [.ref q2, .int tpS])), (q2, .inl (nA2, tpN, .inl tpA)), (rRule, .inr (5, [.ref ruT, .ref ruB, .ref ruE, .int ruHas, .int v3_4, .int ruSo, .int ruUo, .int ruSp, .int ruSs, .int ruUp, .int ruUs, .int ruNev])), (ed, .inr (1, [.int v4_0, .int v4_1, .int v4_2, .int v4_3, .int v4_4, .int edClock]))] → va_S A s.heap H locs → va_K (dC, dI) classes [(nA2, .byte)] s → W p l e R s m args below meth c H locs 0 0 Q (F0 m pc ls [.int r0])) {w0_0 : Int32} {w0_8 : Int32} {w0_9 : Int32} {w3_4 : Int32} {w4_0 : Int32} {w4_1 : Int32} {w4_2 : Int32} {w4_3 : Int32} {w4_4 : Int32} (hf : f_RP_readEdge_104 nf w0_0 w0_8 w0_9 w3_4 w4_0 w4_1 w4_2 w4_3 w4_4 = some (r0, v0_0, v0_8, v0_9, v3_4, v4_0, v4_1, v4_2, v4_3, v4_4)) {q2 : Nat} {nA2 : ClassId} {H : Heap} {locs : List Loc} {ls : Array Slot} (hK : va_K (dC, dI) classes [(nA2, .byte)] s) (hP : va_P (dC, dI) classes [(h0, .inr (6, [.int w0_0, .ref rTape, .int rStart, .int rEnd, .int rWide, .ref rRule, .int rNp, .int rNs, .int w0_8, .int w0_9])), (rTape, .inr (0, [.ref q2, .int tpS])), (q2, .inl (nA2, tpN, .inl tpA)), (rRule, .inr (5, [.ref ruT, .ref ruB, .ref ruE, .int ruHas, .int w3_4, .int ruSo, .int ruUo, .int ruSp, .int ruSs, .int ruUp, .int ruUs, .int ruNev])), (ed, .inr (1, [.int w4_0, .int w4_1, .int w4_2, .int w4_3, .int w4_4, .int edClock]))] H) (hD : va_D A [(h0, .inr (6, [.int w0_0, .ref rTape, .int rStart, .int rEnd, .int rWide, .ref rRule, .int rNp, .int rNs, .int w0_8, .int w0_9])), (rTape, .inr (0, [.ref q2, .int tpS])), (q2, .inl (nA2, tpN, .inl tpA)), (rRule, .inr (5, [.ref ruT, .ref ruB, .ref ruE, .int ruHas, .int w3_4, .int ruSo, .int ruUo, .int ruSp, .int ruSs, .int ruUp, .int ruUs, .int ruNev])), (ed, .inr (1, [.int w4_0, .int w4_1, .int w4_2, .int w4_3, .int w4_4, .int edClock]))]) (hS : va_S A s.heap H locs) (hl : lv_has ls 2 []) : W p l e R s m args below meth c H locs 0 0 Q (F0 m 104 ls [.ref rRule]) := by
  obtain ⟨hx, hb, hr, hml, hown, hts, hlocks, hRf, hRl⟩ := id C0
  obtain ⟨tms, hZms, hTms, tmg, hZmg, hTmg, hNW⟩ := id hST
  unfold f_RP_readEdge_104 at hf
  refine lv_iconst (v := 1) hx hb d_RP_readEdge_104 (by decide) ?_
  refine lv_goto (tgt := 109) hx hb d_RP_readEdge_105 (by decide) ?_
  exact k_RP_readEdge_109 C0 hST hA hE hf hK hP hD hS (lv_sub hl [] rfl)
set_option maxHeartbeats 400000 in
set_option maxRecDepth 100000 in
theorem k_RP_readEdge_67 (C0 : Cx p s m meth c args R b_RP_readEdge "ZoneFiles$RuleParser" 2 (some .boolean) 4 94) (hST : ST A s s.heap) (hA : ∀ q, s.heap.size ≤ q → A q) (hE : ∀ (pc : Nat) (ls : Array Slot) {q2 : Nat} {nA2 : ClassId} (H : Heap) (locs : List Loc), decode b_RP_readEdge pc = .ok (.ireturn, 1) → narrow .boolean (.int r0) = .int r0 → va_P (dC, dI) classes [(h0, .inr (6, [.int v0_0, .ref rTape, .int rStart, .int rEnd, .int rWide, .ref rRule, .int rNp, .int rNs, .int v0_8, .int v0_9])), (rTape, .inr (0, [.ref q2, .int tpS])), (q2, .inl (nA2, tpN, .inl tpA)), (rRule, .inr (5, [.ref ruT, .ref ruB, .ref ruE, .int ruHas, .int v3_4, .int ruSo, .int ruUo, .int ruSp, .int ruSs, .int ruUp, .int ruUs, .int ruNev])), (ed, .inr (1, [.int v4_0, .int v4_1, .int v4_2, .int v4_3, .int v4_4, .int edClock]))] H → va_D A [(h0, .inr (6, [.int v0_0, .ref rTape, .int rStart, .int rEnd, .int rWide, .ref rRule, .int rNp, .int rNs, .int v0_8, .int v0_9])), (rTape, .inr (0, [.ref q2, .int tpS])), (q2, .inl (nA2, tpN, .inl tpA)), (rRule, .inr (5, [.ref ruT, .ref ruB, .ref ruE, .int ruHas, .int v3_4, .int ruSo, .int ruUo, .int ruSp, .int ruSs, .int ruUp, .int ruUs, .int ruNev])), (ed, .inr (1, [.int v4_0, .int v4_1, .int v4_2, .int v4_3, .int v4_4, .int edClock]))] → va_S A s.heap H locs → va_K (dC, dI) classes [(nA2, .byte)] s → W p l e R s m args below meth c H locs 0 0 Q (F0 m pc ls [.int r0])) {s0 : Int32} {s1 : Int32} {w0_0 : Int32} {w0_8 : Int32} {w0_9 : Int32} {w3_4 : Int32} {w4_0 : Int32} {w4_1 : Int32} {w4_2 : Int32} {w4_3 : Int32} {w4_4 : Int32} (hf : f_RP_readEdge_67 nf rEnd tpS tpN tpA s0 s1 w0_0 w0_8 w0_9 w3_4 w4_0 w4_1 w4_2 w4_3 w4_4 = some (r0, v0_0, v0_8, v0_9, v3_4, v4_0, v4_1, v4_2, v4_3, v4_4)) {q2 : Nat} {nA2 : ClassId} {H : Heap} {locs : List Loc} {ls : Array Slot} (hK : va_K (dC, dI) classes [(nA2, .byte)] s) (hP : va_P (dC, dI) classes [(h0, .inr (6, [.int w0_0, .ref rTape, .int rStart, .int rEnd, .int rWide, .ref rRule, .int rNp, .int rNs, .int w0_8, .int w0_9])), (rTape, .inr (0, [.ref q2, .int tpS])), (q2, .inl (nA2, tpN, .inl tpA)), (rRule, .inr (5, [.ref ruT, .ref ruB, .ref ruE, .int ruHas, .int w3_4, .int ruSo, .int ruUo, .int ruSp, .int ruSs, .int ruUp, .int ruUs, .int ruNev])), (ed, .inr (1, [.int w4_0, .int w4_1, .int w4_2, .int w4_3, .int w4_4, .int edClock]))] H) (hD : va_D A [(h0, .inr (6, [.int w0_0, .ref rTape, .int rStart, .int rEnd, .int rWide, .ref rRule, .int rNp, .int rNs, .int w0_8, .int w0_9])), (rTape, .inr (0, [.ref q2, .int tpS])), (q2, .inl (nA2, tpN, .inl tpA)), (rRule, .inr (5, [.ref ruT, .ref ruB, .ref ruE, .int ruHas, .int w3_4, .int ruSo, .int ruUo, .int ruSp, .int ruSs, .int ruUp, .int ruUs, .int ruNev])), (ed, .inr (1, [.int w4_0, .int w4_1, .int w4_2, .int w4_3, .int w4_4, .int edClock]))]) (hS : va_S A s.heap H locs) (hl : lv_has ls 2 [(0, .ref h0), (1, .ref ed)]) : W p l e R s m args below meth c H locs 0 0 Q (F0 m 67 ls [.int s0, .int s1, .ref h0]) := by
  obtain ⟨hx, hb, hr, hml, hown, hts, hlocks, hRf, hRl⟩ := id C0
  obtain ⟨tms, hZms, hTms, tmg, hZmg, hTmg, hNW⟩ := id hST
  unfold f_RP_readEdge_67 at hf
  obtain ⟨⟨z_18, z_19, z_20, z_21⟩, hc, hf⟩ := ob hf
  have hPc := hP.sub (ws' := [(h0, .inr (6, [.int w0_0, .ref rTape, .int rStart, .int rEnd, .int rWide, .ref rRule, .int rNp, .int rNs, .int w0_8, .int w0_9])), (rTape, .inr (0, [.ref q2, .int tpS])), (q2, .inl (nA2, tpN, .inl tpA))]) [0, 1, 2] rfl
  have hDc := hD.sub (ws' := [(h0, .inr (6, [.int w0_0, .ref rTape, .int rStart, .int rEnd, .int rWide, .ref rRule, .int rNp, .int rNs, .int w0_8, .int w0_9])), (rTape, .inr (0, [.ref q2, .int tpS])), (q2, .inl (nA2, tpN, .inl tpA))]) [0, 1, 2] (by decide) rfl
  have hKc := hK.sub (tys' := [(nA2, .byte)]) [0] rfl
  have hFc := va_free (wc := [(h0, .inr (6, [.int w0_0, .ref rTape, .int rStart, .int rEnd, .int rWide, .ref rRule, .int rNp, .int rNs, .int w0_8, .int w0_9])), (rTape, .inr (0, [.ref q2, .int tpS])), (q2, .inl (nA2, tpN, .inl tpA))]) hD hS hA [0, 1, 2] rfl
  refine cl_M (v := (some (.int z_18))) (st1 := [.int z_18]) (va_runV (As := [.int s1, .int s0]) (rest := []) ⟨hx, hb, hml, hown, hts⟩ (c_RP_readAmount l dC dI h0 rTape rRule q2 nA2 H.size nf s1 s0 w0_0 rStart rEnd rWide rNp rNs w0_8 w0_9 tpS tpN tpA hc) (cwV 2 hts (gdV m_4_108 m_4_110 msel_34 m_1_17 m_4_111) rfl rfl rfl (by decide +kernel) ⟨Nat.le_trans (Nat.le_of_ble_eq_true rfl) hRf, Nat.le_trans (Nat.le_of_ble_eq_true rfl) hRl⟩) ((MU.pre hPc hKc hDc (hST.mu hS hFc)).vir (va_recv hKc hPc (ci := 6) (q0 := 0) rfl rfl)) rfl rfl hl.1 rfl (lv_room (Nat.le_of_ble_eq_true rfl)) d_RP_readEdge_67 ⟨Nat.zero_le _, Nat.zero_le _⟩) rfl hS (fun q _ h => hFc q h) hFc (fun t H1 locs ht hvm hB hz1 hk1 hS => ?_)
  obtain ⟨q_22, cq_23, hP1, hK1, hD1⟩ := hB
  rw [ht] at hP1
  have hK1 := va_K.moved hvm.symm hK1
  obtain ⟨hP, hD⟩ := va_join (wr := [(rRule, .inr (5, [.ref ruT, .ref ruB, .ref ruE, .int ruHas, .int w3_4, .int ruSo, .int ruUo, .int ruSp, .int ruSs, .int ruUp, .int ruUs, .int ruNev])), (ed, .inr (1, [.int w4_0, .int w4_1, .int w4_2, .int w4_3, .int w4_4, .int edClock]))]) (w1 := [(h0, .inr (6, [.int z_19, .ref rTape, .int rStart, .int rEnd, .int rWide, .ref rRule, .int rNp, .int rNs, .int z_20, .int z_21])), (rTape, .inr (0, [.ref q_22, .int tpS])), (q_22, .inl (cq_23, tpN, .inl tpA))]) hP hD [0, 1, 2] [3, 4] rfl rfl (by decide) (by decide) hk1 hFc hP1 hD1
  have hK := (hK.sub (tys' := []) [] rfl).app hK1
  generalize H1 = H at hP hS ⊢
  have hP := hP.sub (ws' := [(h0, .inr (6, [.int z_19, .ref rTape, .int rStart, .int rEnd, .int rWide, .ref rRule, .int rNp, .int rNs, .int z_20, .int z_21])), (rTape, .inr (0, [.ref q_22, .int tpS])), (q_22, .inl (cq_23, tpN, .inl tpA)), (rRule, .inr (5, [.ref ruT, .ref ruB, .ref ruE, .int ruHas, .int w3_4, .int ruSo, .int ruUo, .int ruSp, .int ruSs, .int ruUp, .int ruUs, .int ruNev])), (ed, .inr (1, [.int w4_0, .int w4_1, .int w4_2, .int w4_3, .int w4_4, .int edClock]))]) [2, 3, 4, 0, 1] rfl
  have hD := hD.sub (ws' := [(h0, .inr (6, [.int z_19, .ref rTape, .int rStart, .int rEnd, .int rWide, .ref rRule, .int rNp, .int rNs, .int z_20, .int z_21])), (rTape, .inr (0, [.ref q_22, .int tpS])), (q_22, .inl (cq_23, tpN, .inl tpA)), (rRule, .inr (5, [.ref ruT, .ref ruB, .ref ruE, .int ruHas, .int w3_4, .int ruSo, .int ruUo, .int ruSp, .int ruSs, .int ruUp, .int ruUs, .int ruNev])), (ed, .inr (1, [.int w4_0, .int w4_1, .int w4_2, .int w4_3, .int w4_4, .int edClock]))]) [2, 3, 4, 0, 1] (by decide) rfl
  have hK := hK.sub (tys' := [(cq_23, .byte)]) [0] rfl
  refine lv_if_ne (tgt := 75) hx hb d_RP_readEdge_70 (by decide) (fun c_24 => ?_) (fun c_24 => ?_)
  · have hf := it_f c_24 hf
    refine lv_aload_n hx hb d_RP_readEdge_75 rfl (lv_at hl 1 rfl) ?_
    refine lv_aload_n hx hb d_RP_readEdge_76 rfl (lv_at hl 0 rfl) ?_
    refine va_get (D := (dC, dI)) (ci := 6) (v := .int z_20) (C := RRuleParser) (T := TRuleParser) (N := 10) hx hb hts in_RuleParser hown hK hP 0 rfl rfl 8 (by decide) (hts (.fieldLink "ZoneFiles$RuleParser" 95 "ZoneFiles$RuleParser" "amount" "I") m_4_61) (fun _ h9 => h9) rfl d_RP_readEdge_77 ?_
    refine va_put (D := (dC, dI)) (ci := 1) (v := .int z_20) (ty := .int) (C := REdge) (T := TEdge) (N := 6) hx hb hts in_Edge tyEdge ty_Edge nm_Edge hown hK hP hD hS 4 rfl rfl 4 (by decide) (hts (.fieldLink "ZoneFiles$RuleParser" 123 "ZoneFiles$Edge" "timeOfDay" "I") m_1_83) (fun _ h9 => h9) rfl (by decide +kernel) rfl rfl (Nat.le_of_ble_eq_true rfl) d_RP_readEdge_80 (fun H locs hP hD hS => ?_)
    have hP : va_P (dC, dI) classes [(h0, .inr (6, [.int z_19, .ref rTape, .int rStart, .int rEnd, .int rWide, .ref rRule, .int rNp, .int rNs, .int z_20, .int z_21])), (rTape, .inr (0, [.ref q_22, .int tpS])), (q_22, .inl (cq_23, tpN, .inl tpA)), (rRule, .inr (5, [.ref ruT, .ref ruB, .ref ruE, .int ruHas, .int w3_4, .int ruSo, .int ruUo, .int ruSp, .int ruSs, .int ruUp, .int ruUs, .int ruNev])), (ed, .inr (1, [.int w4_0, .int w4_1, .int w4_2, .int w4_3, .int z_20, .int edClock]))] H := hP
    have hD : va_D A [(h0, .inr (6, [.int z_19, .ref rTape, .int rStart, .int rEnd, .int rWide, .ref rRule, .int rNp, .int rNs, .int z_20, .int z_21])), (rTape, .inr (0, [.ref q_22, .int tpS])), (q_22, .inl (cq_23, tpN, .inl tpA)), (rRule, .inr (5, [.ref ruT, .ref ruB, .ref ruE, .int ruHas, .int w3_4, .int ruSo, .int ruUo, .int ruSp, .int ruSs, .int ruUp, .int ruUs, .int ruNev])), (ed, .inr (1, [.int w4_0, .int w4_1, .int w4_2, .int w4_3, .int z_20, .int edClock]))] := hD
    refine lv_aload_n hx hb d_RP_readEdge_83 rfl (lv_at hl 0 rfl) ?_
    refine va_get (D := (dC, dI)) (ci := 6) (v := .ref rRule) (C := RRuleParser) (T := TRuleParser) (N := 10) hx hb hts in_RuleParser hown hK hP 0 rfl rfl 5 (by decide) (hts (.fieldLink "ZoneFiles$RuleParser" 24 "ZoneFiles$RuleParser" "rule" "LZoneFiles$Rule;") m_4_58) (fun _ h9 => h9) rfl d_RP_readEdge_84 ?_
    refine lv_aload_n hx hb d_RP_readEdge_87 rfl (lv_at hl 0 rfl) ?_
    refine va_get (D := (dC, dI)) (ci := 6) (v := .ref rRule) (C := RRuleParser) (T := TRuleParser) (N := 10) hx hb hts in_RuleParser hown hK hP 0 rfl rfl 5 (by decide) (hts (.fieldLink "ZoneFiles$RuleParser" 24 "ZoneFiles$RuleParser" "rule" "LZoneFiles$Rule;") m_4_58) (fun _ h9 => h9) rfl d_RP_readEdge_88 ?_
    refine va_get (D := (dC, dI)) (ci := 5) (v := .int w3_4) (C := RRule) (T := TRule) (N := 12) hx hb hts in_Rule hown hK hP 3 rfl rfl 4 (by decide) (hts (.fieldLink "ZoneFiles$RuleParser" 126 "ZoneFiles$Rule" "needsWide" "Z") m_1_117) (fun _ h9 => h9) rfl d_RP_readEdge_91 ?_
    refine lv_if_ne (tgt := 104) hx hb d_RP_readEdge_94 (by decide) (fun c_25 => ?_) (fun c_25 => ?_)
    · have hf := it_f c_25 hf
      exact k_RP_readEdge_104 C0 hST hA hE hf hK hP hD hS (lv_sub hl [] rfl)
    · have hf := it_t c_25 hf
      refine lv_aload_n hx hb d_RP_readEdge_97 rfl (lv_at hl 0 rfl) ?_
      refine va_get (D := (dC, dI)) (ci := 6) (v := .int z_21) (C := RRuleParser) (T := TRuleParser) (N := 10) hx hb hts in_RuleParser hown hK hP 0 rfl rfl 9 (by decide) (hts (.fieldLink "ZoneFiles$RuleParser" 129 "ZoneFiles$RuleParser" "amountIsWide" "Z") m_4_62) (fun _ h9 => h9) rfl d_RP_readEdge_98 ?_
      refine lv_if_eq (tgt := 108) hx hb d_RP_readEdge_101 (by decide) (fun c_27 => ?_) (fun c_27 => ?_)
      · have hf := it_t c_27 hf
        refine lv_iconst (v := 0) hx hb d_RP_readEdge_108 (by decide) ?_
        exact k_RP_readEdge_109 C0 hST hA hE hf hK hP hD hS (lv_sub hl [] rfl)
      · have hf := it_f c_27 hf
        exact k_RP_readEdge_104 C0 hST hA hE hf hK hP hD hS (lv_sub hl [] rfl)
  · have hf := it_t c_24 hf
    refine lv_iconst (v := 0) hx hb d_RP_readEdge_73 (by decide) ?_
    cases rs hf
    exact hE _ _ _ _ d_RP_readEdge_74 rfl hP hD hS hK
set_option maxHeartbeats 400000 in
set_option maxRecDepth 100000 in
theorem k_RP_readEdge_0 (C0 : Cx p s m meth c args R b_RP_readEdge "ZoneFiles$RuleParser" 2 (some .boolean) 4 94) (hST : ST A s s.heap) (hA : ∀ q, s.heap.size ≤ q → A q) (hE : ∀ (pc : Nat) (ls : Array Slot) {q2 : Nat} {nA2 : ClassId} (H : Heap) (locs : List Loc), decode b_RP_readEdge pc = .ok (.ireturn, 1) → narrow .boolean (.int r0) = .int r0 → va_P (dC, dI) classes [(h0, .inr (6, [.int v0_0, .ref rTape, .int rStart, .int rEnd, .int rWide, .ref rRule, .int rNp, .int rNs, .int v0_8, .int v0_9])), (rTape, .inr (0, [.ref q2, .int tpS])), (q2, .inl (nA2, tpN, .inl tpA)), (rRule, .inr (5, [.ref ruT, .ref ruB, .ref ruE, .int ruHas, .int v3_4, .int ruSo, .int ruUo, .int ruSp, .int ruSs, .int ruUp, .int ruUs, .int ruNev])), (ed, .inr (1, [.int v4_0, .int v4_1, .int v4_2, .int v4_3, .int v4_4, .int edClock]))] H → va_D A [(h0, .inr (6, [.int v0_0, .ref rTape, .int rStart, .int rEnd, .int rWide, .ref rRule, .int rNp, .int rNs, .int v0_8, .int v0_9])), (rTape, .inr (0, [.ref q2, .int tpS])), (q2, .inl (nA2, tpN, .inl tpA)), (rRule, .inr (5, [.ref ruT, .ref ruB, .ref ruE, .int ruHas, .int v3_4, .int ruSo, .int ruUo, .int ruSp, .int ruSs, .int ruUp, .int ruUs, .int ruNev])), (ed, .inr (1, [.int v4_0, .int v4_1, .int v4_2, .int v4_3, .int v4_4, .int edClock]))] → va_S A s.heap H locs → va_K (dC, dI) classes [(nA2, .byte)] s → W p l e R s m args below meth c H locs 0 0 Q (F0 m pc ls [.int r0])) {w0_0 : Int32} {w0_8 : Int32} {w0_9 : Int32} {w3_4 : Int32} {w4_0 : Int32} {w4_1 : Int32} {w4_2 : Int32} {w4_3 : Int32} {w4_4 : Int32} (hf : f_RP_readEdge_0 nf rEnd rWide tpS tpN tpA w0_0 w0_8 w0_9 w3_4 w4_0 w4_1 w4_2 w4_3 w4_4 = some (r0, v0_0, v0_8, v0_9, v3_4, v4_0, v4_1, v4_2, v4_3, v4_4)) {q2 : Nat} {nA2 : ClassId} {H : Heap} {locs : List Loc} {ls : Array Slot} (hK : va_K (dC, dI) classes [(nA2, .byte)] s) (hP : va_P (dC, dI) classes [(h0, .inr (6, [.int w0_0, .ref rTape, .int rStart, .int rEnd, .int rWide, .ref rRule, .int rNp, .int rNs, .int w0_8, .int w0_9])), (rTape, .inr (0, [.ref q2, .int tpS])), (q2, .inl (nA2, tpN, .inl tpA)), (rRule, .inr (5, [.ref ruT, .ref ruB, .ref ruE, .int ruHas, .int w3_4, .int ruSo, .int ruUo, .int ruSp, .int ruSs, .int ruUp, .int ruUs, .int ruNev])), (ed, .inr (1, [.int w4_0, .int w4_1, .int w4_2, .int w4_3, .int w4_4, .int edClock]))] H) (hD : va_D A [(h0, .inr (6, [.int w0_0, .ref rTape, .int rStart, .int rEnd, .int rWide, .ref rRule, .int rNp, .int rNs, .int w0_8, .int w0_9])), (rTape, .inr (0, [.ref q2, .int tpS])), (q2, .inl (nA2, tpN, .inl tpA)), (rRule, .inr (5, [.ref ruT, .ref ruB, .ref ruE, .int ruHas, .int w3_4, .int ruSo, .int ruUo, .int ruSp, .int ruSs, .int ruUp, .int ruUs, .int ruNev])), (ed, .inr (1, [.int w4_0, .int w4_1, .int w4_2, .int w4_3, .int w4_4, .int edClock]))]) (hS : va_S A s.heap H locs) (hl : lv_has ls 2 [(0, .ref h0), (1, .ref ed)]) : W p l e R s m args below meth c H locs 0 0 Q (F0 m 0 ls []) := by
  obtain ⟨hx, hb, hr, hml, hown, hts, hlocks, hRf, hRl⟩ := id C0
  obtain ⟨tms, hZms, hTms, tmg, hZmg, hTmg, hNW⟩ := id hST
  unfold f_RP_readEdge_0 at hf
  refine lv_aload_n hx hb d_RP_readEdge_0 rfl (lv_at hl 0 rfl) ?_
  refine lv_bipush (v := 44) hx hb d_RP_readEdge_1 (by decide) ?_
  obtain ⟨⟨z_1, z_2⟩, hc, hf⟩ := ob hf
  have hPc := hP.sub (ws' := [(h0, .inr (6, [.int w0_0, .ref rTape, .int rStart, .int rEnd, .int rWide, .ref rRule, .int rNp, .int rNs, .int w0_8, .int w0_9])), (rTape, .inr (0, [.ref q2, .int tpS])), (q2, .inl (nA2, tpN, .inl tpA))]) [0, 1, 2] rfl
  have hDc := hD.sub (ws' := [(h0, .inr (6, [.int w0_0, .ref rTape, .int rStart, .int rEnd, .int rWide, .ref rRule, .int rNp, .int rNs, .int w0_8, .int w0_9])), (rTape, .inr (0, [.ref q2, .int tpS])), (q2, .inl (nA2, tpN, .inl tpA))]) [0, 1, 2] (by decide) rfl
  have hKc := hK.sub (tys' := [(nA2, .byte)]) [0] rfl
  have hFc := va_free (wc := [(h0, .inr (6, [.int w0_0, .ref rTape, .int rStart, .int rEnd, .int rWide, .ref rRule, .int rNp, .int rNs, .int w0_8, .int w0_9])), (rTape, .inr (0, [.ref q2, .int tpS])), (q2, .inl (nA2, tpN, .inl tpA))]) hD hS hA [0, 1, 2] rfl
  refine cl_M (v := (some (.int z_1))) (st1 := [.int z_1]) (va_runV (As := [.int 44]) (rest := []) ⟨hx, hb, hml, hown, hts⟩ (c_RP_pass l dC dI h0 rTape rRule q2 nA2 H.size nf 44 w0_0 rStart rEnd rWide rNp rNs w0_8 w0_9 tpS tpN tpA hc) (cwV 1 hts (gdV m_4_97 m_4_99 msel_32 m_1_17 m_4_100) rfl rfl rfl (by decide +kernel) ⟨Nat.le_trans (Nat.le_of_ble_eq_true rfl) hRf, Nat.le_trans (Nat.le_of_ble_eq_true rfl) hRl⟩) ((MU.pre hPc hKc hDc (hST.mu hS hFc)).vir (va_recv hKc hPc (ci := 6) (q0 := 0) rfl rfl)) rfl rfl hl.1 rfl (lv_room (Nat.le_of_ble_eq_true rfl)) d_RP_readEdge_3 ⟨Nat.zero_le _, Nat.zero_le _⟩) rfl hS (fun q _ h => hFc q h) hFc (fun t H1 locs ht hvm hB hz1 hk1 hS => ?_)
  obtain ⟨q_3, cq_4, hP1, hK1, hD1⟩ := hB
  rw [ht] at hP1
  have hK1 := va_K.moved hvm.symm hK1
  obtain ⟨hP, hD⟩ := va_join (wr := [(rRule, .inr (5, [.ref ruT, .ref ruB, .ref ruE, .int ruHas, .int w3_4, .int ruSo, .int ruUo, .int ruSp, .int ruSs, .int ruUp, .int ruUs, .int ruNev])), (ed, .inr (1, [.int w4_0, .int w4_1, .int w4_2, .int w4_3, .int w4_4, .int edClock]))]) (w1 := [(h0, .inr (6, [.int z_2, .ref rTape, .int rStart, .int rEnd, .int rWide, .ref rRule, .int rNp, .int rNs, .int w0_8, .int w0_9])), (rTape, .inr (0, [.ref q_3, .int tpS])), (q_3, .inl (cq_4, tpN, .inl tpA))]) hP hD [0, 1, 2] [3, 4] rfl rfl (by decide) (by decide) hk1 hFc hP1 hD1
  have hK := (hK.sub (tys' := []) [] rfl).app hK1
  generalize H1 = H at hP hS ⊢
  have hP := hP.sub (ws' := [(h0, .inr (6, [.int z_2, .ref rTape, .int rStart, .int rEnd, .int rWide, .ref rRule, .int rNp, .int rNs, .int w0_8, .int w0_9])), (rTape, .inr (0, [.ref q_3, .int tpS])), (q_3, .inl (cq_4, tpN, .inl tpA)), (rRule, .inr (5, [.ref ruT, .ref ruB, .ref ruE, .int ruHas, .int w3_4, .int ruSo, .int ruUo, .int ruSp, .int ruSs, .int ruUp, .int ruUs, .int ruNev])), (ed, .inr (1, [.int w4_0, .int w4_1, .int w4_2, .int w4_3, .int w4_4, .int edClock]))]) [2, 3, 4, 0, 1] rfl
  have hD := hD.sub (ws' := [(h0, .inr (6, [.int z_2, .ref rTape, .int rStart, .int rEnd, .int rWide, .ref rRule, .int rNp, .int rNs, .int w0_8, .int w0_9])), (rTape, .inr (0, [.ref q_3, .int tpS])), (q_3, .inl (cq_4, tpN, .inl tpA)), (rRule, .inr (5, [.ref ruT, .ref ruB, .ref ruE, .int ruHas, .int w3_4, .int ruSo, .int ruUo, .int ruSp, .int ruSs, .int ruUp, .int ruUs, .int ruNev])), (ed, .inr (1, [.int w4_0, .int w4_1, .int w4_2, .int w4_3, .int w4_4, .int edClock]))]) [2, 3, 4, 0, 1] (by decide) rfl
  have hK := hK.sub (tys' := [(cq_4, .byte)]) [0] rfl
  refine lv_if_eq (tgt := 17) hx hb d_RP_readEdge_6 (by decide) (fun c_5 => ?_) (fun c_5 => ?_)
  · have hf := it_t c_5 hf
    exact k_RP_readEdge_17 C0 hST hA hE hf hK hP hD hS (lv_sub hl [] rfl)
  · have hf := it_f c_5 hf
    refine lv_aload_n hx hb d_RP_readEdge_9 rfl (lv_at hl 0 rfl) ?_
    refine lv_aload_n hx hb d_RP_readEdge_10 rfl (lv_at hl 1 rfl) ?_
    obtain ⟨⟨z_6, z_7, z_8, z_9, z_10, z_11⟩, hc, hf⟩ := ob hf
    have hPc := hP.sub (ws' := [(h0, .inr (6, [.int z_2, .ref rTape, .int rStart, .int rEnd, .int rWide, .ref rRule, .int rNp, .int rNs, .int w0_8, .int w0_9])), (rTape, .inr (0, [.ref q_3, .int tpS])), (q_3, .inl (cq_4, tpN, .inl tpA)), (ed, .inr (1, [.int w4_0, .int w4_1, .int w4_2, .int w4_3, .int w4_4, .int edClock]))]) [0, 1, 2, 4] rfl
    have hDc := hD.sub (ws' := [(h0, .inr (6, [.int z_2, .ref rTape, .int rStart, .int rEnd, .int rWide, .ref rRule, .int rNp, .int rNs, .int w0_8, .int w0_9])), (rTape, .inr (0, [.ref q_3, .int tpS])), (q_3, .inl (cq_4, tpN, .inl tpA)), (ed, .inr (1, [.int w4_0, .int w4_1, .int w4_2, .int w4_3, .int w4_4, .int edClock]))]) [0, 1, 2, 4] (by decide) rfl
    have hKc := hK.sub (tys' := [(cq_4, .byte)]) [0] rfl
    have hFc := va_free (wc := [(h0, .inr (6, [.int z_2, .ref rTape, .int rStart, .int rEnd, .int rWide, .ref rRule, .int rNp, .int rNs, .int w0_8, .int w0_9])), (rTape, .inr (0, [.ref q_3, .int tpS])), (q_3, .inl (cq_4, tpN, .inl tpA)), (ed, .inr (1, [.int w4_0, .int w4_1, .int w4_2, .int w4_3, .int w4_4, .int edClock]))]) hD hS hA [0, 1, 2, 4] rfl
    refine cl_M (v := (some (.int z_6))) (st1 := [.int z_6]) (va_runV (As := [.ref ed]) (rest := []) ⟨hx, hb, hml, hown, hts⟩ (c_RP_readDay l dC dI h0 ed rTape rRule q_3 cq_4 H.size nf z_2 rStart rEnd rWide rNp rNs w0_8 w0_9 tpS tpN tpA w4_0 w4_1 w4_2 w4_3 w4_4 edClock hc) (cwV 1 hts (gdV m_4_128 m_4_130 msel_38 m_1_17 m_4_131) rfl rfl rfl (by decide +kernel) ⟨Nat.le_trans (Nat.le_of_ble_eq_true rfl) hRf, Nat.le_trans (Nat.le_of_ble_eq_true rfl) hRl⟩) ((MU.pre hPc hKc hDc (hST.mu hS hFc)).vir (va_recv hKc hPc (ci := 6) (q0 := 0) rfl rfl)) rfl rfl hl.1 rfl (lv_room (Nat.le_of_ble_eq_true rfl)) d_RP_readEdge_11 ⟨Nat.zero_le _, Nat.zero_le _⟩) rfl hS (fun q _ h => hFc q h) hFc (fun t H1 locs ht hvm hB hz1 hk1 hS => ?_)
    obtain ⟨q_12, cq_13, hP1, hK1, hD1⟩ := hB
    rw [ht] at hP1
    have hK1 := va_K.moved hvm.symm hK1
    obtain ⟨hP, hD⟩ := va_join (wr := [(rRule, .inr (5, [.ref ruT, .ref ruB, .ref ruE, .int ruHas, .int w3_4, .int ruSo, .int ruUo, .int ruSp, .int ruSs, .int ruUp, .int ruUs, .int ruNev]))]) (w1 := [(h0, .inr (6, [.int z_7, .ref rTape, .int rStart, .int rEnd, .int rWide, .ref rRule, .int rNp, .int rNs, .int w0_8, .int w0_9])), (rTape, .inr (0, [.ref q_12, .int tpS])), (q_12, .inl (cq_13, tpN, .inl tpA)), (ed, .inr (1, [.int z_8, .int z_9, .int z_10, .int z_11, .int w4_4, .int edClock]))]) hP hD [0, 1, 2, 4] [3] rfl rfl (by decide) (by decide) hk1 hFc hP1 hD1
    have hK := (hK.sub (tys' := []) [] rfl).app hK1
    generalize H1 = H at hP hS ⊢
    have hP := hP.sub (ws' := [(h0, .inr (6, [.int z_7, .ref rTape, .int rStart, .int rEnd, .int rWide, .ref rRule, .int rNp, .int rNs, .int w0_8, .int w0_9])), (rTape, .inr (0, [.ref q_12, .int tpS])), (q_12, .inl (cq_13, tpN, .inl tpA)), (rRule, .inr (5, [.ref ruT, .ref ruB, .ref ruE, .int ruHas, .int w3_4, .int ruSo, .int ruUo, .int ruSp, .int ruSs, .int ruUp, .int ruUs, .int ruNev])), (ed, .inr (1, [.int z_8, .int z_9, .int z_10, .int z_11, .int w4_4, .int edClock]))]) [1, 2, 3, 0, 4] rfl
    have hD := hD.sub (ws' := [(h0, .inr (6, [.int z_7, .ref rTape, .int rStart, .int rEnd, .int rWide, .ref rRule, .int rNp, .int rNs, .int w0_8, .int w0_9])), (rTape, .inr (0, [.ref q_12, .int tpS])), (q_12, .inl (cq_13, tpN, .inl tpA)), (rRule, .inr (5, [.ref ruT, .ref ruB, .ref ruE, .int ruHas, .int w3_4, .int ruSo, .int ruUo, .int ruSp, .int ruSs, .int ruUp, .int ruUs, .int ruNev])), (ed, .inr (1, [.int z_8, .int z_9, .int z_10, .int z_11, .int w4_4, .int edClock]))]) [1, 2, 3, 0, 4] (by decide) rfl
    have hK := hK.sub (tys' := [(cq_13, .byte)]) [0] rfl
    refine lv_if_ne (tgt := 19) hx hb d_RP_readEdge_14 (by decide) (fun c_14 => ?_) (fun c_14 => ?_)
    · have hf := it_f c_14 hf
      refine lv_aload_n hx hb d_RP_readEdge_19 rfl (lv_at hl 1 rfl) ?_
      refine lv_sipush (v := 7200) hx hb d_RP_readEdge_20 (by decide) ?_
      refine va_put (D := (dC, dI)) (ci := 1) (v := .int 7200) (ty := .int) (C := REdge) (T := TEdge) (N := 6) hx hb hts in_Edge tyEdge ty_Edge nm_Edge hown hK hP hD hS 4 rfl rfl 4 (by decide) (hts (.fieldLink "ZoneFiles$RuleParser" 123 "ZoneFiles$Edge" "timeOfDay" "I") m_1_83) (fun _ h9 => h9) rfl (by decide +kernel) rfl rfl (Nat.le_of_ble_eq_true rfl) d_RP_readEdge_23 (fun H locs hP hD hS => ?_)
      have hP : va_P (dC, dI) classes [(h0, .inr (6, [.int z_7, .ref rTape, .int rStart, .int rEnd, .int rWide, .ref rRule, .int rNp, .int rNs, .int w0_8, .int w0_9])), (rTape, .inr (0, [.ref q_12, .int tpS])), (q_12, .inl (cq_13, tpN, .inl tpA)), (rRule, .inr (5, [.ref ruT, .ref ruB, .ref ruE, .int ruHas, .int w3_4, .int ruSo, .int ruUo, .int ruSp, .int ruSs, .int ruUp, .int ruUs, .int ruNev])), (ed, .inr (1, [.int z_8, .int z_9, .int z_10, .int z_11, .int 7200, .int edClock]))] H := hP
      have hD : va_D A [(h0, .inr (6, [.int z_7, .ref rTape, .int rStart, .int rEnd, .int rWide, .ref rRule, .int rNp, .int rNs, .int w0_8, .int w0_9])), (rTape, .inr (0, [.ref q_12, .int tpS])), (q_12, .inl (cq_13, tpN, .inl tpA)), (rRule, .inr (5, [.ref ruT, .ref ruB, .ref ruE, .int ruHas, .int w3_4, .int ruSo, .int ruUo, .int ruSp, .int ruSs, .int ruUp, .int ruUs, .int ruNev])), (ed, .inr (1, [.int z_8, .int z_9, .int z_10, .int z_11, .int 7200, .int edClock]))] := hD
      refine lv_aload_n hx hb d_RP_readEdge_26 rfl (lv_at hl 0 rfl) ?_
      obtain ⟨r_15, hc, hf⟩ := ob hf
      refine cl_S (v := (some (.int r_15))) (st1 := [.int r_15]) (va_runV (As := []) (rest := []) ⟨hx, hb, hml, hown, hts⟩ (c_RP_peek l dC dI h0 rTape rRule q_12 cq_13 nf z_7 rStart rEnd rWide rNp rNs w0_8 w0_9 tpS tpN tpA hc) (cwV 0 hts (gdV m_4_101 m_4_103 msel_33 m_1_17 m_4_104) rfl rfl rfl (by decide +kernel) ⟨Nat.le_trans (Nat.le_of_ble_eq_true rfl) hRf, Nat.le_trans (Nat.le_of_ble_eq_true rfl) hRl⟩) ((RO.pre (hP.sub (ws' := [(h0, .inr (6, [.int z_7, .ref rTape, .int rStart, .int rEnd, .int rWide, .ref rRule, .int rNp, .int rNs, .int w0_8, .int w0_9])), (rTape, .inr (0, [.ref q_12, .int tpS])), (q_12, .inl (cq_13, tpN, .inl tpA))]) [0, 1, 2] rfl) (hK.sub (tys' := [(cq_13, .byte)]) [0] rfl) (hST.ro hS)).vir (va_recv (hK.sub (tys' := [(cq_13, .byte)]) [0] rfl) (hP.sub (ws' := [(h0, .inr (6, [.int z_7, .ref rTape, .int rStart, .int rEnd, .int rWide, .ref rRule, .int rNp, .int rNs, .int w0_8, .int w0_9])), (rTape, .inr (0, [.ref q_12, .int tpS])), (q_12, .inl (cq_13, tpN, .inl tpA))]) [0, 1, 2] rfl) (ci := 6) (q0 := 0) rfl rfl)) rfl rfl hl.1 rfl (lv_room (Nat.le_of_ble_eq_true rfl)) d_RP_readEdge_27 ⟨Nat.zero_le _, Nat.zero_le _⟩) rfl ?_
      refine lv_bipush (v := 47) hx hb d_RP_readEdge_30 (by decide) ?_
      refine lv_icmp_eq (tgt := 37) hx hb d_RP_readEdge_32 (by decide) (fun c_16 => ?_) (fun c_16 => ?_)
      · have hf := it_t c_16 hf
        refine lv_aload_n hx hb d_RP_readEdge_37 rfl (lv_at hl 0 rfl) ?_
        refine lv_dup hx hb d_RP_readEdge_38 rfl ?_
        refine va_get (D := (dC, dI)) (ci := 6) (v := .int z_7) (C := RRuleParser) (T := TRuleParser) (N := 10) hx hb hts in_RuleParser hown hK hP 0 rfl rfl 0 (by decide) (hts (.fieldLink "ZoneFiles$RuleParser" 28 "ZoneFiles$RuleParser" "pos" "I") m_4_51) (fun _ h9 => h9) rfl d_RP_readEdge_39 ?_
        refine lv_iconst (v := 1) hx hb d_RP_readEdge_42 (by decide) ?_
        refine lv_iadd hx hb d_RP_readEdge_43 ?_
        refine va_put (D := (dC, dI)) (ci := 6) (v := .int (z_7 + 1)) (ty := .int) (C := RRuleParser) (T := TRuleParser) (N := 10) hx hb hts in_RuleParser tyRuleParser ty_RuleParser nm_RuleParser hown hK hP hD hS 0 rfl rfl 0 (by decide) (hts (.fieldLink "ZoneFiles$RuleParser" 28 "ZoneFiles$RuleParser" "pos" "I") m_4_51) (fun _ h9 => h9) rfl (by decide +kernel) rfl rfl (Nat.le_of_ble_eq_true rfl) d_RP_readEdge_44 (fun H locs hP hD hS => ?_)
        have hP : va_P (dC, dI) classes [(h0, .inr (6, [.int (z_7 + 1), .ref rTape, .int rStart, .int rEnd, .int rWide, .ref rRule, .int rNp, .int rNs, .int w0_8, .int w0_9])), (rTape, .inr (0, [.ref q_12, .int tpS])), (q_12, .inl (cq_13, tpN, .inl tpA)), (rRule, .inr (5, [.ref ruT, .ref ruB, .ref ruE, .int ruHas, .int w3_4, .int ruSo, .int ruUo, .int ruSp, .int ruSs, .int ruUp, .int ruUs, .int ruNev])), (ed, .inr (1, [.int z_8, .int z_9, .int z_10, .int z_11, .int 7200, .int edClock]))] H := hP
        have hD : va_D A [(h0, .inr (6, [.int (z_7 + 1), .ref rTape, .int rStart, .int rEnd, .int rWide, .ref rRule, .int rNp, .int rNs, .int w0_8, .int w0_9])), (rTape, .inr (0, [.ref q_12, .int tpS])), (q_12, .inl (cq_13, tpN, .inl tpA)), (rRule, .inr (5, [.ref ruT, .ref ruB, .ref ruE, .int ruHas, .int w3_4, .int ruSo, .int ruUo, .int ruSp, .int ruSs, .int ruUp, .int ruUs, .int ruNev])), (ed, .inr (1, [.int z_8, .int z_9, .int z_10, .int z_11, .int 7200, .int edClock]))] := hD
        refine lv_aload_n hx hb d_RP_readEdge_47 rfl (lv_at hl 0 rfl) ?_
        refine lv_aload_n hx hb d_RP_readEdge_48 rfl (lv_at hl 0 rfl) ?_
        refine va_get (D := (dC, dI)) (ci := 6) (v := .int rWide) (C := RRuleParser) (T := TRuleParser) (N := 10) hx hb hts in_RuleParser hown hK hP 0 rfl rfl 4 (by decide) (hts (.fieldLink "ZoneFiles$RuleParser" 20 "ZoneFiles$RuleParser" "wide" "Z") m_4_57) (fun _ h9 => h9) rfl d_RP_readEdge_49 ?_
        refine lv_aload_n hx hb d_RP_readEdge_52 rfl (lv_at hl 0 rfl) ?_
        refine va_get (D := (dC, dI)) (ci := 6) (v := .int rWide) (C := RRuleParser) (T := TRuleParser) (N := 10) hx hb hts in_RuleParser hown hK hP 0 rfl rfl 4 (by decide) (hts (.fieldLink "ZoneFiles$RuleParser" 20 "ZoneFiles$RuleParser" "wide" "Z") m_4_57) (fun _ h9 => h9) rfl d_RP_readEdge_53 ?_
        refine lv_if_eq (tgt := 65) hx hb d_RP_readEdge_56 (by decide) (fun c_17 => ?_) (fun c_17 => ?_)
        · have hf := it_t c_17 hf
          refine lv_bipush (v := 24) hx hb d_RP_readEdge_65 (by decide) ?_
          exact k_RP_readEdge_67 C0 hST hA hE hf hK hP hD hS (lv_sub hl [0, 1] rfl)
        · have hf := it_f c_17 hf
          refine lv_sipush (v := 167) hx hb d_RP_readEdge_59 (by decide) ?_
          refine lv_goto (tgt := 67) hx hb d_RP_readEdge_62 (by decide) ?_
          exact k_RP_readEdge_67 C0 hST hA hE hf hK hP hD hS (lv_sub hl [0, 1] rfl)
      · have hf := it_f c_16 hf
        refine lv_iconst (v := 1) hx hb d_RP_readEdge_35 (by decide) ?_
        cases rs hf
        exact hE _ _ _ _ d_RP_readEdge_36 rfl hP hD hS hK
    · have hf := it_t c_14 hf
      exact k_RP_readEdge_17 C0 hST hA hE hf hK hP hD hS (lv_sub hl [] rfl)
end
set_option maxHeartbeats 400000 in
set_option maxRecDepth 100000 in
theorem c_RP_readEdge (l : Launch) (dC : Nat → ClassId) (dI : Nat → Nat → Nat) (h0 : Nat) (ed : Nat) (rTape : Nat) (rRule : Nat) (tpR : Nat) (ruT : Nat) (ruB : Nat) (ruE : Nat) (cAtpR : ClassId) (sz : Nat) (nf : Nat) (rPos : Int32) (rStart : Int32) (rEnd : Int32) (rWide : Int32) (rNp : Int32) (rNs : Int32) (rAm : Int32) (rAw : Int32) (tpS : Int32) (tpN : Nat) (tpA : Nat → Int32) (ruHas : Int32) (ruWide : Int32) (ruSo : Int32) (ruUo : Int32) (ruSp : Int32) (ruSs : Int32) (ruUp : Int32) (ruUs : Int32) (ruNev : Int32) (edKind : Int32) (edMonth : Int32) (edWeek : Int32) (edDay : Int32) (edTime : Int32) (edClock : Int32) {r0 : Int32} {v0_0 : Int32} {v0_8 : Int32} {v0_9 : Int32} {v3_4 : Int32} {v4_0 : Int32} {v4_1 : Int32} {v4_2 : Int32} {v4_3 : Int32} {v4_4 : Int32} (hf : f_RP_readEdge nf rPos rEnd rWide rAm rAw tpS tpN tpA ruWide edKind edMonth edWeek edDay edTime = some (r0, v0_0, v0_8, v0_9, v3_4, v4_0, v4_1, v4_2, v4_3, v4_4)) : Met l y_RP_readEdge (wd y_RP_readEdge b_RP_readEdge 2 (some .boolean)) ({ frames := 4, cells := 0, slots := 0, locals := 94 }) (MU dC dI [(h0, .inr (6, [.int rPos, .ref rTape, .int rStart, .int rEnd, .int rWide, .ref rRule, .int rNp, .int rNs, .int rAm, .int rAw])), (rTape, .inr (0, [.ref tpR, .int tpS])), (tpR, .inl (cAtpR, tpN, .inl tpA)), (rRule, .inr (5, [.ref ruT, .ref ruB, .ref ruE, .int ruHas, .int ruWide, .int ruSo, .int ruUo, .int ruSp, .int ruSs, .int ruUp, .int ruUs, .int ruNev])), (ed, .inr (1, [.int edKind, .int edMonth, .int edWeek, .int edDay, .int edTime, .int edClock]))] [(cAtpR, .byte)] sz [.ref h0, .ref ed]) (MV (some (.int r0)) (fun t => ∃ (q2 : Nat) (nA2 : ClassId), va_P (dC, dI) classes [(h0, .inr (6, [.int v0_0, .ref rTape, .int rStart, .int rEnd, .int rWide, .ref rRule, .int rNp, .int rNs, .int v0_8, .int v0_9])), (rTape, .inr (0, [.ref q2, .int tpS])), (q2, .inl (nA2, tpN, .inl tpA)), (rRule, .inr (5, [.ref ruT, .ref ruB, .ref ruE, .int ruHas, .int v3_4, .int ruSo, .int ruUo, .int ruSp, .int ruSs, .int ruUp, .int ruUs, .int ruNev])), (ed, .inr (1, [.int v4_0, .int v4_1, .int v4_2, .int v4_3, .int v4_4, .int edClock]))] t.heap ∧ va_K (dC, dI) classes [(nA2, .byte)] t ∧ va_D (va_A [(h0, .inr (6, [.int rPos, .ref rTape, .int rStart, .int rEnd, .int rWide, .ref rRule, .int rNp, .int rNs, .int rAm, .int rAw])), (rTape, .inr (0, [.ref tpR, .int tpS])), (tpR, .inl (cAtpR, tpN, .inl tpA)), (rRule, .inr (5, [.ref ruT, .ref ruB, .ref ruE, .int ruHas, .int ruWide, .int ruSo, .int ruUo, .int ruSp, .int ruSs, .int ruUp, .int ruUs, .int ruNev])), (ed, .inr (1, [.int edKind, .int edMonth, .int edWeek, .int edDay, .int edTime, .int edClock]))] sz) [(h0, .inr (6, [.int v0_0, .ref rTape, .int rStart, .int rEnd, .int rWide, .ref rRule, .int rNp, .int rNs, .int v0_8, .int v0_9])), (rTape, .inr (0, [.ref q2, .int tpS])), (q2, .inl (nA2, tpN, .inl tpA)), (rRule, .inr (5, [.ref ruT, .ref ruB, .ref ruE, .int ruHas, .int v3_4, .int ruSo, .int ruUo, .int ruSp, .int ruSs, .int ruUp, .int ruUs, .int ruNev])), (ed, .inr (1, [.int v4_0, .int v4_1, .int v4_2, .int v4_3, .int v4_4, .int edClock]))]) (va_A [(h0, .inr (6, [.int rPos, .ref rTape, .int rStart, .int rEnd, .int rWide, .ref rRule, .int rNp, .int rNs, .int rAm, .int rAw])), (rTape, .inr (0, [.ref tpR, .int tpS])), (tpR, .inl (cAtpR, tpN, .inl tpA)), (rRule, .inr (5, [.ref ruT, .ref ruB, .ref ruE, .int ruHas, .int ruWide, .int ruSo, .int ruUo, .int ruSp, .int ruSs, .int ruUp, .int ruUs, .int ruNev])), (ed, .inr (1, [.int edKind, .int edMonth, .int edWeek, .int edDay, .int edTime, .int edClock]))] sz)) 0 0 (va_A [(h0, .inr (6, [.int rPos, .ref rTape, .int rStart, .int rEnd, .int rWide, .ref rRule, .int rNp, .int rNs, .int rAm, .int rAw])), (rTape, .inr (0, [.ref tpR, .int tpS])), (tpR, .inl (cAtpR, tpN, .inl tpA)), (rRule, .inr (5, [.ref ruT, .ref ruB, .ref ruE, .int ruHas, .int ruWide, .int ruSo, .int ruUo, .int ruSp, .int ruSs, .int ruUp, .int ruUs, .int ruNev])), (ed, .inr (1, [.int edKind, .int edMonth, .int edWeek, .int edDay, .int edTime, .int edClock]))] sz) :=
  met_M (plainFor_of_name (by decide)) (Nat.le_of_ble_eq_true rfl) (fun p e R s m args below meth c ls hRc hRs hsz hin C0 hST hK hP hD hl => by
    obtain ⟨hx, hb, hr, hml, hown, hts, hlocks, hRf, hRl⟩ := id C0
    subst hsz
    have hA : ∀ q : Nat, s.heap.size ≤ q → va_A [(h0, .inr (6, [.int rPos, .ref rTape, .int rStart, .int rEnd, .int rWide, .ref rRule, .int rNp, .int rNs, .int rAm, .int rAw])), (rTape, .inr (0, [.ref tpR, .int tpS])), (tpR, .inl (cAtpR, tpN, .inl tpA)), (rRule, .inr (5, [.ref ruT, .ref ruB, .ref ruE, .int ruHas, .int ruWide, .int ruSo, .int ruUo, .int ruSp, .int ruSs, .int ruUp, .int ruUs, .int ruNev])), (ed, .inr (1, [.int edKind, .int edMonth, .int edWeek, .int edDay, .int edTime, .int edClock]))] s.heap.size q := fun q h => Or.inr h
    have hS : va_S (va_A [(h0, .inr (6, [.int rPos, .ref rTape, .int rStart, .int rEnd, .int rWide, .ref rRule, .int rNp, .int rNs, .int rAm, .int rAw])), (rTape, .inr (0, [.ref tpR, .int tpS])), (tpR, .inl (cAtpR, tpN, .inl tpA)), (rRule, .inr (5, [.ref ruT, .ref ruB, .ref ruE, .int ruHas, .int ruWide, .int ruSo, .int ruUo, .int ruSp, .int ruSs, .int ruUp, .int ruUs, .int ruNev])), (ed, .inr (1, [.int edKind, .int edMonth, .int edWeek, .int edDay, .int edTime, .int edClock]))] s.heap.size) s.heap s.heap [] := va_S.rf
    unfold f_RP_readEdge at hf
    exact k_RP_readEdge_0 C0 hST hA (fun pc ls {q2} {nA2} H locs hd hn hP hD hS hK => W.zret hx hb hr hn (fun t ht hW => ⟨⟨rfl, ⟨q2, nA2, by rw [ht]; exact hP, va_K.moved hW.alike hK, hD⟩⟩, hS.F ht⟩) hS.2.2 hd) hf hK hP hD hS (lv_sub hl [0, 1] rfl))
-- ZoneFiles$RuleParser.readSummer()Z
def f_RP_readSummer_115 (nf : Nat) (x1 : Int32) (w0_0 : Int32) (w0_6 : Int32) (w0_7 : Int32) (w0_8 : Int32) (w0_9 : Int32) (w3_6 : Int32) (w3_9 : Int32) (w3_10 : Int32) : Option (Int32 × Int32 × Int32 × Int32 × Int32 × Int32 × Int32 × Int32 × Int32) :=
  if x1 = 0 ∨ x1 = 1 then some (x1, w0_0, w0_6, w0_7, w0_8, w0_9, w3_6, w3_9, w3_10) else none
def f_RP_readSummer_90 (nf : Nat) (rEnd : Int32) (tpS : Int32) (tpN : Nat) (tpA : Nat → Int32) (s0 : Int32) (w0_0 : Int32) (w0_6 : Int32) (w0_7 : Int32) (w0_8 : Int32) (w0_9 : Int32) (w3_6 : Int32) (w3_9 : Int32) (w3_10 : Int32) : Option (Int32 × Int32 × Int32 × Int32 × Int32 × Int32 × Int32 × Int32 × Int32) :=
  if s0 = 0 then
  f_RP_readSummer_115 nf s0 w0_0 w0_6 w0_7 w0_8 w0_9 w3_6 w3_9 w3_10
  else
  (f_RP_readAmount nf 1 24 w0_0 rEnd w0_8 w0_9 tpS tpN tpA).bind fun (z_15, z_16, z_17, z_18) =>
    f_RP_readSummer_115 nf z_15 z_16 w0_6 w0_7 z_17 z_18 (-z_17) w3_9 w3_10
def f_RP_readSummer_85 (nf : Nat) (rEnd : Int32) (tpS : Int32) (tpN : Nat) (tpA : Nat → Int32) (w0_0 : Int32) (w0_6 : Int32) (w0_7 : Int32) (w0_8 : Int32) (w0_9 : Int32) (w3_6 : Int32) (w3_9 : Int32) (w3_10 : Int32) : Option (Int32 × Int32 × Int32 × Int32 × Int32 × Int32 × Int32 × Int32 × Int32) :=
  f_RP_readSummer_90 nf rEnd tpS tpN tpA 1 w0_0 w0_6 w0_7 w0_8 w0_9 w3_6 w3_9 w3_10
def f_RP_readSummer_0 (nf : Nat) (rStart : Int32) (rEnd : Int32) (tpS : Int32) (tpN : Nat) (tpA : Nat → Int32) (ruSo : Int32) (w0_0 : Int32) (w0_6 : Int32) (w0_7 : Int32) (w0_8 : Int32) (w0_9 : Int32) (w3_6 : Int32) (w3_9 : Int32) (w3_10 : Int32) : Option (Int32 × Int32 × Int32 × Int32 × Int32 × Int32 × Int32 × Int32 × Int32) :=
  (f_RP_readName nf w0_0 rEnd w0_6 w0_7 tpS tpN tpA).bind fun (z_1, z_2, z_3, z_4) =>
  if z_1 = 0 then
  some (0, z_2, z_3, z_4, w0_8, w0_9, w3_6, w3_9, w3_10)
  else
  (f_RP_peek nf z_2 rEnd tpS tpN tpA).bind fun r_8 =>
    if r_8 = (44 : Int32) then
    some (1, z_2, z_3, z_4, w0_8, w0_9, ruSo + 3600, z_3 - rStart, z_4)
    else
    (f_RP_peek nf z_2 rEnd tpS tpN tpA).bind fun r_10 =>
      (f_RP_isSign nf r_10).bind fun r_11 =>
      if r_11 = 0 then
      (f_RP_peek nf z_2 rEnd tpS tpN tpA).bind fun r_21 =>
        (f_ZF_isDigit nf r_21).bind fun r_22 =>
        if r_22 = 0 then
        f_RP_readSummer_90 nf rEnd tpS tpN tpA 0 z_2 z_3 z_4 w0_8 w0_9 (ruSo + 3600) (z_3 - rStart) z_4
        else
        f_RP_readSummer_85 nf rEnd tpS tpN tpA z_2 z_3 z_4 w0_8 w0_9 (ruSo + 3600) (z_3 - rStart) z_4
      else
      f_RP_readSummer_85 nf rEnd tpS tpN tpA z_2 z_3 z_4 w0_8 w0_9 (ruSo + 3600) (z_3 - rStart) z_4
def f_RP_readSummer (nf : Nat) (rPos : Int32) (rStart : Int32) (rEnd : Int32) (rNp : Int32) (rNs : Int32) (rAm : Int32) (rAw : Int32) (tpS : Int32) (tpN : Nat) (tpA : Nat → Int32) (ruSo : Int32) (ruUo : Int32) (ruUp : Int32) (ruUs : Int32) : Option (Int32 × Int32 × Int32 × Int32 × Int32 × Int32 × Int32 × Int32 × Int32) :=
  f_RP_readSummer_0 nf rStart rEnd tpS tpN tpA ruSo rPos rNp rNs rAm rAw ruUo ruUp ruUs
section
variable {p : Program} {l : Launch} {e : Env} {R : Room} {s : State} {m : MethodId} {args : Array Value} {below : List Frame} {meth : Method} {c : Code} {Q : State → Prop} {dC : Nat → ClassId} {dI : Nat → Nat → Nat} {nf : Nat} {A : Nat → Prop}
variable {h0 : Nat} {rTape : Nat} {rRule : Nat} {tpR : Nat} {ruT : Nat} {ruB : Nat} {ruE : Nat} {cAtpR : ClassId} {rPos : Int32} {rStart : Int32} {rEnd : Int32} {rWide : Int32} {rNp : Int32} {rNs : Int32} {rAm : Int32} {rAw : Int32} {tpS : Int32} {tpN : Nat} {tpA : Nat → Int32} {ruHas : Int32} {ruWide : Int32} {ruSo : Int32} {ruUo : Int32} {ruSp : Int32} {ruSs : Int32} {ruUp : Int32} {ruUs : Int32} {ruNev : Int32} {r0 : Int32} {v0_0 : Int32} {v0_6 : Int32} {v0_7 : Int32} {v0_8 : Int32} {v0_9 : Int32} {v3_6 : Int32} {v3_9 : Int32} {v3_10 : Int32}
set_option maxHeartbeats 400000 in
set_option maxRecDepth 100000 in
theorem k_RP_readSummer_115 (C0 : Cx p s m meth c args R b_RP_readSummer "ZoneFiles$RuleParser" 2 (some .boolean) 4 94) (hST : ST A s s.heap) (hA : ∀ q, s.heap.size ≤ q → A q) (hE : ∀ (pc : Nat) (ls : Array Slot) {q2 : Nat} {nA2 : ClassId} (H : Heap) (locs : List Loc), decode b_RP_readSummer pc = .ok (.ireturn, 1) → narrow .boolean (.int r0) = .int r0 → va_P (dC, dI) classes [(h0, .inr (6, [.int v0_0, .ref rTape, .int rStart, .int rEnd, .int rWide, .ref rRule, .int v0_6, .int v0_7, .int v0_8, .int v0_9])), (rTape, .inr (0, [.ref q2, .int tpS])), (q2, .inl (nA2, tpN, .inl tpA)), (rRule, .inr (5, [.ref ruT, .ref ruB, .ref ruE, .int ruHas, .int ruWide, .int ruSo, .int v3_6, .int ruSp, .int ruSs, .int v3_9, .int v3_10, .int ruNev]))] H → va_D A [(h0, .inr (6, [.int v0_0, .ref rTape, .int rStart, .int rEnd, .int rWide, .ref rRule, .int v0_6, .int v0_7, .int v0_8, .int v0_9])), (rTape, .inr (0, [.ref q2, .int tpS])), (q2, .inl (nA2, tpN, .inl tpA)), (rRule, .inr (5, [.ref ruT, .ref ruB, .ref ruE, .int ruHas, .int ruWide, .int ruSo, .int v3_6, .int ruSp, .int ruSs, .int v3_9, .int v3_10, .int ruNev]))] → va_S A s.heap H locs → va_K (dC, dI) classes [(nA2, .byte)] s → W p l e R s m args below meth c H locs 0 0 Q (F0 m pc ls [.int r0])) {x1 : Int32} {w0_0 : Int32} {w0_6 : Int32} {w0_7 : Int32} {w0_8 : Int32} {w0_9 : Int32} {w3_6 : Int32} {w3_9 : Int32} {w3_10 : Int32} (hf : f_RP_readSummer_115 nf x1 w0_0 w0_6 w0_7 w0_8 w0_9 w3_6 w3_9 w3_10 = some (r0, v0_0, v0_6, v0_7, v0_8, v0_9, v3_6, v3_9, v3_10)) {q2 : Nat} {nA2 : ClassId} {H : Heap} {locs : List Loc} {ls : Array Slot} (hK : va_K (dC, dI) classes [(nA2, .byte)] s) (hP : va_P (dC, dI) classes [(h0, .inr (6, [.int w0_0, .ref rTape, .int rStart, .int rEnd, .int rWide, .ref rRule, .int w0_6, .int w0_7, .int w0_8, .int w0_9])), (rTape, .inr (0, [.ref q2, .int tpS])), (q2, .inl (nA2, tpN, .inl tpA)), (rRule, .inr (5, [.ref ruT, .ref ruB, .ref ruE, .int ruHas, .int ruWide, .int ruSo, .int w3_6, .int ruSp, .int ruSs, .int w3_9, .int w3_10, .int ruNev]))] H) (hD : va_D A [(h0, .inr (6, [.int w0_0, .ref rTape, .int rStart, .int rEnd, .int rWide, .ref rRule, .int w0_6, .int w0_7, .int w0_8, .int w0_9])), (rTape, .inr (0, [.ref q2, .int tpS])), (q2, .inl (nA2, tpN, .inl tpA)), (rRule, .inr (5, [.ref ruT, .ref ruB, .ref ruE, .int ruHas, .int ruWide, .int ruSo, .int w3_6, .int ruSp, .int ruSs, .int w3_9, .int w3_10, .int ruNev]))]) (hS : va_S A s.heap H locs) (hl : lv_has ls 2 [(1, .int x1)]) : W p l e R s m args below meth c H locs 0 0 Q (F0 m 115 ls []) := by
  obtain ⟨hx, hb, hr, hml, hown, hts, hlocks, hRf, hRl⟩ := id C0
  obtain ⟨tms, hZms, hTms, tmg, hZmg, hTmg, hNW⟩ := id hST
  unfold f_RP_readSummer_115 at hf
  refine lv_iload_n hx hb d_RP_readSummer_115 rfl (lv_at hl 0 rfl) ?_
  obtain ⟨c_14, hf⟩ := it_g hf
  cases rs hf
  exact hE _ _ _ _ d_RP_readSummer_116 (nb_of c_14) hP hD hS hK
set_option maxHeartbeats 400000 in
set_option maxRecDepth 100000 in
theorem k_RP_readSummer_90 (C0 : Cx p s m meth c args R b_RP_readSummer "ZoneFiles$RuleParser" 2 (some .boolean) 4 94) (hST : ST A s s.heap) (hA : ∀ q, s.heap.size ≤ q → A q) (hE : ∀ (pc : Nat) (ls : Array Slot) {q2 : Nat} {nA2 : ClassId} (H : Heap) (locs : List Loc), decode b_RP_readSummer pc = .ok (.ireturn, 1) → narrow .boolean (.int r0) = .int r0 → va_P (dC, dI) classes [(h0, .inr (6, [.int v0_0, .ref rTape, .int rStart, .int rEnd, .int rWide, .ref rRule, .int v0_6, .int v0_7, .int v0_8, .int v0_9])), (rTape, .inr (0, [.ref q2, .int tpS])), (q2, .inl (nA2, tpN, .inl tpA)), (rRule, .inr (5, [.ref ruT, .ref ruB, .ref ruE, .int ruHas, .int ruWide, .int ruSo, .int v3_6, .int ruSp, .int ruSs, .int v3_9, .int v3_10, .int ruNev]))] H → va_D A [(h0, .inr (6, [.int v0_0, .ref rTape, .int rStart, .int rEnd, .int rWide, .ref rRule, .int v0_6, .int v0_7, .int v0_8, .int v0_9])), (rTape, .inr (0, [.ref q2, .int tpS])), (q2, .inl (nA2, tpN, .inl tpA)), (rRule, .inr (5, [.ref ruT, .ref ruB, .ref ruE, .int ruHas, .int ruWide, .int ruSo, .int v3_6, .int ruSp, .int ruSs, .int v3_9, .int v3_10, .int ruNev]))] → va_S A s.heap H locs → va_K (dC, dI) classes [(nA2, .byte)] s → W p l e R s m args below meth c H locs 0 0 Q (F0 m pc ls [.int r0])) {s0 : Int32} {w0_0 : Int32} {w0_6 : Int32} {w0_7 : Int32} {w0_8 : Int32} {w0_9 : Int32} {w3_6 : Int32} {w3_9 : Int32} {w3_10 : Int32} (hf : f_RP_readSummer_90 nf rEnd tpS tpN tpA s0 w0_0 w0_6 w0_7 w0_8 w0_9 w3_6 w3_9 w3_10 = some (r0, v0_0, v0_6, v0_7, v0_8, v0_9, v3_6, v3_9, v3_10)) {q2 : Nat} {nA2 : ClassId} {H : Heap} {locs : List Loc} {ls : Array Slot} (hK : va_K (dC, dI) classes [(nA2, .byte)] s) (hP : va_P (dC, dI) classes [(h0, .inr (6, [.int w0_0, .ref rTape, .int rStart, .int rEnd, .int rWide, .ref rRule, .int w0_6, .int w0_7, .int w0_8, .int w0_9])), (rTape, .inr (0, [.ref q2, .int tpS])), (q2, .inl (nA2, tpN, .inl tpA)), (rRule, .inr (5, [.ref ruT, .ref ruB, .ref ruE, .int ruHas, .int ruWide, .int ruSo, .int w3_6, .int ruSp, .int ruSs, .int w3_9, .int w3_10, .int ruNev]))] H) (hD : va_D A [(h0, .inr (6, [.int w0_0, .ref rTape, .int rStart, .int rEnd, .int rWide, .ref rRule, .int w0_6, .int w0_7, .int w0_8, .int w0_9])), (rTape, .inr (0, [.ref q2, .int tpS])), (q2, .inl (nA2, tpN, .inl tpA)), (rRule, .inr (5, [.ref ruT, .ref ruB, .ref ruE, .int ruHas, .int ruWide, .int ruSo, .int w3_6, .int ruSp, .int ruSs, .int w3_9, .int w3_10, .int ruNev]))]) (hS : va_S A s.heap H locs) (hl : lv_has ls 2 [(0, .ref h0)]) : W p l e R s m args below meth c H locs 0 0 Q (F0 m 90 ls [.int s0]) := by
  obtain ⟨hx, hb, hr, hml, hown, hts, hlocks, hRf, hRl⟩ := id C0
  obtain ⟨tms, hZms, hTms, tmg, hZmg, hTmg, hNW⟩ := id hST
  unfold f_RP_readSummer_90 at hf
  refine lv_istore_n (lv' := [(1, .int s0), (0, .ref h0)]) hx hb d_RP_readSummer_90 rfl hl (by decide) rfl (fun ls hl => ?_)
  refine lv_iload_n hx hb d_RP_readSummer_91 rfl (lv_at hl 0 rfl) ?_
  refine lv_if_eq (tgt := 115) hx hb d_RP_readSummer_92 (by decide) (fun c_13 => ?_) (fun c_13 => ?_)
  · have hf := it_t c_13 hf
    exact k_RP_readSummer_115 C0 hST hA hE hf hK hP hD hS (lv_sub hl [0] rfl)
  · have hf := it_f c_13 hf
    refine lv_aload_n hx hb d_RP_readSummer_95 rfl (lv_at hl 1 rfl) ?_
    refine lv_iconst (v := 1) hx hb d_RP_readSummer_96 (by decide) ?_
    refine lv_bipush (v := 24) hx hb d_RP_readSummer_97 (by decide) ?_
    obtain ⟨⟨z_15, z_16, z_17, z_18⟩, hc, hf⟩ := ob hf
    have hPc := hP.sub (ws' := [(h0, .inr (6, [.int w0_0, .ref rTape, .int rStart, .int rEnd, .int rWide, .ref rRule, .int w0_6, .int w0_7, .int w0_8, .int w0_9])), (rTape, .inr (0, [.ref q2, .int tpS])), (q2, .inl (nA2, tpN, .inl tpA))]) [0, 1, 2] rfl
    have hDc := hD.sub (ws' := [(h0, .inr (6, [.int w0_0, .ref rTape, .int rStart, .int rEnd, .int rWide, .ref rRule, .int w0_6, .int w0_7, .int w0_8, .int w0_9])), (rTape, .inr (0, [.ref q2, .int tpS])), (q2, .inl (nA2, tpN, .inl tpA))]) [0, 1, 2] (by decide) rfl
    have hKc := hK.sub (tys' := [(nA2, .byte)]) [0] rfl
    have hFc := va_free (wc := [(h0, .inr (6, [.int w0_0, .ref rTape, .int rStart, .int rEnd, .int rWide, .ref rRule, .int w0_6, .int w0_7, .int w0_8, .int w0_9])), (rTape, .inr (0, [.ref q2, .int tpS])), (q2, .inl (nA2, tpN, .inl tpA))]) hD hS hA [0, 1, 2] rfl
    refine cl_M (v := (some (.int z_15))) (st1 := [.int z_15]) (va_runV (As := [.int 1, .int 24]) (rest := []) ⟨hx, hb, hml, hown, hts⟩ (c_RP_readAmount l dC dI h0 rTape rRule q2 nA2 H.size nf 1 24 w0_0 rStart rEnd rWide w0_6 w0_7 w0_8 w0_9 tpS tpN tpA hc) (cwV 2 hts (gdV m_4_108 m_4_110 msel_34 m_1_17 m_4_111) rfl rfl rfl (by decide +kernel) ⟨Nat.le_trans (Nat.le_of_ble_eq_true rfl) hRf, Nat.le_trans (Nat.le_of_ble_eq_true rfl) hRl⟩) ((MU.pre hPc hKc hDc (hST.mu hS hFc)).vir (va_recv hKc hPc (ci := 6) (q0 := 0) rfl rfl)) rfl rfl hl.1 rfl (lv_room (Nat.le_of_ble_eq_true rfl)) d_RP_readSummer_99 ⟨Nat.zero_le _, Nat.zero_le _⟩) rfl hS (fun q _ h => hFc q h) hFc (fun t H1 locs ht hvm hB hz1 hk1 hS => ?_)
    obtain ⟨q_19, cq_20, hP1, hK1, hD1⟩ := hB
    rw [ht] at hP1
    have hK1 := va_K.moved hvm.symm hK1
    obtain ⟨hP, hD⟩ := va_join (wr := [(rRule, .inr (5, [.ref ruT, .ref ruB, .ref ruE, .int ruHas, .int ruWide, .int ruSo, .int w3_6, .int ruSp, .int ruSs, .int w3_9, .int w3_10, .int ruNev]))]) (w1 := [(h0, .inr (6, [.int z_16, .ref rTape, .int rStart, .int rEnd, .int rWide, .ref rRule, .int w0_6, .int w0_7, .int z_17, .int z_18])), (rTape, .inr (0, [.ref q_19, .int tpS])), (q_19, .inl (cq_20, tpN, .inl tpA))]) hP hD [0, 1, 2] [3] rfl rfl (by decide) (by decide) hk1 hFc hP1 hD1
    have hK := (hK.sub (tys' := []) [] rfl).app hK1
    generalize H1 = H at hP hS ⊢
    have hP := hP.sub (ws' := [(h0, .inr (6, [.int z_16, .ref rTape, .int rStart, .int rEnd, .int rWide, .ref rRule, .int w0_6, .int w0_7, .int z_17, .int z_18])), (rTape, .inr (0, [.ref q_19, .int tpS])), (q_19, .inl (cq_20, tpN, .inl tpA)), (rRule, .inr (5, [.ref ruT, .ref ruB, .ref ruE, .int ruHas, .int ruWide, .int ruSo, .int w3_6, .int ruSp, .int ruSs, .int w3_9, .int w3_10, .int ruNev]))]) [1, 2, 3, 0] rfl
    have hD := hD.sub (ws' := [(h0, .inr (6, [.int z_16, .ref rTape, .int rStart, .int rEnd, .int rWide, .ref rRule, .int w0_6, .int w0_7, .int z_17, .int z_18])), (rTape, .inr (0, [.ref q_19, .int tpS])), (q_19, .inl (cq_20, tpN, .inl tpA)), (rRule, .inr (5, [.ref ruT, .ref ruB, .ref ruE, .int ruHas, .int ruWide, .int ruSo, .int w3_6, .int ruSp, .int ruSs, .int w3_9, .int w3_10, .int ruNev]))]) [1, 2, 3, 0] (by decide) rfl
    have hK := hK.sub (tys' := [(cq_20, .byte)]) [0] rfl
    refine lv_istore_n (lv' := [(1, .int z_15), (0, .ref h0)]) hx hb d_RP_readSummer_102 rfl hl (by decide) rfl (fun ls hl => ?_)
    refine lv_aload_n hx hb d_RP_readSummer_103 rfl (lv_at hl 1 rfl) ?_
    refine va_get (D := (dC, dI)) (ci := 6) (v := .ref rRule) (C := RRuleParser) (T := TRuleParser) (N := 10) hx hb hts in_RuleParser hown hK hP 0 rfl rfl 5 (by decide) (hts (.fieldLink "ZoneFiles$RuleParser" 24 "ZoneFiles$RuleParser" "rule" "LZoneFiles$Rule;") m_4_58) (fun _ h9 => h9) rfl d_RP_readSummer_104 ?_
    refine lv_aload_n hx hb d_RP_readSummer_107 rfl (lv_at hl 1 rfl) ?_
    refine va_get (D := (dC, dI)) (ci := 6) (v := .int z_17) (C := RRuleParser) (T := TRuleParser) (N := 10) hx hb hts in_RuleParser hown hK hP 0 rfl rfl 8 (by decide) (hts (.fieldLink "ZoneFiles$RuleParser" 95 "ZoneFiles$RuleParser" "amount" "I") m_4_61) (fun _ h9 => h9) rfl d_RP_readSummer_108 ?_
    refine lv_ineg hx hb d_RP_readSummer_111 ?_
    refine va_put (D := (dC, dI)) (ci := 5) (v := .int (-z_17)) (ty := .int) (C := RRule) (T := TRule) (N := 12) hx hb hts in_Rule tyRule ty_Rule nm_Rule hown hK hP hD hS 3 rfl rfl 6 (by decide) (hts (.fieldLink "ZoneFiles$RuleParser" 64 "ZoneFiles$Rule" "summerOffset" "I") m_1_123) (fun _ h9 => h9) rfl (by decide +kernel) rfl rfl (Nat.le_of_ble_eq_true rfl) d_RP_readSummer_112 (fun H locs hP hD hS => ?_)
    have hP : va_P (dC, dI) classes [(h0, .inr (6, [.int z_16, .ref rTape, .int rStart, .int rEnd, .int rWide, .ref rRule, .int w0_6, .int w0_7, .int z_17, .int z_18])), (rTape, .inr (0, [.ref q_19, .int tpS])), (q_19, .inl (cq_20, tpN, .inl tpA)), (rRule, .inr (5, [.ref ruT, .ref ruB, .ref ruE, .int ruHas, .int ruWide, .int ruSo, .int (-z_17), .int ruSp, .int ruSs, .int w3_9, .int w3_10, .int ruNev]))] H := hP
    have hD : va_D A [(h0, .inr (6, [.int z_16, .ref rTape, .int rStart, .int rEnd, .int rWide, .ref rRule, .int w0_6, .int w0_7, .int z_17, .int z_18])), (rTape, .inr (0, [.ref q_19, .int tpS])), (q_19, .inl (cq_20, tpN, .inl tpA)), (rRule, .inr (5, [.ref ruT, .ref ruB, .ref ruE, .int ruHas, .int ruWide, .int ruSo, .int (-z_17), .int ruSp, .int ruSs, .int w3_9, .int w3_10, .int ruNev]))] := hD
    exact k_RP_readSummer_115 C0 hST hA hE hf hK hP hD hS (lv_sub hl [0] rfl)
set_option maxHeartbeats 400000 in
set_option maxRecDepth 100000 in
theorem k_RP_readSummer_85 (C0 : Cx p s m meth c args R b_RP_readSummer "ZoneFiles$RuleParser" 2 (some .boolean) 4 94) (hST : ST A s s.heap) (hA : ∀ q, s.heap.size ≤ q → A q) (hE : ∀ (pc : Nat) (ls : Array Slot) {q2 : Nat} {nA2 : ClassId} (H : Heap) (locs : List Loc), decode b_RP_readSummer pc = .ok (.ireturn, 1) → narrow .boolean (.int r0) = .int r0 → va_P (dC, dI) classes [(h0, .inr (6, [.int v0_0, .ref rTape, .int rStart, .int rEnd, .int rWide, .ref rRule, .int v0_6, .int v0_7, .int v0_8, .int v0_9])), (rTape, .inr (0, [.ref q2, .int tpS])), (q2, .inl (nA2, tpN, .inl tpA)), (rRule, .inr (5, [.ref ruT, .ref ruB, .ref ruE, .int ruHas, .int ruWide, .int ruSo, .int v3_6, .int ruSp, .int ruSs, .int v3_9, .int v3_10, .int ruNev]))] H → va_D A [(h0, .inr (6, [.int v0_0, .ref rTape, .int rStart, .int rEnd, .int rWide, .ref rRule, .int v0_6, .int v0_7, .int v0_8, .int v0_9])), (rTape, .inr (0, [.ref q2, .int tpS])), (q2, .inl (nA2, tpN, .inl tpA)), (rRule, .inr (5, [.ref ruT, .ref ruB, .ref ruE, .int ruHas, .int ruWide, .int ruSo, .int v3_6, .int ruSp, .int ruSs, .int v3_9, .int v3_10, .int ruNev]))] → va_S A s.heap H locs → va_K (dC, dI) classes [(nA2, .byte)] s → W p l e R s m args below meth c H locs 0 0 Q (F0 m pc ls [.int r0])) {w0_0 : Int32} {w0_6 : Int32} {w0_7 : Int32} {w0_8 : Int32} {w0_9 : Int32} {w3_6 : Int32} {w3_9 : Int32} {w3_10 : Int32} (hf : f_RP_readSummer_85 nf rEnd tpS tpN tpA w0_0 w0_6 w0_7 w0_8 w0_9 w3_6 w3_9 w3_10 = some (r0, v0_0, v0_6, v0_7, v0_8, v0_9, v3_6, v3_9, v3_10)) {q2 : Nat} {nA2 : ClassId} {H : Heap} {locs : List Loc} {ls : Array Slot} (hK : va_K (dC, dI) classes [(nA2, .byte)] s) (hP : va_P (dC, dI) classes [(h0, .inr (6, [.int w0_0, .ref rTape, .int rStart, .int rEnd, .int rWide, .ref rRule, .int w0_6, .int w0_7, .int w0_8, .int w0_9])), (rTape, .inr (0, [.ref q2, .int tpS])), (q2, .inl (nA2, tpN, .inl tpA)), (rRule, .inr (5, [.ref ruT, .ref ruB, .ref ruE, .int ruHas, .int ruWide, .int ruSo, .int w3_6, .int ruSp, .int ruSs, .int w3_9, .int w3_10, .int ruNev]))] H) (hD : va_D A [(h0, .inr (6, [.int w0_0, .ref rTape, .int rStart, .int rEnd, .int rWide, .ref rRule, .int w0_6, .int w0_7, .int w0_8, .int w0_9])), (rTape, .inr (0, [.ref q2, .int tpS])), (q2, .inl (nA2, tpN, .inl tpA)), (rRule, .inr (5, [.ref ruT, .ref ruB, .ref ruE, .int ruHas, .int ruWide, .int ruSo, .int w3_6, .int ruSp, .int ruSs, .int w3_9, .int w3_10, .int ruNev]))]) (hS : va_S A s.heap H locs) (hl : lv_has ls 2 [(0, .ref h0)]) : W p l e R s m args below meth c H locs 0 0 Q (F0 m 85 ls []) := by
  obtain ⟨hx, hb, hr, hml, hown, hts, hlocks, hRf, hRl⟩ := id C0
  obtain ⟨tms, hZms, hTms, tmg, hZmg, hTmg, hNW⟩ := id hST
  unfold f_RP_readSummer_85 at hf
  refine lv_iconst (v := 1) hx hb d_RP_readSummer_85 (by decide) ?_
  refine lv_goto (tgt := 90) hx hb d_RP_readSummer_86 (by decide) ?_
  exact k_RP_readSummer_90 C0 hST hA hE hf hK hP hD hS (lv_sub hl [0] rfl)
set_option maxHeartbeats 400000 in
set_option maxRecDepth 100000 in
theorem k_RP_readSummer_0 (C0 : Cx p s m meth c args R b_RP_readSummer "ZoneFiles$RuleParser" 2 (some .boolean) 4 94) (hST : ST A s s.heap) (hA : ∀ q, s.heap.size ≤ q → A q) (hE : ∀ (pc : Nat) (ls : Array Slot) {q2 : Nat} {nA2 : ClassId} (H : Heap) (locs : List Loc), decode b_RP_readSummer pc = .ok (.ireturn, 1) → narrow .boolean (.int r0) = .int r0 → va_P (dC, dI) classes [(h0, .inr (6, [.int v0_0, .ref rTape, .int rStart, .int rEnd, .int rWide, .ref rRule, .int v0_6, .int v0_7, .int v0_8, .int v0_9])), (rTape, .inr (0, [.ref q2, .int tpS])), (q2, .inl (nA2, tpN, .inl tpA)), (rRule, .inr (5, [.ref ruT, .ref ruB, .ref ruE, .int ruHas, .int ruWide, .int ruSo, .int v3_6, .int ruSp, .int ruSs, .int v3_9, .int v3_10, .int ruNev]))] H → va_D A [(h0, .inr (6, [.int v0_0, .ref rTape, .int rStart, .int rEnd, .int rWide, .ref rRule, .int v0_6, .int v0_7, .int v0_8, .int v0_9])), (rTape, .inr (0, [.ref q2, .int tpS])), (q2, .inl (nA2, tpN, .inl tpA)), (rRule, .inr (5, [.ref ruT, .ref ruB, .ref ruE, .int ruHas, .int ruWide, .int ruSo, .int v3_6, .int ruSp, .int ruSs, .int v3_9, .int v3_10, .int ruNev]))] → va_S A s.heap H locs → va_K (dC, dI) classes [(nA2, .byte)] s → W p l e R s m args below meth c H locs 0 0 Q (F0 m pc ls [.int r0])) {w0_0 : Int32} {w0_6 : Int32} {w0_7 : Int32} {w0_8 : Int32} {w0_9 : Int32} {w3_6 : Int32} {w3_9 : Int32} {w3_10 : Int32} (hf : f_RP_readSummer_0 nf rStart rEnd tpS tpN tpA ruSo w0_0 w0_6 w0_7 w0_8 w0_9 w3_6 w3_9 w3_10 = some (r0, v0_0, v0_6, v0_7, v0_8, v0_9, v3_6, v3_9, v3_10)) {q2 : Nat} {nA2 : ClassId} {H : Heap} {locs : List Loc} {ls : Array Slot} (hK : va_K (dC, dI) classes [(nA2, .byte)] s) (hP : va_P (dC, dI) classes [(h0, .inr (6, [.int w0_0, .ref rTape, .int rStart, .int rEnd, .int rWide, .ref rRule, .int w0_6, .int w0_7, .int w0_8, .int w0_9])), (rTape, .inr (0, [.ref q2, .int tpS])), (q2, .inl (nA2, tpN, .inl tpA)), (rRule, .inr (5, [.ref ruT, .ref ruB, .ref ruE, .int ruHas, .int ruWide, .int ruSo, .int w3_6, .int ruSp, .int ruSs, .int w3_9, .int w3_10, .int ruNev]))] H) (hD : va_D A [(h0, .inr (6, [.int w0_0, .ref rTape, .int rStart, .int rEnd, .int rWide, .ref rRule, .int w0_6, .int w0_7, .int w0_8, .int w0_9])), (rTape, .inr (0, [.ref q2, .int tpS])), (q2, .inl (nA2, tpN, .inl tpA)), (rRule, .inr (5, [.ref ruT, .ref ruB, .ref ruE, .int ruHas, .int ruWide, .int ruSo, .int w3_6, .int ruSp, .int ruSs, .int w3_9, .int w3_10, .int ruNev]))]) (hS : va_S A s.heap H locs) (hl : lv_has ls 2 [(0, .ref h0)]) : W p l e R s m args below meth c H locs 0 0 Q (F0 m 0 ls []) := by
  obtain ⟨hx, hb, hr, hml, hown, hts, hlocks, hRf, hRl⟩ := id C0
  obtain ⟨tms, hZms, hTms, tmg, hZmg, hTmg, hNW⟩ := id hST
  unfold f_RP_readSummer_0 at hf
  refine lv_aload_n hx hb d_RP_readSummer_0 rfl (lv_at hl 0 rfl) ?_
  obtain ⟨⟨z_1, z_2, z_3, z_4⟩, hc, hf⟩ := ob hf
  have hPc := hP.sub (ws' := [(h0, .inr (6, [.int w0_0, .ref rTape, .int rStart, .int rEnd, .int rWide, .ref rRule, .int w0_6, .int w0_7, .int w0_8, .int w0_9])), (rTape, .inr (0, [.ref q2, .int tpS])), (q2, .inl (nA2, tpN, .inl tpA))]) [0, 1, 2] rfl
  have hDc := hD.sub (ws' := [(h0, .inr (6, [.int w0_0, .ref rTape, .int rStart, .int rEnd, .int rWide, .ref rRule, .int w0_6, .int w0_7, .int w0_8, .int w0_9])), (rTape, .inr (0, [.ref q2, .int tpS])), (q2, .inl (nA2, tpN, .inl tpA))]) [0, 1, 2] (by decide) rfl
  have hKc := hK.sub (tys' := [(nA2, .byte)]) [0] rfl
  have hFc := va_free (wc := [(h0, .inr (6, [.int w0_0, .ref rTape, .int rStart, .int rEnd, .int rWide, .ref rRule, .int w0_6, .int w0_7, .int w0_8, .int w0_9])), (rTape, .inr (0, [.ref q2, .int tpS])), (q2, .inl (nA2, tpN, .inl tpA))]) hD hS hA [0, 1, 2] rfl
  refine cl_M (v := (some (.int z_1))) (st1 := [.int z_1]) (va_runV (As := []) (rest := []) ⟨hx, hb, hml, hown, hts⟩ (c_RP_readName l dC dI h0 rTape rRule q2 nA2 H.size nf w0_0 rStart rEnd rWide w0_6 w0_7 w0_8 w0_9 tpS tpN tpA hc) (cwV 0 hts (gdV m_4_93 m_4_95 msel_31 m_1_17 m_4_96) rfl rfl rfl (by decide +kernel) ⟨Nat.le_trans (Nat.le_of_ble_eq_true rfl) hRf, Nat.le_trans (Nat.le_of_ble_eq_true rfl) hRl⟩) ((MU.pre hPc hKc hDc (hST.mu hS hFc)).vir (va_recv hKc hPc (ci := 6) (q0 := 0) rfl rfl)) rfl rfl hl.1 rfl (lv_room (Nat.le_of_ble_eq_true rfl)) d_RP_readSummer_1 ⟨Nat.zero_le _, Nat.zero_le _⟩) rfl hS (fun q _ h => hFc q h) hFc (fun t H1 locs ht hvm hB hz1 hk1 hS => ?_)
  obtain ⟨q_5, cq_6, hP1, hK1, hD1⟩ := hB
  rw [ht] at hP1
  have hK1 := va_K.moved hvm.symm hK1
  obtain ⟨hP, hD⟩ := va_join (wr := [(rRule, .inr (5, [.ref ruT, .ref ruB, .ref ruE, .int ruHas, .int ruWide, .int ruSo, .int w3_6, .int ruSp, .int ruSs, .int w3_9, .int w3_10, .int ruNev]))]) (w1 := [(h0, .inr (6, [.int z_2, .ref rTape, .int rStart, .int rEnd, .int rWide, .ref rRule, .int z_3, .int z_4, .int w0_8, .int w0_9])), (rTape, .inr (0, [.ref q_5, .int tpS])), (q_5, .inl (cq_6, tpN, .inl tpA))]) hP hD [0, 1, 2] [3] rfl rfl (by decide) (by decide) hk1 hFc hP1 hD1
  have hK := (hK.sub (tys' := []) [] rfl).app hK1
  generalize H1 = H at hP hS ⊢
  have hP := hP.sub (ws' := [(h0, .inr (6, [.int z_2, .ref rTape, .int rStart, .int rEnd, .int rWide, .ref rRule, .int z_3, .int z_4, .int w0_8, .int w0_9])), (rTape, .inr (0, [.ref q_5, .int tpS])), (q_5, .inl (cq_6, tpN, .inl tpA)), (rRule, .inr (5, [.ref ruT, .ref ruB, .ref ruE, .int ruHas, .int ruWide, .int ruSo, .int w3_6, .int ruSp, .int ruSs, .int w3_9, .int w3_10, .int ruNev]))]) [1, 2, 3, 0] rfl
  have hD := hD.sub (ws' := [(h0, .inr (6, [.int z_2, .ref rTape, .int rStart, .int rEnd, .int rWide, .ref rRule, .int z_3, .int z_4, .int w0_8, .int w0_9])), (rTape, .inr (0, [.ref q_5, .int tpS])), (q_5, .inl (cq_6, tpN, .inl tpA)), (rRule, .inr (5, [.ref ruT, .ref ruB, .ref ruE, .int ruHas, .int ruWide, .int ruSo, .int w3_6, .int ruSp, .int ruSs, .int w3_9, .int w3_10, .int ruNev]))]) [1, 2, 3, 0] (by decide) rfl
  have hK := hK.sub (tys' := [(cq_6, .byte)]) [0] rfl
  refine lv_if_ne (tgt := 9) hx hb d_RP_readSummer_4 (by decide) (fun c_7 => ?_) (fun c_7 => ?_)
  · have hf := it_f c_7 hf
    refine lv_aload_n hx hb d_RP_readSummer_9 rfl (lv_at hl 0 rfl) ?_
    refine va_get (D := (dC, dI)) (ci := 6) (v := .ref rRule) (C := RRuleParser) (T := TRuleParser) (N := 10) hx hb hts in_RuleParser hown hK hP 0 rfl rfl 5 (by decide) (hts (.fieldLink "ZoneFiles$RuleParser" 24 "ZoneFiles$RuleParser" "rule" "LZoneFiles$Rule;") m_4_58) (fun _ h9 => h9) rfl d_RP_readSummer_10 ?_
    refine lv_aload_n hx hb d_RP_readSummer_13 rfl (lv_at hl 0 rfl) ?_
    refine va_get (D := (dC, dI)) (ci := 6) (v := .int z_3) (C := RRuleParser) (T := TRuleParser) (N := 10) hx hb hts in_RuleParser hown hK hP 0 rfl rfl 6 (by decide) (hts (.fieldLink "ZoneFiles$RuleParser" 83 "ZoneFiles$RuleParser" "namePlace" "I") m_4_59) (fun _ h9 => h9) rfl d_RP_readSummer_14 ?_
    refine lv_aload_n hx hb d_RP_readSummer_17 rfl (lv_at hl 0 rfl) ?_
    refine va_get (D := (dC, dI)) (ci := 6) (v := .int rStart) (C := RRuleParser) (T := TRuleParser) (N := 10) hx hb hts in_RuleParser hown hK hP 0 rfl rfl 2 (by decide) (hts (.fieldLink "ZoneFiles$RuleParser" 13 "ZoneFiles$RuleParser" "start" "I") m_4_55) (fun _ h9 => h9) rfl d_RP_readSummer_18 ?_
    refine lv_isub hx hb d_RP_readSummer_21 ?_
    refine va_put (D := (dC, dI)) (ci := 5) (v := .int (z_3 - rStart)) (ty := .int) (C := RRule) (T := TRule) (N := 12) hx hb hts in_Rule tyRule ty_Rule nm_Rule hown hK hP hD hS 3 rfl rfl 9 (by decide) (hts (.fieldLink "ZoneFiles$RuleParser" 98 "ZoneFiles$Rule" "summerNamePlace" "I") m_1_132) (fun _ h9 => h9) rfl (by decide +kernel) rfl rfl (Nat.le_of_ble_eq_true rfl) d_RP_readSummer_22 (fun H locs hP hD hS => ?_)
    have hP : va_P (dC, dI) classes [(h0, .inr (6, [.int z_2, .ref rTape, .int rStart, .int rEnd, .int rWide, .ref rRule, .int z_3, .int z_4, .int w0_8, .int w0_9])), (rTape, .inr (0, [.ref q_5, .int tpS])), (q_5, .inl (cq_6, tpN, .inl tpA)), (rRule, .inr (5, [.ref ruT, .ref ruB, .ref ruE, .int ruHas, .int ruWide, .int ruSo, .int w3_6, .int ruSp, .int ruSs, .int (z_3 - rStart), .int w3_10, .int ruNev]))] H := hP
    have hD : va_D A [(h0, .inr (6, [.int z_2, .ref rTape, .int rStart, .int rEnd, .int rWide, .ref rRule, .int z_3, .int z_4, .int w0_8, .int w0_9])), (rTape, .inr (0, [.ref q_5, .int tpS])), (q_5, .inl (cq_6, tpN, .inl tpA)), (rRule, .inr (5, [.ref ruT, .ref ruB, .ref ruE, .int ruHas, .int ruWide, .int ruSo, .int w3_6, .int ruSp, .int ruSs, .int (z_3 - rStart), .int w3_10, .int ruNev]))] := hD
    refine lv_aload_n hx hb d_RP_readSummer_25 rfl (lv_at hl 0 rfl) ?_
    refine va_get (D := (dC, dI)) (ci := 6) (v := .ref rRule) (C := RRuleParser) (T := TRuleParser) (N := 10) hx hb hts in_RuleParser hown hK hP 0 rfl rfl 5 (by decide) (hts (.fieldLink "ZoneFiles$RuleParser" 24 "ZoneFiles$RuleParser" "rule" "LZoneFiles$Rule;") m_4_58) (fun _ h9 => h9) rfl d_RP_readSummer_26 ?_
    refine lv_aload_n hx hb d_RP_readSummer_29 rfl (lv_at hl 0 rfl) ?_
    refine va_get (D := (dC, dI)) (ci := 6) (v := .int z_4) (C := RRuleParser) (T := TRuleParser) (N := 10) hx hb hts in_RuleParser hown hK hP 0 rfl rfl 7 (by decide) (hts (.fieldLink "ZoneFiles$RuleParser" 89 "ZoneFiles$RuleParser" "nameSize" "I") m_4_60) (fun _ h9 => h9) rfl d_RP_readSummer_30 ?_
    refine va_put (D := (dC, dI)) (ci := 5) (v := .int z_4) (ty := .int) (C := RRule) (T := TRule) (N := 12) hx hb hts in_Rule tyRule ty_Rule nm_Rule hown hK hP hD hS 3 rfl rfl 10 (by decide) (hts (.fieldLink "ZoneFiles$RuleParser" 101 "ZoneFiles$Rule" "summerNameSize" "I") m_1_135) (fun _ h9 => h9) rfl (by decide +kernel) rfl rfl (Nat.le_of_ble_eq_true rfl) d_RP_readSummer_33 (fun H locs hP hD hS => ?_)
    have hP : va_P (dC, dI) classes [(h0, .inr (6, [.int z_2, .ref rTape, .int rStart, .int rEnd, .int rWide, .ref rRule, .int z_3, .int z_4, .int w0_8, .int w0_9])), (rTape, .inr (0, [.ref q_5, .int tpS])), (q_5, .inl (cq_6, tpN, .inl tpA)), (rRule, .inr (5, [.ref ruT, .ref ruB, .ref ruE, .int ruHas, .int ruWide, .int ruSo, .int w3_6, .int ruSp, .int ruSs, .int (z_3 - rStart), .int z_4, .int ruNev]))] H := hP
    have hD : va_D A [(h0, .inr (6, [.int z_2, .ref rTape, .int rStart, .int rEnd, .int rWide, .ref rRule, .int z_3, .int z_4, .int w0_8, .int w0_9])), (rTape, .inr (0, [.ref q_5, .int tpS])), (q_5, .inl (cq_6, tpN, .inl tpA)), (rRule, .inr (5, [.ref ruT, .ref ruB, .ref ruE, .int ruHas, .int ruWide, .int ruSo, .int w3_6, .int ruSp, .int ruSs, .int (z_3 - rStart), .int z_4, .int ruNev]))] := hD
    refine lv_aload_n hx hb d_RP_readSummer_36 rfl (lv_at hl 0 rfl) ?_
    refine va_get (D := (dC, dI)) (ci := 6) (v := .ref rRule) (C := RRuleParser) (T := TRuleParser) (N := 10) hx hb hts in_RuleParser hown hK hP 0 rfl rfl 5 (by decide) (hts (.fieldLink "ZoneFiles$RuleParser" 24 "ZoneFiles$RuleParser" "rule" "LZoneFiles$Rule;") m_4_58) (fun _ h9 => h9) rfl d_RP_readSummer_37 ?_
    refine lv_aload_n hx hb d_RP_readSummer_40 rfl (lv_at hl 0 rfl) ?_
    refine va_get (D := (dC, dI)) (ci := 6) (v := .ref rRule) (C := RRuleParser) (T := TRuleParser) (N := 10) hx hb hts in_RuleParser hown hK hP 0 rfl rfl 5 (by decide) (hts (.fieldLink "ZoneFiles$RuleParser" 24 "ZoneFiles$RuleParser" "rule" "LZoneFiles$Rule;") m_4_58) (fun _ h9 => h9) rfl d_RP_readSummer_41 ?_
    refine va_get (D := (dC, dI)) (ci := 5) (v := .int ruSo) (C := RRule) (T := TRule) (N := 12) hx hb hts in_Rule hown hK hP 3 rfl rfl 5 (by decide) (hts (.fieldLink "ZoneFiles$RuleParser" 56 "ZoneFiles$Rule" "standardOffset" "I") m_1_120) (fun _ h9 => h9) rfl d_RP_readSummer_44 ?_
    refine lv_sipush (v := 3600) hx hb d_RP_readSummer_47 (by decide) ?_
    refine lv_iadd hx hb d_RP_readSummer_50 ?_
    refine va_put (D := (dC, dI)) (ci := 5) (v := .int (ruSo + 3600)) (ty := .int) (C := RRule) (T := TRule) (N := 12) hx hb hts in_Rule tyRule ty_Rule nm_Rule hown hK hP hD hS 3 rfl rfl 6 (by decide) (hts (.fieldLink "ZoneFiles$RuleParser" 64 "ZoneFiles$Rule" "summerOffset" "I") m_1_123) (fun _ h9 => h9) rfl (by decide +kernel) rfl rfl (Nat.le_of_ble_eq_true rfl) d_RP_readSummer_51 (fun H locs hP hD hS => ?_)
    have hP : va_P (dC, dI) classes [(h0, .inr (6, [.int z_2, .ref rTape, .int rStart, .int rEnd, .int rWide, .ref rRule, .int z_3, .int z_4, .int w0_8, .int w0_9])), (rTape, .inr (0, [.ref q_5, .int tpS])), (q_5, .inl (cq_6, tpN, .inl tpA)), (rRule, .inr (5, [.ref ruT, .ref ruB, .ref ruE, .int ruHas, .int ruWide, .int ruSo, .int (ruSo + 3600), .int ruSp, .int ruSs, .int (z_3 - rStart), .int z_4, .int ruNev]))] H := hP
    have hD : va_D A [(h0, .inr (6, [.int z_2, .ref rTape, .int rStart, .int rEnd, .int rWide, .ref rRule, .int z_3, .int z_4, .int w0_8, .int w0_9])), (rTape, .inr (0, [.ref q_5, .int tpS])), (q_5, .inl (cq_6, tpN, .inl tpA)), (rRule, .inr (5, [.ref ruT, .ref ruB, .ref ruE, .int ruHas, .int ruWide, .int ruSo, .int (ruSo + 3600), .int ruSp, .int ruSs, .int (z_3 - rStart), .int z_4, .int ruNev]))] := hD
    refine lv_aload_n hx hb d_RP_readSummer_54 rfl (lv_at hl 0 rfl) ?_
    obtain ⟨r_8, hc, hf⟩ := ob hf
    refine cl_S (v := (some (.int r_8))) (st1 := [.int r_8]) (va_runV (As := []) (rest := []) ⟨hx, hb, hml, hown, hts⟩ (c_RP_peek l dC dI h0 rTape rRule q_5 cq_6 nf z_2 rStart rEnd rWide z_3 z_4 w0_8 w0_9 tpS tpN tpA hc) (cwV 0 hts (gdV m_4_101 m_4_103 msel_33 m_1_17 m_4_104) rfl rfl rfl (by decide +kernel) ⟨Nat.le_trans (Nat.le_of_ble_eq_true rfl) hRf, Nat.le_trans (Nat.le_of_ble_eq_true rfl) hRl⟩) ((RO.pre (hP.sub (ws' := [(h0, .inr (6, [.int z_2, .ref rTape, .int rStart, .int rEnd, .int rWide, .ref rRule, .int z_3, .int z_4, .int w0_8, .int w0_9])), (rTape, .inr (0, [.ref q_5, .int tpS])), (q_5, .inl (cq_6, tpN, .inl tpA))]) [0, 1, 2] rfl) (hK.sub (tys' := [(cq_6, .byte)]) [0] rfl) (hST.ro hS)).vir (va_recv (hK.sub (tys' := [(cq_6, .byte)]) [0] rfl) (hP.sub (ws' := [(h0, .inr (6, [.int z_2, .ref rTape, .int rStart, .int rEnd, .int rWide, .ref rRule, .int z_3, .int z_4, .int w0_8, .int w0_9])), (rTape, .inr (0, [.ref q_5, .int tpS])), (q_5, .inl (cq_6, tpN, .inl tpA))]) [0, 1, 2] rfl) (ci := 6) (q0 := 0) rfl rfl)) rfl rfl hl.1 rfl (lv_room (Nat.le_of_ble_eq_true rfl)) d_RP_readSummer_55 ⟨Nat.zero_le _, Nat.zero_le _⟩) rfl ?_
    refine lv_bipush (v := 44) hx hb d_RP_readSummer_58 (by decide) ?_
    refine lv_icmp_ne (tgt := 65) hx hb d_RP_readSummer_60 (by decide) (fun c_9 => ?_) (fun c_9 => ?_)
    · have hf := it_f c_9 hf
      refine lv_aload_n hx hb d_RP_readSummer_65 rfl (lv_at hl 0 rfl) ?_
      obtain ⟨r_10, hc, hf⟩ := ob hf
      refine cl_S (v := (some (.int r_10))) (st1 := [.int r_10]) (va_runV (As := []) (rest := []) ⟨hx, hb, hml, hown, hts⟩ (c_RP_peek l dC dI h0 rTape rRule q_5 cq_6 nf z_2 rStart rEnd rWide z_3 z_4 w0_8 w0_9 tpS tpN tpA hc) (cwV 0 hts (gdV m_4_101 m_4_103 msel_33 m_1_17 m_4_104) rfl rfl rfl (by decide +kernel) ⟨Nat.le_trans (Nat.le_of_ble_eq_true rfl) hRf, Nat.le_trans (Nat.le_of_ble_eq_true rfl) hRl⟩) ((RO.pre (hP.sub (ws' := [(h0, .inr (6, [.int z_2, .ref rTape, .int rStart, .int rEnd, .int rWide, .ref rRule, .int z_3, .int z_4, .int w0_8, .int w0_9])), (rTape, .inr (0, [.ref q_5, .int tpS])), (q_5, .inl (cq_6, tpN, .inl tpA))]) [0, 1, 2] rfl) (hK.sub (tys' := [(cq_6, .byte)]) [0] rfl) (hST.ro hS)).vir (va_recv (hK.sub (tys' := [(cq_6, .byte)]) [0] rfl) (hP.sub (ws' := [(h0, .inr (6, [.int z_2, .ref rTape, .int rStart, .int rEnd, .int rWide, .ref rRule, .int z_3, .int z_4, .int w0_8, .int w0_9])), (rTape, .inr (0, [.ref q_5, .int tpS])), (q_5, .inl (cq_6, tpN, .inl tpA))]) [0, 1, 2] rfl) (ci := 6) (q0 := 0) rfl rfl)) rfl rfl hl.1 rfl (lv_room (Nat.le_of_ble_eq_true rfl)) d_RP_readSummer_66 ⟨Nat.zero_le _, Nat.zero_le _⟩) rfl ?_
      obtain ⟨r_11, hc, hf⟩ := ob hf
      refine cl_S (v := (some (.int r_11))) (st1 := [.int r_11]) (va_runS (As := [.int r_10]) (rest := []) ⟨hx, hb, hml, hown, hts⟩ (c_RP_isSign l dC dI nf r_10 hc) (va_cwS 1 hts (gdS m_4_112 m_4_113 m_1_17 m_4_114) rfl rfl rfl (by decide +kernel) ⟨Nat.le_trans (Nat.le_of_ble_eq_true rfl) hRf, Nat.le_trans (Nat.le_of_ble_eq_true rfl) hRl⟩) (RO.pre0 hK (hST.ro hS)).sta rfl rfl hl.1 rfl (lv_room (Nat.le_of_ble_eq_true rfl)) d_RP_readSummer_69 ⟨Nat.zero_le _, Nat.zero_le _⟩) rfl ?_
      refine lv_if_ne (tgt := 85) hx hb d_RP_readSummer_72 (by decide) (fun c_12 => ?_) (fun c_12 => ?_)
      · have hf := it_f c_12 hf
        exact k_RP_readSummer_85 C0 hST hA hE hf hK hP hD hS (lv_sub hl [0] rfl)
      · have hf := it_t c_12 hf
        refine lv_aload_n hx hb d_RP_readSummer_75 rfl (lv_at hl 0 rfl) ?_
        obtain ⟨r_21, hc, hf⟩ := ob hf
        refine cl_S (v := (some (.int r_21))) (st1 := [.int r_21]) (va_runV (As := []) (rest := []) ⟨hx, hb, hml, hown, hts⟩ (c_RP_peek l dC dI h0 rTape rRule q_5 cq_6 nf z_2 rStart rEnd rWide z_3 z_4 w0_8 w0_9 tpS tpN tpA hc) (cwV 0 hts (gdV m_4_101 m_4_103 msel_33 m_1_17 m_4_104) rfl rfl rfl (by decide +kernel) ⟨Nat.le_trans (Nat.le_of_ble_eq_true rfl) hRf, Nat.le_trans (Nat.le_of_ble_eq_true rfl) hRl⟩) ((RO.pre (hP.sub (ws' := [(h0, .inr (6, [.int z_2, .ref rTape, .int rStart, .int rEnd, .int rWide, .ref rRule, .int z_3, .int z_4, .int w0_8, .int w0_9])), (rTape, .inr (0, [.ref q_5, .int tpS])), (q_5, .inl (cq_6, tpN, .inl tpA))]) [0, 1, 2] rfl) (hK.sub (tys' := [(cq_6, .byte)]) [0] rfl) (hST.ro hS)).vir (va_recv (hK.sub (tys' := [(cq_6, .byte)]) [0] rfl) (hP.sub (ws' := [(h0, .inr (6, [.int z_2, .ref rTape, .int rStart, .int rEnd, .int rWide, .ref rRule, .int z_3, .int z_4, .int w0_8, .int w0_9])), (rTape, .inr (0, [.ref q_5, .int tpS])), (q_5, .inl (cq_6, tpN, .inl tpA))]) [0, 1, 2] rfl) (ci := 6) (q0 := 0) rfl rfl)) rfl rfl hl.1 rfl (lv_room (Nat.le_of_ble_eq_true rfl)) d_RP_readSummer_76 ⟨Nat.zero_le _, Nat.zero_le _⟩) rfl ?_
        obtain ⟨r_22, hc, hf⟩ := ob hf
        refine cl_S (v := (some (.int r_22))) (st1 := [.int r_22]) (va_runSN (As := [.int r_21]) (rest := []) ⟨hx, hb, hml, hown, hts⟩ (c_ZF_isDigit l dC dI nf r_21 hc) ⟨va_cnB 1 hts (gd_of m_2_202) rfl rfl rfl hNW.2.2.2.2.2.2.2.1 (hts _ m_1_1) (by decide +kernel) ⟨Nat.le_trans (Nat.le_of_ble_eq_true rfl) hRf, Nat.le_trans (Nat.le_of_ble_eq_true rfl) hRl⟩, hts _ m_2_201, trivial⟩ (RO.pre0 hK (hST.ro hS)).sta rfl rfl hl.1 rfl (lv_room (Nat.le_of_ble_eq_true rfl)) d_RP_readSummer_79 ⟨Nat.zero_le _, Nat.zero_le _⟩) rfl ?_
        refine lv_if_eq (tgt := 89) hx hb d_RP_readSummer_82 (by decide) (fun c_23 => ?_) (fun c_23 => ?_)
        · have hf := it_t c_23 hf
          refine lv_iconst (v := 0) hx hb d_RP_readSummer_89 (by decide) ?_
          exact k_RP_readSummer_90 C0 hST hA hE hf hK hP hD hS (lv_sub hl [0] rfl)
        · have hf := it_f c_23 hf
          exact k_RP_readSummer_85 C0 hST hA hE hf hK hP hD hS (lv_sub hl [0] rfl)
    · have hf := it_t c_9 hf
      refine lv_iconst (v := 1) hx hb d_RP_readSummer_63 (by decide) ?_
      cases rs hf
      exact hE _ _ _ _ d_RP_readSummer_64 rfl hP hD hS hK
  · have hf := it_t c_7 hf
    refine lv_iconst (v := 0) hx hb d_RP_readSummer_7 (by decide) ?_
    cases rs hf
    exact hE _ _ _ _ d_RP_readSummer_8 rfl hP hD hS hK
end
set_option maxHeartbeats 400000 in
set_option maxRecDepth 100000 in
theorem c_RP_readSummer (l : Launch) (dC : Nat → ClassId) (dI : Nat → Nat → Nat) (h0 : Nat) (rTape : Nat) (rRule : Nat) (tpR : Nat) (ruT : Nat) (ruB : Nat) (ruE : Nat) (cAtpR : ClassId) (sz : Nat) (nf : Nat) (rPos : Int32) (rStart : Int32) (rEnd : Int32) (rWide : Int32) (rNp : Int32) (rNs : Int32) (rAm : Int32) (rAw : Int32) (tpS : Int32) (tpN : Nat) (tpA : Nat → Int32) (ruHas : Int32) (ruWide : Int32) (ruSo : Int32) (ruUo : Int32) (ruSp : Int32) (ruSs : Int32) (ruUp : Int32) (ruUs : Int32) (ruNev : Int32) {r0 : Int32} {v0_0 : Int32} {v0_6 : Int32} {v0_7 : Int32} {v0_8 : Int32} {v0_9 : Int32} {v3_6 : Int32} {v3_9 : Int32} {v3_10 : Int32} (hf : f_RP_readSummer nf rPos rStart rEnd rNp rNs rAm rAw tpS tpN tpA ruSo ruUo ruUp ruUs = some (r0, v0_0, v0_6, v0_7, v0_8, v0_9, v3_6, v3_9, v3_10)) : Met l y_RP_readSummer (wd y_RP_readSummer b_RP_readSummer 2 (some .boolean)) ({ frames := 4, cells := 0, slots := 0, locals := 94 }) (MU dC dI [(h0, .inr (6, [.int rPos, .ref rTape, .int rStart, .int rEnd, .int rWide, .ref rRule, .int rNp, .int rNs, .int rAm, .int rAw])), (rTape, .inr (0, [.ref tpR, .int tpS])), (tpR, .inl (cAtpR, tpN, .inl tpA)), (rRule, .inr (5, [.ref ruT, .ref ruB, .ref ruE, .int ruHas, .int ruWide, .int ruSo, .int ruUo, .int ruSp, .int ruSs, .int ruUp, .int ruUs, .int ruNev]))] [(cAtpR, .byte)] sz [.ref h0]) (MV (some (.int r0)) (fun t => ∃ (q2 : Nat) (nA2 : ClassId), va_P (dC, dI) classes [(h0, .inr (6, [.int v0_0, .ref rTape, .int rStart, .int rEnd, .int rWide, .ref rRule, .int v0_6, .int v0_7, .int v0_8, .int v0_9])), (rTape, .inr (0, [.ref q2, .int tpS])), (q2, .inl (nA2, tpN, .inl tpA)), (rRule, .inr (5, [.ref ruT, .ref ruB, .ref ruE, .int ruHas, .int ruWide, .int ruSo, .int v3_6, .int ruSp, .int ruSs, .int v3_9, .int v3_10, .int ruNev]))] t.heap ∧ va_K (dC, dI) classes [(nA2, .byte)] t ∧ va_D (va_A [(h0, .inr (6, [.int rPos, .ref rTape, .int rStart, .int rEnd, .int rWide, .ref rRule, .int rNp, .int rNs, .int rAm, .int rAw])), (rTape, .inr (0, [.ref tpR, .int tpS])), (tpR, .inl (cAtpR, tpN, .inl tpA)), (rRule, .inr (5, [.ref ruT, .ref ruB, .ref ruE, .int ruHas, .int ruWide, .int ruSo, .int ruUo, .int ruSp, .int ruSs, .int ruUp, .int ruUs, .int ruNev]))] sz) [(h0, .inr (6, [.int v0_0, .ref rTape, .int rStart, .int rEnd, .int rWide, .ref rRule, .int v0_6, .int v0_7, .int v0_8, .int v0_9])), (rTape, .inr (0, [.ref q2, .int tpS])), (q2, .inl (nA2, tpN, .inl tpA)), (rRule, .inr (5, [.ref ruT, .ref ruB, .ref ruE, .int ruHas, .int ruWide, .int ruSo, .int v3_6, .int ruSp, .int ruSs, .int v3_9, .int v3_10, .int ruNev]))]) (va_A [(h0, .inr (6, [.int rPos, .ref rTape, .int rStart, .int rEnd, .int rWide, .ref rRule, .int rNp, .int rNs, .int rAm, .int rAw])), (rTape, .inr (0, [.ref tpR, .int tpS])), (tpR, .inl (cAtpR, tpN, .inl tpA)), (rRule, .inr (5, [.ref ruT, .ref ruB, .ref ruE, .int ruHas, .int ruWide, .int ruSo, .int ruUo, .int ruSp, .int ruSs, .int ruUp, .int ruUs, .int ruNev]))] sz)) 0 0 (va_A [(h0, .inr (6, [.int rPos, .ref rTape, .int rStart, .int rEnd, .int rWide, .ref rRule, .int rNp, .int rNs, .int rAm, .int rAw])), (rTape, .inr (0, [.ref tpR, .int tpS])), (tpR, .inl (cAtpR, tpN, .inl tpA)), (rRule, .inr (5, [.ref ruT, .ref ruB, .ref ruE, .int ruHas, .int ruWide, .int ruSo, .int ruUo, .int ruSp, .int ruSs, .int ruUp, .int ruUs, .int ruNev]))] sz) :=
  met_M (plainFor_of_name (by decide)) (Nat.le_of_ble_eq_true rfl) (fun p e R s m args below meth c ls hRc hRs hsz hin C0 hST hK hP hD hl => by
    obtain ⟨hx, hb, hr, hml, hown, hts, hlocks, hRf, hRl⟩ := id C0
    subst hsz
    have hA : ∀ q : Nat, s.heap.size ≤ q → va_A [(h0, .inr (6, [.int rPos, .ref rTape, .int rStart, .int rEnd, .int rWide, .ref rRule, .int rNp, .int rNs, .int rAm, .int rAw])), (rTape, .inr (0, [.ref tpR, .int tpS])), (tpR, .inl (cAtpR, tpN, .inl tpA)), (rRule, .inr (5, [.ref ruT, .ref ruB, .ref ruE, .int ruHas, .int ruWide, .int ruSo, .int ruUo, .int ruSp, .int ruSs, .int ruUp, .int ruUs, .int ruNev]))] s.heap.size q := fun q h => Or.inr h
    have hS : va_S (va_A [(h0, .inr (6, [.int rPos, .ref rTape, .int rStart, .int rEnd, .int rWide, .ref rRule, .int rNp, .int rNs, .int rAm, .int rAw])), (rTape, .inr (0, [.ref tpR, .int tpS])), (tpR, .inl (cAtpR, tpN, .inl tpA)), (rRule, .inr (5, [.ref ruT, .ref ruB, .ref ruE, .int ruHas, .int ruWide, .int ruSo, .int ruUo, .int ruSp, .int ruSs, .int ruUp, .int ruUs, .int ruNev]))] s.heap.size) s.heap s.heap [] := va_S.rf
    unfold f_RP_readSummer at hf
    exact k_RP_readSummer_0 C0 hST hA (fun pc ls {q2} {nA2} H locs hd hn hP hD hS hK => W.zret hx hb hr hn (fun t ht hW => ⟨⟨rfl, ⟨q2, nA2, by rw [ht]; exact hP, va_K.moved hW.alike hK, hD⟩⟩, hS.F ht⟩) hS.2.2 hd) hf hK hP hD hS (lv_sub hl [0] rfl))
-- ZoneFiles$RuleParser.readStandard()Z
def f_RP_readStandard_17 (nf : Nat) (w0_0 : Int32) (w0_6 : Int32) (w0_7 : Int32) (w0_8 : Int32) (w0_9 : Int32) (w3_5 : Int32) (w3_7 : Int32) (w3_8 : Int32) : Option (Int32 × Int32 × Int32 × Int32 × Int32 × Int32 × Int32 × Int32 × Int32) :=
  some (0, w0_0, w0_6, w0_7, w0_8, w0_9, w3_5, w3_7, w3_8)
def f_RP_readStandard_0 (nf : Nat) (rStart : Int32) (rEnd : Int32) (tpS : Int32) (tpN : Nat) (tpA : Nat → Int32) (w0_0 : Int32) (w0_6 : Int32) (w0_7 : Int32) (w0_8 : Int32) (w0_9 : Int32) (w3_5 : Int32) (w3_7 : Int32) (w3_8 : Int32) : Option (Int32 × Int32 × Int32 × Int32 × Int32 × Int32 × Int32 × Int32 × Int32) :=
  (f_RP_readName nf w0_0 rEnd w0_6 w0_7 tpS tpN tpA).bind fun (z_1, z_2, z_3, z_4) =>
  if z_1 = 0 then
  f_RP_readStandard_17 nf z_2 z_3 z_4 w0_8 w0_9 w3_5 w3_7 w3_8
  else
  (f_RP_readAmount nf 1 24 z_2 rEnd w0_8 w0_9 tpS tpN tpA).bind fun (z_8, z_9, z_10, z_11) =>
    if z_8 = 0 then
    f_RP_readStandard_17 nf z_9 z_3 z_4 z_10 z_11 w3_5 w3_7 w3_8
    else
    some (1, z_9, z_3, z_4, z_10, z_11, -z_10, z_3 - rStart, z_4)
def f_RP_readStandard (nf : Nat) (rPos : Int32) (rStart : Int32) (rEnd : Int32) (rNp : Int32) (rNs : Int32) (rAm : Int32) (rAw : Int32) (tpS : Int32) (tpN : Nat) (tpA : Nat → Int32) (ruSo : Int32) (ruSp : Int32) (ruSs : Int32) : Option (Int32 × Int32 × Int32 × Int32 × Int32 × Int32 × Int32 × Int32 × Int32) :=
  f_RP_readStandard_0 nf rStart rEnd tpS tpN tpA rPos rNp rNs rAm rAw ruSo ruSp ruSs
section
variable {p : Program} {l : Launch} {e : Env} {R : Room} {s : State} {m : MethodId} {args : Array Value} {below : List Frame} {meth : Method} {c : Code} {Q : State → Prop} {dC : Nat → ClassId} {dI : Nat → Nat → Nat} {nf : Nat} {A : Nat → Prop}
variable {h0 : Nat} {rTape : Nat} {rRule : Nat} {tpR : Nat} {ruT : Nat} {ruB : Nat} {ruE : Nat} {cAtpR : ClassId} {rPos : Int32} {rStart : Int32} {rEnd : Int32} {rWide : Int32} {rNp : Int32} {rNs : Int32} {rAm : Int32} {rAw : Int32} {tpS : Int32} {tpN : Nat} {tpA : Nat → Int32} {ruHas : Int32} {ruWide : Int32} {ruSo : Int32} {ruUo : Int32} {ruSp : Int32} {ruSs : Int32} {ruUp : Int32} {ruUs : Int32} {ruNev : Int32} {r0 : Int32} {v0_0 : Int32} {v0_6 : Int32} {v0_7 : Int32} {v0_8 : Int32} {v0_9 : Int32} {v3_5 : Int32} {v3_7 : Int32} {v3_8 : Int32}
set_option maxHeartbeats 400000 in
set_option maxRecDepth 100000 in
theorem k_RP_readStandard_17 (C0 : Cx p s m meth c args R b_RP_readStandard "ZoneFiles$RuleParser" 1 (some .boolean) 4 94) (hST : ST A s s.heap) (hA : ∀ q, s.heap.size ≤ q → A q) (hE : ∀ (pc : Nat) (ls : Array Slot) {q2 : Nat} {nA2 : ClassId} (H : Heap) (locs : List Loc), decode b_RP_readStandard pc = .ok (.ireturn, 1) → narrow .boolean (.int r0) = .int r0 → va_P (dC, dI) classes [(h0, .inr (6, [.int v0_0, .ref rTape, .int rStart, .int rEnd, .int rWide, .ref rRule, .int v0_6, .int v0_7, .int v0_8, .int v0_9])), (rTape, .inr (0, [.ref q2, .int tpS])), (q2, .inl (nA2, tpN, .inl tpA)), (rRule, .inr (5, [.ref ruT, .ref ruB, .ref ruE, .int ruHas, .int ruWide, .int v3_5, .int ruUo, .int v3_7, .int v3_8, .int ruUp, .int ruUs, .int ruNev]))] H → va_D A [(h0, .inr (6, [.int v0_0, .ref rTape, .int rStart, .int rEnd, .int rWide, .ref rRule, .int v0_6, .int v0_7, .int v0_8, .int v0_9])), (rTape, .inr (0, [.ref q2, .int tpS])), (q2, .inl (nA2, tpN, .inl tpA)), (rRule, .inr (5, [.ref ruT, .ref ruB, .ref ruE, .int ruHas, .int ruWide, .int v3_5, .int ruUo, .int v3_7, .int v3_8, .int ruUp, .int ruUs, .int ruNev]))] → va_S A s.heap H locs → va_K (dC, dI) classes [(nA2, .byte)] s → W p l e R s m args below meth c H locs 0 0 Q (F0 m pc ls [.int r0])) {w0_0 : Int32} {w0_6 : Int32} {w0_7 : Int32} {w0_8 : Int32} {w0_9 : Int32} {w3_5 : Int32} {w3_7 : Int32} {w3_8 : Int32} (hf : f_RP_readStandard_17 nf w0_0 w0_6 w0_7 w0_8 w0_9 w3_5 w3_7 w3_8 = some (r0, v0_0, v0_6, v0_7, v0_8, v0_9, v3_5, v3_7, v3_8)) {q2 : Nat} {nA2 : ClassId} {H : Heap} {locs : List Loc} {ls : Array Slot} (hK : va_K (dC, dI) classes [(nA2, .byte)] s) (hP : va_P (dC, dI) classes [(h0, .inr (6, [.int w0_0, .ref rTape, .int rStart, .int rEnd, .int rWide, .ref rRule, .int w0_6, .int w0_7, .int w0_8, .int w0_9])), (rTape, .inr (0, [.ref q2, .int tpS])), (q2, .inl (nA2, tpN, .inl tpA)), (rRule, .inr (5, [.ref ruT, .ref ruB, .ref ruE, .int ruHas, .int ruWide, .int w3_5, .int ruUo, .int w3_7, .int w3_8, .int ruUp, .int ruUs, .int ruNev]))] H) (hD : va_D A [(h0, .inr (6, [.int w0_0, .ref rTape, .int rStart, .int rEnd, .int rWide, .ref rRule, .int w0_6, .int w0_7, .int w0_8, .int w0_9])), (rTape, .inr (0, [.ref q2, .int tpS])), (q2, .inl (nA2, tpN, .inl tpA)), (rRule, .inr (5, [.ref ruT, .ref ruB, .ref ruE, .int ruHas, .int ruWide, .int w3_5, .int ruUo, .int w3_7, .int w3_8, .int ruUp, .int ruUs, .int ruNev]))]) (hS : va_S A s.heap H locs) (hl : lv_has ls 1 []) : W p l e R s m args below meth c H locs 0 0 Q (F0 m 17 ls []) := by
  obtain ⟨hx, hb, hr, hml, hown, hts, hlocks, hRf, hRl⟩ := id C0
  obtain ⟨tms, hZms, hTms, tmg, hZmg, hTmg, hNW⟩ := id hST
  unfold f_RP_readStandard_17 at hf
  refine lv_iconst (v := 0) hx hb d_RP_readStandard_17 (by decide) ?_
  cases rs hf
  exact hE _ _ _ _ d_RP_readStandard_18 rfl hP hD hS hK
set_option maxHeartbeats 400000 in
set_option maxRecDepth 100000 in
theorem k_RP_readStandard_0 (C0 : Cx p s m meth c args R b_RP_readStandard "ZoneFiles$RuleParser" 1 (some .boolean) 4 94) (hST : ST A s s.heap) (hA : ∀ q, s.heap.size ≤ q → A q) (hE : ∀ (pc : Nat) (ls : Array Slot) {q2 : Nat} {nA2 : ClassId} (H : Heap) (locs : List Loc), decode b_RP_readStandard pc = .ok (.ireturn, 1) → narrow .boolean (.int r0) = .int r0 → va_P (dC, dI) classes [(h0, .inr (6, [.int v0_0, .ref rTape, .int rStart, .int rEnd, .int rWide, .ref rRule, .int v0_6, .int v0_7, .int v0_8, .int v0_9])), (rTape, .inr (0, [.ref q2, .int tpS])), (q2, .inl (nA2, tpN, .inl tpA)), (rRule, .inr (5, [.ref ruT, .ref ruB, .ref ruE, .int ruHas, .int ruWide, .int v3_5, .int ruUo, .int v3_7, .int v3_8, .int ruUp, .int ruUs, .int ruNev]))] H → va_D A [(h0, .inr (6, [.int v0_0, .ref rTape, .int rStart, .int rEnd, .int rWide, .ref rRule, .int v0_6, .int v0_7, .int v0_8, .int v0_9])), (rTape, .inr (0, [.ref q2, .int tpS])), (q2, .inl (nA2, tpN, .inl tpA)), (rRule, .inr (5, [.ref ruT, .ref ruB, .ref ruE, .int ruHas, .int ruWide, .int v3_5, .int ruUo, .int v3_7, .int v3_8, .int ruUp, .int ruUs, .int ruNev]))] → va_S A s.heap H locs → va_K (dC, dI) classes [(nA2, .byte)] s → W p l e R s m args below meth c H locs 0 0 Q (F0 m pc ls [.int r0])) {w0_0 : Int32} {w0_6 : Int32} {w0_7 : Int32} {w0_8 : Int32} {w0_9 : Int32} {w3_5 : Int32} {w3_7 : Int32} {w3_8 : Int32} (hf : f_RP_readStandard_0 nf rStart rEnd tpS tpN tpA w0_0 w0_6 w0_7 w0_8 w0_9 w3_5 w3_7 w3_8 = some (r0, v0_0, v0_6, v0_7, v0_8, v0_9, v3_5, v3_7, v3_8)) {q2 : Nat} {nA2 : ClassId} {H : Heap} {locs : List Loc} {ls : Array Slot} (hK : va_K (dC, dI) classes [(nA2, .byte)] s) (hP : va_P (dC, dI) classes [(h0, .inr (6, [.int w0_0, .ref rTape, .int rStart, .int rEnd, .int rWide, .ref rRule, .int w0_6, .int w0_7, .int w0_8, .int w0_9])), (rTape, .inr (0, [.ref q2, .int tpS])), (q2, .inl (nA2, tpN, .inl tpA)), (rRule, .inr (5, [.ref ruT, .ref ruB, .ref ruE, .int ruHas, .int ruWide, .int w3_5, .int ruUo, .int w3_7, .int w3_8, .int ruUp, .int ruUs, .int ruNev]))] H) (hD : va_D A [(h0, .inr (6, [.int w0_0, .ref rTape, .int rStart, .int rEnd, .int rWide, .ref rRule, .int w0_6, .int w0_7, .int w0_8, .int w0_9])), (rTape, .inr (0, [.ref q2, .int tpS])), (q2, .inl (nA2, tpN, .inl tpA)), (rRule, .inr (5, [.ref ruT, .ref ruB, .ref ruE, .int ruHas, .int ruWide, .int w3_5, .int ruUo, .int w3_7, .int w3_8, .int ruUp, .int ruUs, .int ruNev]))]) (hS : va_S A s.heap H locs) (hl : lv_has ls 1 [(0, .ref h0)]) : W p l e R s m args below meth c H locs 0 0 Q (F0 m 0 ls []) := by
  obtain ⟨hx, hb, hr, hml, hown, hts, hlocks, hRf, hRl⟩ := id C0
  obtain ⟨tms, hZms, hTms, tmg, hZmg, hTmg, hNW⟩ := id hST
  unfold f_RP_readStandard_0 at hf
  refine lv_aload_n hx hb d_RP_readStandard_0 rfl (lv_at hl 0 rfl) ?_
  obtain ⟨⟨z_1, z_2, z_3, z_4⟩, hc, hf⟩ := ob hf
  have hPc := hP.sub (ws' := [(h0, .inr (6, [.int w0_0, .ref rTape, .int rStart, .int rEnd, .int rWide, .ref rRule, .int w0_6, .int w0_7, .int w0_8, .int w0_9])), (rTape, .inr (0, [.ref q2, .int tpS])), (q2, .inl (nA2, tpN, .inl tpA))]) [0, 1, 2] rfl
  have hDc := hD.sub (ws' := [(h0, .inr (6, [.int w0_0, .ref rTape, .int rStart, .int rEnd, .int rWide, .ref rRule, .int w0_6, .int w0_7, .int w0_8, .int w0_9])), (rTape, .inr (0, [.ref q2, .int tpS])), (q2, .inl (nA2, tpN, .inl tpA))]) [0, 1, 2] (by decide) rfl
  have hKc := hK.sub (tys' := [(nA2, .byte)]) [0] rfl
  have hFc := va_free (wc := [(h0, .inr (6, [.int w0_0, .ref rTape, .int rStart, .int rEnd, .int rWide, .ref rRule, .int w0_6, .int w0_7, .int w0_8, .int w0_9])), (rTape, .inr (0, [.ref q2, .int tpS])), (q2, .inl (nA2, tpN, .inl tpA))]) hD hS hA [0, 1, 2] rfl
  refine cl_M (v := (some (.int z_1))) (st1 := [.int z_1]) (va_runV (As := []) (rest := []) ⟨hx, hb, hml, hown, hts⟩ (c_RP_readName l dC dI h0 rTape rRule q2 nA2 H.size nf w0_0 rStart rEnd rWide w0_6 w0_7 w0_8 w0_9 tpS tpN tpA hc) (cwV 0 hts (gdV m_4_93 m_4_95 msel_31 m_1_17 m_4_96) rfl rfl rfl (by decide +kernel) ⟨Nat.le_trans (Nat.le_of_ble_eq_true rfl) hRf, Nat.le_trans (Nat.le_of_ble_eq_true rfl) hRl⟩) ((MU.pre hPc hKc hDc (hST.mu hS hFc)).vir (va_recv hKc hPc (ci := 6) (q0 := 0) rfl rfl)) rfl rfl hl.1 rfl (lv_room (Nat.le_of_ble_eq_true rfl)) d_RP_readStandard_1 ⟨Nat.zero_le _, Nat.zero_le _⟩) rfl hS (fun q _ h => hFc q h) hFc (fun t H1 locs ht hvm hB hz1 hk1 hS => ?_)
  obtain ⟨q_5, cq_6, hP1, hK1, hD1⟩ := hB
  rw [ht] at hP1
  have hK1 := va_K.moved hvm.symm hK1
  obtain ⟨hP, hD⟩ := va_join (wr := [(rRule, .inr (5, [.ref ruT, .ref ruB, .ref ruE, .int ruHas, .int ruWide, .int w3_5, .int ruUo, .int w3_7, .int w3_8, .int ruUp, .int ruUs, .int ruNev]))]) (w1 := [(h0, .inr (6, [.int z_2, .ref rTape, .int rStart, .int rEnd, .int rWide, .ref rRule, .int z_3, .int z_4, .int w0_8, .int w0_9])), (rTape, .inr (0, [.ref q_5, .int tpS])), (q_5, .inl (cq_6, tpN, .inl tpA))]) hP hD [0, 1, 2] [3] rfl rfl (by decide) (by decide) hk1 hFc hP1 hD1
  have hK := (hK.sub (tys' := []) [] rfl).app hK1
  generalize H1 = H at hP hS ⊢
  have hP := hP.sub (ws' := [(h0, .inr (6, [.int z_2, .ref rTape, .int rStart, .int rEnd, .int rWide, .ref rRule, .int z_3, .int z_4, .int w0_8, .int w0_9])), (rTape, .inr (0, [.ref q_5, .int tpS])), (q_5, .inl (cq_6, tpN, .inl tpA)), (rRule, .inr (5, [.ref ruT, .ref ruB, .ref ruE, .int ruHas, .int ruWide, .int w3_5, .int ruUo, .int w3_7, .int w3_8, .int ruUp, .int ruUs, .int ruNev]))]) [1, 2, 3, 0] rfl
  have hD := hD.sub (ws' := [(h0, .inr (6, [.int z_2, .ref rTape, .int rStart, .int rEnd, .int rWide, .ref rRule, .int z_3, .int z_4, .int w0_8, .int w0_9])), (rTape, .inr (0, [.ref q_5, .int tpS])), (q_5, .inl (cq_6, tpN, .inl tpA)), (rRule, .inr (5, [.ref ruT, .ref ruB, .ref ruE, .int ruHas, .int ruWide, .int w3_5, .int ruUo, .int w3_7, .int w3_8, .int ruUp, .int ruUs, .int ruNev]))]) [1, 2, 3, 0] (by decide) rfl
  have hK := hK.sub (tys' := [(cq_6, .byte)]) [0] rfl
  refine lv_if_eq (tgt := 17) hx hb d_RP_readStandard_4 (by decide) (fun c_7 => ?_) (fun c_7 => ?_)
  · have hf := it_t c_7 hf
    exact k_RP_readStandard_17 C0 hST hA hE hf hK hP hD hS (lv_sub hl [] rfl)
  · have hf := it_f c_7 hf
    refine lv_aload_n hx hb d_RP_readStandard_7 rfl (lv_at hl 0 rfl) ?_
    refine lv_iconst (v := 1) hx hb d_RP_readStandard_8 (by decide) ?_
    refine lv_bipush (v := 24) hx hb d_RP_readStandard_9 (by decide) ?_
    obtain ⟨⟨z_8, z_9, z_10, z_11⟩, hc, hf⟩ := ob hf
    have hPc := hP.sub (ws' := [(h0, .inr (6, [.int z_2, .ref rTape, .int rStart, .int rEnd, .int rWide, .ref rRule, .int z_3, .int z_4, .int w0_8, .int w0_9])), (rTape, .inr (0, [.ref q_5, .int tpS])), (q_5, .inl (cq_6, tpN, .inl tpA))]) [0, 1, 2] rfl
    have hDc := hD.sub (ws' := [(h0, .inr (6, [.int z_2, .ref rTape, .int rStart, .int rEnd, .int rWide, .ref rRule, .int z_3, .int z_4, .int w0_8, .int w0_9])), (rTape, .inr (0, [.ref q_5, .int tpS])), (q_5, .inl (cq_6, tpN, .inl tpA))]) [0, 1, 2] (by decide) rfl
    have hKc := hK.sub (tys' := [(cq_6, .byte)]) [0] rfl
    have hFc := va_free (wc := [(h0, .inr (6, [.int z_2, .ref rTape, .int rStart, .int rEnd, .int rWide, .ref rRule, .int z_3, .int z_4, .int w0_8, .int w0_9])), (rTape, .inr (0, [.ref q_5, .int tpS])), (q_5, .inl (cq_6, tpN, .inl tpA))]) hD hS hA [0, 1, 2] rfl
    refine cl_M (v := (some (.int z_8))) (st1 := [.int z_8]) (va_runV (As := [.int 1, .int 24]) (rest := []) ⟨hx, hb, hml, hown, hts⟩ (c_RP_readAmount l dC dI h0 rTape rRule q_5 cq_6 H.size nf 1 24 z_2 rStart rEnd rWide z_3 z_4 w0_8 w0_9 tpS tpN tpA hc) (cwV 2 hts (gdV m_4_108 m_4_110 msel_34 m_1_17 m_4_111) rfl rfl rfl (by decide +kernel) ⟨Nat.le_trans (Nat.le_of_ble_eq_true rfl) hRf, Nat.le_trans (Nat.le_of_ble_eq_true rfl) hRl⟩) ((MU.pre hPc hKc hDc (hST.mu hS hFc)).vir (va_recv hKc hPc (ci := 6) (q0 := 0) rfl rfl)) rfl rfl hl.1 rfl (lv_room (Nat.le_of_ble_eq_true rfl)) d_RP_readStandard_11 ⟨Nat.zero_le _, Nat.zero_le _⟩) rfl hS (fun q _ h => hFc q h) hFc (fun t H1 locs ht hvm hB hz1 hk1 hS => ?_)
    obtain ⟨q_12, cq_13, hP1, hK1, hD1⟩ := hB
    rw [ht] at hP1
    have hK1 := va_K.moved hvm.symm hK1
    obtain ⟨hP, hD⟩ := va_join (wr := [(rRule, .inr (5, [.ref ruT, .ref ruB, .ref ruE, .int ruHas, .int ruWide, .int w3_5, .int ruUo, .int w3_7, .int w3_8, .int ruUp, .int ruUs, .int ruNev]))]) (w1 := [(h0, .inr (6, [.int z_9, .ref rTape, .int rStart, .int rEnd, .int rWide, .ref rRule, .int z_3, .int z_4, .int z_10, .int z_11])), (rTape, .inr (0, [.ref q_12, .int tpS])), (q_12, .inl (cq_13, tpN, .inl tpA))]) hP hD [0, 1, 2] [3] rfl rfl (by decide) (by decide) hk1 hFc hP1 hD1
    have hK := (hK.sub (tys' := []) [] rfl).app hK1
    generalize H1 = H at hP hS ⊢
    have hP := hP.sub (ws' := [(h0, .inr (6, [.int z_9, .ref rTape, .int rStart, .int rEnd, .int rWide, .ref rRule, .int z_3, .int z_4, .int z_10, .int z_11])), (rTape, .inr (0, [.ref q_12, .int tpS])), (q_12, .inl (cq_13, tpN, .inl tpA)), (rRule, .inr (5, [.ref ruT, .ref ruB, .ref ruE, .int ruHas, .int ruWide, .int w3_5, .int ruUo, .int w3_7, .int w3_8, .int ruUp, .int ruUs, .int ruNev]))]) [1, 2, 3, 0] rfl
    have hD := hD.sub (ws' := [(h0, .inr (6, [.int z_9, .ref rTape, .int rStart, .int rEnd, .int rWide, .ref rRule, .int z_3, .int z_4, .int z_10, .int z_11])), (rTape, .inr (0, [.ref q_12, .int tpS])), (q_12, .inl (cq_13, tpN, .inl tpA)), (rRule, .inr (5, [.ref ruT, .ref ruB, .ref ruE, .int ruHas, .int ruWide, .int w3_5, .int ruUo, .int w3_7, .int w3_8, .int ruUp, .int ruUs, .int ruNev]))]) [1, 2, 3, 0] (by decide) rfl
    have hK := hK.sub (tys' := [(cq_13, .byte)]) [0] rfl
    refine lv_if_ne (tgt := 19) hx hb d_RP_readStandard_14 (by decide) (fun c_14 => ?_) (fun c_14 => ?_)
    · have hf := it_f c_14 hf
      refine lv_aload_n hx hb d_RP_readStandard_19 rfl (lv_at hl 0 rfl) ?_
      refine va_get (D := (dC, dI)) (ci := 6) (v := .ref rRule) (C := RRuleParser) (T := TRuleParser) (N := 10) hx hb hts in_RuleParser hown hK hP 0 rfl rfl 5 (by decide) (hts (.fieldLink "ZoneFiles$RuleParser" 24 "ZoneFiles$RuleParser" "rule" "LZoneFiles$Rule;") m_4_58) (fun _ h9 => h9) rfl d_RP_readStandard_20 ?_
      refine lv_aload_n hx hb d_RP_readStandard_23 rfl (lv_at hl 0 rfl) ?_
      refine va_get (D := (dC, dI)) (ci := 6) (v := .int z_3) (C := RRuleParser) (T := TRuleParser) (N := 10) hx hb hts in_RuleParser hown hK hP 0 rfl rfl 6 (by decide) (hts (.fieldLink "ZoneFiles$RuleParser" 83 "ZoneFiles$RuleParser" "namePlace" "I") m_4_59) (fun _ h9 => h9) rfl d_RP_readStandard_24 ?_
      refine lv_aload_n hx hb d_RP_readStandard_27 rfl (lv_at hl 0 rfl) ?_
      refine va_get (D := (dC, dI)) (ci := 6) (v := .int rStart) (C := RRuleParser) (T := TRuleParser) (N := 10) hx hb hts in_RuleParser hown hK hP 0 rfl rfl 2 (by decide) (hts (.fieldLink "ZoneFiles$RuleParser" 13 "ZoneFiles$RuleParser" "start" "I") m_4_55) (fun _ h9 => h9) rfl d_RP_readStandard_28 ?_
      refine lv_isub hx hb d_RP_readStandard_31 ?_
      refine va_put (D := (dC, dI)) (ci := 5) (v := .int (z_3 - rStart)) (ty := .int) (C := RRule) (T := TRule) (N := 12) hx hb hts in_Rule tyRule ty_Rule nm_Rule hown hK hP hD hS 3 rfl rfl 7 (by decide) (hts (.fieldLink "ZoneFiles$RuleParser" 86 "ZoneFiles$Rule" "standardNamePlace" "I") m_1_126) (fun _ h9 => h9) rfl (by decide +kernel) rfl rfl (Nat.le_of_ble_eq_true rfl) d_RP_readStandard_32 (fun H locs hP hD hS => ?_)
      have hP : va_P (dC, dI) classes [(h0, .inr (6, [.int z_9, .ref rTape, .int rStart, .int rEnd, .int rWide, .ref rRule, .int z_3, .int z_4, .int z_10, .int z_11])), (rTape, .inr (0, [.ref q_12, .int tpS])), (q_12, .inl (cq_13, tpN, .inl tpA)), (rRule, .inr (5, [.ref ruT, .ref ruB, .ref ruE, .int ruHas, .int ruWide, .int w3_5, .int ruUo, .int (z_3 - rStart), .int w3_8, .int ruUp, .int ruUs, .int ruNev]))] H := hP
      have hD : va_D A [(h0, .inr (6, [.int z_9, .ref rTape, .int rStart, .int rEnd, .int rWide, .ref rRule, .int z_3, .int z_4, .int z_10, .int z_11])), (rTape, .inr (0, [.ref q_12, .int tpS])), (q_12, .inl (cq_13, tpN, .inl tpA)), (rRule, .inr (5, [.ref ruT, .ref ruB, .ref ruE, .int ruHas, .int ruWide, .int w3_5, .int ruUo, .int (z_3 - rStart), .int w3_8, .int ruUp, .int ruUs, .int ruNev]))] := hD
      refine lv_aload_n hx hb d_RP_readStandard_35 rfl (lv_at hl 0 rfl) ?_
      refine va_get (D := (dC, dI)) (ci := 6) (v := .ref rRule) (C := RRuleParser) (T := TRuleParser) (N := 10) hx hb hts in_RuleParser hown hK hP 0 rfl rfl 5 (by decide) (hts (.fieldLink "ZoneFiles$RuleParser" 24 "ZoneFiles$RuleParser" "rule" "LZoneFiles$Rule;") m_4_58) (fun _ h9 => h9) rfl d_RP_readStandard_36 ?_
      refine lv_aload_n hx hb d_RP_readStandard_39 rfl (lv_at hl 0 rfl) ?_
      refine va_get (D := (dC, dI)) (ci := 6) (v := .int z_4) (C := RRuleParser) (T := TRuleParser) (N := 10) hx hb hts in_RuleParser hown hK hP 0 rfl rfl 7 (by decide) (hts (.fieldLink "ZoneFiles$RuleParser" 89 "ZoneFiles$RuleParser" "nameSize" "I") m_4_60) (fun _ h9 => h9) rfl d_RP_readStandard_40 ?_
      refine va_put (D := (dC, dI)) (ci := 5) (v := .int z_4) (ty := .int) (C := RRule) (T := TRule) (N := 12) hx hb hts in_Rule tyRule ty_Rule nm_Rule hown hK hP hD hS 3 rfl rfl 8 (by decide) (hts (.fieldLink "ZoneFiles$RuleParser" 92 "ZoneFiles$Rule" "standardNameSize" "I") m_1_130) (fun _ h9 => h9) rfl (by decide +kernel) rfl rfl (Nat.le_of_ble_eq_true rfl) d_RP_readStandard_43 (fun H locs hP hD hS => ?_)
      have hP : va_P (dC, dI) classes [(h0, .inr (6, [.int z_9, .ref rTape, .int rStart, .int rEnd, .int rWide, .ref rRule, .int z_3, .int z_4, .int z_10, .int z_11])), (rTape, .inr (0, [.ref q_12, .int tpS])), (q_12, .inl (cq_13, tpN, .inl tpA)), (rRule, .inr (5, [.ref ruT, .ref ruB, .ref ruE, .int ruHas, .int ruWide, .int w3_5, .int ruUo, .int (z_3 - rStart), .int z_4, .int ruUp, .int ruUs, .int ruNev]))] H := hP
      have hD : va_D A [(h0, .inr (6, [.int z_9, .ref rTape, .int rStart, .int rEnd, .int rWide, .ref rRule, .int z_3, .int z_4, .int z_10, .int z_11])), (rTape, .inr (0, [.ref q_12, .int tpS])), (q_12, .inl (cq_13, tpN, .inl tpA)), (rRule, .inr (5, [.ref ruT, .ref ruB, .ref ruE, .int ruHas, .int ruWide, .int w3_5, .int ruUo, .int (z_3 - rStart), .int z_4, .int ruUp, .int ruUs, .int ruNev]))] := hD
      refine lv_aload_n hx hb d_RP_readStandard_46 rfl (lv_at hl 0 rfl) ?_
      refine va_get (D := (dC, dI)) (ci := 6) (v := .ref rRule) (C := RRuleParser) (T := TRuleParser) (N := 10) hx hb hts in_RuleParser hown hK hP 0 rfl rfl 5 (by decide) (hts (.fieldLink "ZoneFiles$RuleParser" 24 "ZoneFiles$RuleParser" "rule" "LZoneFiles$Rule;") m_4_58) (fun _ h9 => h9) rfl d_RP_readStandard_47 ?_
      refine lv_aload_n hx hb d_RP_readStandard_50 rfl (lv_at hl 0 rfl) ?_
      refine va_get (D := (dC, dI)) (ci := 6) (v := .int z_10) (C := RRuleParser) (T := TRuleParser) (N := 10) hx hb hts in_RuleParser hown hK hP 0 rfl rfl 8 (by decide) (hts (.fieldLink "ZoneFiles$RuleParser" 95 "ZoneFiles$RuleParser" "amount" "I") m_4_61) (fun _ h9 => h9) rfl d_RP_readStandard_51 ?_
      refine lv_ineg hx hb d_RP_readStandard_54 ?_
      refine va_put (D := (dC, dI)) (ci := 5) (v := .int (-z_10)) (ty := .int) (C := RRule) (T := TRule) (N := 12) hx hb hts in_Rule tyRule ty_Rule nm_Rule hown hK hP hD hS 3 rfl rfl 5 (by decide) (hts (.fieldLink "ZoneFiles$RuleParser" 56 "ZoneFiles$Rule" "standardOffset" "I") m_1_120) (fun _ h9 => h9) rfl (by decide +kernel) rfl rfl (Nat.le_of_ble_eq_true rfl) d_RP_readStandard_55 (fun H locs hP hD hS => ?_)
      have hP : va_P (dC, dI) classes [(h0, .inr (6, [.int z_9, .ref rTape, .int rStart, .int rEnd, .int rWide, .ref rRule, .int z_3, .int z_4, .int z_10, .int z_11])), (rTape, .inr (0, [.ref q_12, .int tpS])), (q_12, .inl (cq_13, tpN, .inl tpA)), (rRule, .inr (5, [.ref ruT, .ref ruB, .ref ruE, .int ruHas, .int ruWide, .int (-z_10), .int ruUo, .int (z_3 - rStart), .int z_4, .int ruUp, .int ruUs, .int ruNev]))] H := hP
      have hD : va_D A [(h0, .inr (6, [.int z_9, .ref rTape, .int rStart, .int rEnd, .int rWide, .ref rRule, .int z_3, .int z_4, .int z_10, .int z_11])), (rTape, .inr (0, [.ref q_12, .int tpS])), (q_12, .inl (cq_13, tpN, .inl tpA)), (rRule, .inr (5, [.ref ruT, .ref ruB, .ref ruE, .int ruHas, .int ruWide, .int (-z_10), .int ruUo, .int (z_3 - rStart), .int z_4, .int ruUp, .int ruUs, .int ruNev]))] := hD
      refine lv_iconst (v := 1) hx hb d_RP_readStandard_58 (by decide) ?_
      cases rs hf
      exact hE _ _ _ _ d_RP_readStandard_59 rfl hP hD hS hK
    · have hf := it_t c_14 hf
      exact k_RP_readStandard_17 C0 hST hA hE hf hK hP hD hS (lv_sub hl [] rfl)
end
set_option maxHeartbeats 400000 in
set_option maxRecDepth 100000 in
theorem c_RP_readStandard (l : Launch) (dC : Nat → ClassId) (dI : Nat → Nat → Nat) (h0 : Nat) (rTape : Nat) (rRule : Nat) (tpR : Nat) (ruT : Nat) (ruB : Nat) (ruE : Nat) (cAtpR : ClassId) (sz : Nat) (nf : Nat) (rPos : Int32) (rStart : Int32) (rEnd : Int32) (rWide : Int32) (rNp : Int32) (rNs : Int32) (rAm : Int32) (rAw : Int32) (tpS : Int32) (tpN : Nat) (tpA : Nat → Int32) (ruHas : Int32) (ruWide : Int32) (ruSo : Int32) (ruUo : Int32) (ruSp : Int32) (ruSs : Int32) (ruUp : Int32) (ruUs : Int32) (ruNev : Int32) {r0 : Int32} {v0_0 : Int32} {v0_6 : Int32} {v0_7 : Int32} {v0_8 : Int32} {v0_9 : Int32} {v3_5 : Int32} {v3_7 : Int32} {v3_8 : Int32} (hf : f_RP_readStandard nf rPos rStart rEnd rNp rNs rAm rAw tpS tpN tpA ruSo ruSp ruSs = some (r0, v0_0, v0_6, v0_7, v0_8, v0_9, v3_5, v3_7, v3_8)) : Met l y_RP_readStandard (wd y_RP_readStandard b_RP_readStandard 1 (some .boolean)) ({ frames := 4, cells := 0, slots := 0, locals := 94 }) (MU dC dI [(h0, .inr (6, [.int rPos, .ref rTape, .int rStart, .int rEnd, .int rWide, .ref rRule, .int rNp, .int rNs, .int rAm, .int rAw])), (rTape, .inr (0, [.ref tpR, .int tpS])), (tpR, .inl (cAtpR, tpN, .inl tpA)), (rRule, .inr (5, [.ref ruT, .ref ruB, .ref ruE, .int ruHas, .int ruWide, .int ruSo, .int ruUo, .int ruSp, .int ruSs, .int ruUp, .int ruUs, .int ruNev]))] [(cAtpR, .byte)] sz [.ref h0]) (MV (some (.int r0)) (fun t => ∃ (q2 : Nat) (nA2 : ClassId), va_P (dC, dI) classes [(h0, .inr (6, [.int v0_0, .ref rTape, .int rStart, .int rEnd, .int rWide, .ref rRule, .int v0_6, .int v0_7, .int v0_8, .int v0_9])), (rTape, .inr (0, [.ref q2, .int tpS])), (q2, .inl (nA2, tpN, .inl tpA)), (rRule, .inr (5, [.ref ruT, .ref ruB, .ref ruE, .int ruHas, .int ruWide, .int v3_5, .int ruUo, .int v3_7, .int v3_8, .int ruUp, .int ruUs, .int ruNev]))] t.heap ∧ va_K (dC, dI) classes [(nA2, .byte)] t ∧ va_D (va_A [(h0, .inr (6, [.int rPos, .ref rTape, .int rStart, .int rEnd, .int rWide, .ref rRule, .int rNp, .int rNs, .int rAm, .int rAw])), (rTape, .inr (0, [.ref tpR, .int tpS])), (tpR, .inl (cAtpR, tpN, .inl tpA)), (rRule, .inr (5, [.ref ruT, .ref ruB, .ref ruE, .int ruHas, .int ruWide, .int ruSo, .int ruUo, .int ruSp, .int ruSs, .int ruUp, .int ruUs, .int ruNev]))] sz) [(h0, .inr (6, [.int v0_0, .ref rTape, .int rStart, .int rEnd, .int rWide, .ref rRule, .int v0_6, .int v0_7, .int v0_8, .int v0_9])), (rTape, .inr (0, [.ref q2, .int tpS])), (q2, .inl (nA2, tpN, .inl tpA)), (rRule, .inr (5, [.ref ruT, .ref ruB, .ref ruE, .int ruHas, .int ruWide, .int v3_5, .int ruUo, .int v3_7, .int v3_8, .int ruUp, .int ruUs, .int ruNev]))]) (va_A [(h0, .inr (6, [.int rPos, .ref rTape, .int rStart, .int rEnd, .int rWide, .ref rRule, .int rNp, .int rNs, .int rAm, .int rAw])), (rTape, .inr (0, [.ref tpR, .int tpS])), (tpR, .inl (cAtpR, tpN, .inl tpA)), (rRule, .inr (5, [.ref ruT, .ref ruB, .ref ruE, .int ruHas, .int ruWide, .int ruSo, .int ruUo, .int ruSp, .int ruSs, .int ruUp, .int ruUs, .int ruNev]))] sz)) 0 0 (va_A [(h0, .inr (6, [.int rPos, .ref rTape, .int rStart, .int rEnd, .int rWide, .ref rRule, .int rNp, .int rNs, .int rAm, .int rAw])), (rTape, .inr (0, [.ref tpR, .int tpS])), (tpR, .inl (cAtpR, tpN, .inl tpA)), (rRule, .inr (5, [.ref ruT, .ref ruB, .ref ruE, .int ruHas, .int ruWide, .int ruSo, .int ruUo, .int ruSp, .int ruSs, .int ruUp, .int ruUs, .int ruNev]))] sz) :=
  met_M (plainFor_of_name (by decide)) (Nat.le_of_ble_eq_true rfl) (fun p e R s m args below meth c ls hRc hRs hsz hin C0 hST hK hP hD hl => by
    obtain ⟨hx, hb, hr, hml, hown, hts, hlocks, hRf, hRl⟩ := id C0
    subst hsz
    have hA : ∀ q : Nat, s.heap.size ≤ q → va_A [(h0, .inr (6, [.int rPos, .ref rTape, .int rStart, .int rEnd, .int rWide, .ref rRule, .int rNp, .int rNs, .int rAm, .int rAw])), (rTape, .inr (0, [.ref tpR, .int tpS])), (tpR, .inl (cAtpR, tpN, .inl tpA)), (rRule, .inr (5, [.ref ruT, .ref ruB, .ref ruE, .int ruHas, .int ruWide, .int ruSo, .int ruUo, .int ruSp, .int ruSs, .int ruUp, .int ruUs, .int ruNev]))] s.heap.size q := fun q h => Or.inr h
    have hS : va_S (va_A [(h0, .inr (6, [.int rPos, .ref rTape, .int rStart, .int rEnd, .int rWide, .ref rRule, .int rNp, .int rNs, .int rAm, .int rAw])), (rTape, .inr (0, [.ref tpR, .int tpS])), (tpR, .inl (cAtpR, tpN, .inl tpA)), (rRule, .inr (5, [.ref ruT, .ref ruB, .ref ruE, .int ruHas, .int ruWide, .int ruSo, .int ruUo, .int ruSp, .int ruSs, .int ruUp, .int ruUs, .int ruNev]))] s.heap.size) s.heap s.heap [] := va_S.rf
    unfold f_RP_readStandard at hf
    exact k_RP_readStandard_0 C0 hST hA (fun pc ls {q2} {nA2} H locs hd hn hP hD hS hK => W.zret hx hb hr hn (fun t ht hW => ⟨⟨rfl, ⟨q2, nA2, by rw [ht]; exact hP, va_K.moved hW.alike hK, hD⟩⟩, hS.F ht⟩) hS.2.2 hd) hf hK hP hD hS (lv_sub hl [0] rfl))
-- ZoneFiles$RuleParser.readText()Z
def f_RP_readText_130 (nf : Nat) (rStart : Int32) (rEnd : Int32) (tpS : Int32) (tpN : Nat) (tpA : Nat → Int32) (w0_0 : Int32) (w0_6 : Int32) (w0_7 : Int32) (w0_8 : Int32) (w0_9 : Int32) (w3_3 : Int32) (w3_4 : Int32) (w3_5 : Int32) (w3_6 : Int32) (w3_7 : Int32) (w3_8 : Int32) (w3_9 : Int32) (w3_10 : Int32) (w3_11 : Int32) (w4_1 : Int32) (w5_n : Nat) (w5_a : Nat → Int32) (w6_0 : Int32) (w6_1 : Int32) (w6_2 : Int32) (w6_3 : Int32) (w6_4 : Int32) (w6_5 : Int32) (w7_0 : Int32) (w7_1 : Int32) (w7_2 : Int32) (w7_3 : Int32) (w7_4 : Int32) (w7_5 : Int32) : Option ((Int32 × Int32 × Int32 × Int32 × Int32 × Int32 × Int32 × Int32 × Int32 × Int32 × Int32 × Int32 × Int32 × Int32 × Int32 × Int32 × Nat × (Nat → Int32) × Int32 × Int32 × Int32 × Int32 × Int32 × Int32 × Int32 × Int32 × Int32 × Int32 × Int32 × Int32) × Nat × Nat) :=
  (f_By_putAll nf rStart rEnd w4_1 w5_n w5_a tpS tpN tpA).bind fun ((z_25, z_26, z_27), kc_32, ks_33) =>
  ad kc_32 ks_33 (some ((1, w0_0, w0_6, w0_7, w0_8, w0_9, w3_3, w3_4, w3_5, w3_6, w3_7, w3_8, w3_9, w3_10, w3_11, z_25, z_26, z_27, w6_0, w6_1, w6_2, w6_3, w6_4, w6_5, w7_0, w7_1, w7_2, w7_3, w7_4, w7_5), 0, 0))
def f_RP_readText_86 (nf : Nat) (w0_0 : Int32) (w0_6 : Int32) (w0_7 : Int32) (w0_8 : Int32) (w0_9 : Int32) (w3_3 : Int32) (w3_4 : Int32) (w3_5 : Int32) (w3_6 : Int32) (w3_7 : Int32) (w3_8 : Int32) (w3_9 : Int32) (w3_10 : Int32) (w3_11 : Int32) (w4_1 : Int32) (w5_n : Nat) (w5_a : Nat → Int32) (w6_0 : Int32) (w6_1 : Int32) (w6_2 : Int32) (w6_3 : Int32) (w6_4 : Int32) (w6_5 : Int32) (w7_0 : Int32) (w7_1 : Int32) (w7_2 : Int32) (w7_3 : Int32) (w7_4 : Int32) (w7_5 : Int32) : Option ((Int32 × Int32 × Int32 × Int32 × Int32 × Int32 × Int32 × Int32 × Int32 × Int32 × Int32 × Int32 × Int32 × Int32 × Int32 × Int32 × Nat × (Nat → Int32) × Int32 × Int32 × Int32 × Int32 × Int32 × Int32 × Int32 × Int32 × Int32 × Int32 × Int32 × Int32) × Nat × Nat) :=
  some ((0, w0_0, w0_6, w0_7, w0_8, w0_9, w3_3, w3_4, w3_5, w3_6, w3_7, w3_8, w3_9, w3_10, w3_11, w4_1, w5_n, w5_a, w6_0, w6_1, w6_2, w6_3, w6_4, w6_5, w7_0, w7_1, w7_2, w7_3, w7_4, w7_5), 0, 0)
def f_RP_readText_0 (nf : Nat) (rStart : Int32) (rEnd : Int32) (rWide : Int32) (tpS : Int32) (tpN : Nat) (tpA : Nat → Int32) (w0_0 : Int32) (w0_6 : Int32) (w0_7 : Int32) (w0_8 : Int32) (w0_9 : Int32) (w3_3 : Int32) (w3_4 : Int32) (w3_5 : Int32) (w3_6 : Int32) (w3_7 : Int32) (w3_8 : Int32) (w3_9 : Int32) (w3_10 : Int32) (w3_11 : Int32) (w4_1 : Int32) (w5_n : Nat) (w5_a : Nat → Int32) (w6_0 : Int32) (w6_1 : Int32) (w6_2 : Int32) (w6_3 : Int32) (w6_4 : Int32) (w6_5 : Int32) (w7_0 : Int32) (w7_1 : Int32) (w7_2 : Int32) (w7_3 : Int32) (w7_4 : Int32) (w7_5 : Int32) : Option ((Int32 × Int32 × Int32 × Int32 × Int32 × Int32 × Int32 × Int32 × Int32 × Int32 × Int32 × Int32 × Int32 × Int32 × Int32 × Int32 × Nat × (Nat → Int32) × Int32 × Int32 × Int32 × Int32 × Int32 × Int32 × Int32 × Int32 × Int32 × Int32 × Int32 × Int32) × Nat × Nat) :=
  (f_Rule_clear nf w3_3 w3_4 w3_5 w3_6 w3_7 w3_8 w3_9 w3_10 w3_11 w4_1).bind fun (z_1, z_2, z_3, z_4, z_5, z_6, z_7, z_8, z_9, z_10) =>
  if w0_0 < rEnd then
  (f_RP_readStandard nf w0_0 rStart rEnd w0_6 w0_7 w0_8 w0_9 tpS tpN tpA z_3 z_5 z_6).bind fun (z_12, z_13, z_14, z_15, z_16, z_17, z_18, z_19, z_20) =>
    if z_12 = 0 then
    some ((0, z_13, z_14, z_15, z_16, z_17, z_1, z_2, z_18, z_4, z_19, z_20, z_7, z_8, z_9, z_10, w5_n, w5_a, w6_0, w6_1, w6_2, w6_3, w6_4, w6_5, w7_0, w7_1, w7_2, w7_3, w7_4, w7_5), 0, 0)
    else
    if rEnd ≤ z_13 then
      f_RP_readText_130 nf rStart rEnd tpS tpN tpA z_13 z_14 z_15 z_16 z_17 z_1 z_2 z_18 z_4 z_19 z_20 z_7 z_8 z_9 z_10 w5_n w5_a w6_0 w6_1 w6_2 w6_3 w6_4 w6_5 w7_0 w7_1 w7_2 w7_3 w7_4 w7_5
      else
      (f_RP_readSummer nf z_13 rStart rEnd z_14 z_15 z_16 z_17 tpS tpN tpA z_18 z_4 z_7 z_8).bind fun (z_34, z_35, z_36, z_37, z_38, z_39, z_40, z_41, z_42) =>
        if z_34 = 0 then
        f_RP_readText_86 nf z_35 z_36 z_37 z_38 z_39 z_1 z_2 z_18 z_40 z_19 z_20 z_41 z_42 z_9 z_10 w5_n w5_a w6_0 w6_1 w6_2 w6_3 w6_4 w6_5 w7_0 w7_1 w7_2 w7_3 w7_4 w7_5
        else
        (f_RP_readEdge nf z_35 rEnd rWide z_38 z_39 tpS tpN tpA z_2 w6_0 w6_1 w6_2 w6_3 w6_4).bind fun (z_46, z_47, z_48, z_49, z_50, z_51, z_52, z_53, z_54, z_55) =>
          if z_46 = 0 then
          f_RP_readText_86 nf z_47 z_36 z_37 z_48 z_49 z_1 z_50 z_18 z_40 z_19 z_20 z_41 z_42 z_9 z_10 w5_n w5_a z_51 z_52 z_53 z_54 z_55 w6_5 w7_0 w7_1 w7_2 w7_3 w7_4 w7_5
          else
          (f_RP_readEdge nf z_47 rEnd rWide z_48 z_49 tpS tpN tpA z_50 w7_0 w7_1 w7_2 w7_3 w7_4).bind fun (z_59, z_60, z_61, z_62, z_63, z_64, z_65, z_66, z_67, z_68) =>
            if z_59 = 0 then
            f_RP_readText_86 nf z_60 z_36 z_37 z_61 z_62 z_1 z_63 z_18 z_40 z_19 z_20 z_41 z_42 z_9 z_10 w5_n w5_a z_51 z_52 z_53 z_54 z_55 w6_5 z_64 z_65 z_66 z_67 z_68 w7_5
            else
            if rEnd ≤ z_60 then
              f_RP_readText_130 nf rStart rEnd tpS tpN tpA z_60 z_36 z_37 z_61 z_62 1 z_63 z_18 z_40 z_19 z_20 z_41 z_42 z_9 z_10 w5_n w5_a z_51 z_52 z_53 z_54 z_55 z_18 z_64 z_65 z_66 z_67 z_68 z_40
              else
              f_RP_readText_86 nf z_60 z_36 z_37 z_61 z_62 z_1 z_63 z_18 z_40 z_19 z_20 z_41 z_42 z_9 z_10 w5_n w5_a z_51 z_52 z_53 z_54 z_55 w6_5 z_64 z_65 z_66 z_67 z_68 w7_5
  else
  some ((1, w0_0, w0_6, w0_7, w0_8, w0_9, z_1, z_2, z_3, z_4, z_5, z_6, z_7, z_8, z_9, z_10, w5_n, w5_a, w6_0, w6_1, w6_2, w6_3, w6_4, w6_5, w7_0, w7_1, w7_2, w7_3, w7_4, w7_5), 0, 0)
def f_RP_readText (nf : Nat) (rPos : Int32) (rStart : Int32) (rEnd : Int32) (rWide : Int32) (rNp : Int32) (rNs : Int32) (rAm : Int32) (rAw : Int32) (tpS : Int32) (tpN : Nat) (tpA : Nat → Int32) (ruHas : Int32) (ruWide : Int32) (ruSo : Int32) (ruUo : Int32) (ruSp : Int32) (ruSs : Int32) (ruUp : Int32) (ruUs : Int32) (ruNev : Int32) (txS : Int32) (txN : Nat) (txA : Nat → Int32) (ebKind : Int32) (ebMonth : Int32) (ebWeek : Int32) (ebDay : Int32) (ebTime : Int32) (ebClock : Int32) (eeKind : Int32) (eeMonth : Int32) (eeWeek : Int32) (eeDay : Int32) (eeTime : Int32) (eeClock : Int32) : Option ((Int32 × Int32 × Int32 × Int32 × Int32 × Int32 × Int32 × Int32 × Int32 × Int32 × Int32 × Int32 × Int32 × Int32 × Int32 × Int32 × Nat × (Nat → Int32) × Int32 × Int32 × Int32 × Int32 × Int32 × Int32 × Int32 × Int32 × Int32 × Int32 × Int32 × Int32) × Nat × Nat) :=
  f_RP_readText_0 nf rStart rEnd rWide tpS tpN tpA rPos rNp rNs rAm rAw ruHas ruWide ruSo ruUo ruSp ruSs ruUp ruUs ruNev txS txN txA ebKind ebMonth ebWeek ebDay ebTime ebClock eeKind eeMonth eeWeek eeDay eeTime eeClock
section
variable {p : Program} {l : Launch} {e : Env} {R : Room} {s : State} {m : MethodId} {args : Array Value} {below : List Frame} {meth : Method} {c : Code} {Q : State → Prop} {dC : Nat → ClassId} {dI : Nat → Nat → Nat} {nf : Nat} {A : Nat → Prop}
variable {h0 : Nat} {rTape : Nat} {rRule : Nat} {tpR : Nat} {ruT : Nat} {ruB : Nat} {ruE : Nat} {txR : Nat} {cAtpR : ClassId} {cAtxR : ClassId} {rPos : Int32} {rStart : Int32} {rEnd : Int32} {rWide : Int32} {rNp : Int32} {rNs : Int32} {rAm : Int32} {rAw : Int32} {tpS : Int32} {tpN : Nat} {tpA : Nat → Int32} {ruHas : Int32} {ruWide : Int32} {ruSo : Int32} {ruUo : Int32} {ruSp : Int32} {ruSs : Int32} {ruUp : Int32} {ruUs : Int32} {ruNev : Int32} {txS : Int32} {txN : Nat} {txA : Nat → Int32} {ebKind : Int32} {ebMonth : Int32} {ebWeek : Int32} {ebDay : Int32} {ebTime : Int32} {ebClock : Int32} {eeKind : Int32} {eeMonth : Int32} {eeWeek : Int32} {eeDay : Int32} {eeTime : Int32} {eeClock : Int32} {r0 : Int32} {v0_0 : Int32} {v0_6 : Int32} {v0_7 : Int32} {v0_8 : Int32} {v0_9 : Int32} {v3_3 : Int32} {v3_4 : Int32} {v3_5 : Int32} {v3_6 : Int32} {v3_7 : Int32} {v3_8 : Int32} {v3_9 : Int32} {v3_10 : Int32} {v3_11 : Int32} {v4_1 : Int32} {v5_n : Nat} {v5_a : Nat → Int32} {v6_0 : Int32} {v6_1 : Int32} {v6_2 : Int32} {v6_3 : Int32} {v6_4 : Int32} {v6_5 : Int32} {v7_0 : Int32} {v7_1 : Int32} {v7_2 : Int32} {v7_3 : Int32} {v7_4 : Int32} {v7_5 : Int32}
set_option maxHeartbeats 400000 in
set_option maxRecDepth 100000 in
theorem k_RP_readText_130 (C0 : Cx p s m meth c args R b_RP_readText "ZoneFiles$RuleParser" 1 (some .boolean) 5 115) (hST : ST A s s.heap) (hA : ∀ q, s.heap.size ≤ q → A q) (hE : ∀ (pc : Nat) (ls : Array Slot) {q2 : Nat} {q5 : Nat} {nA2 : ClassId} {nA5 : ClassId} (H : Heap) (locs : List Loc), decode b_RP_readText pc = .ok (.ireturn, 1) → narrow .boolean (.int r0) = .int r0 → va_P (dC, dI) classes [(h0, .inr (6, [.int v0_0, .ref rTape, .int rStart, .int rEnd, .int rWide, .ref rRule, .int v0_6, .int v0_7, .int v0_8, .int v0_9])), (rTape, .inr (0, [.ref q2, .int tpS])), (q2, .inl (nA2, tpN, .inl tpA)), (rRule, .inr (5, [.ref ruT, .ref ruB, .ref ruE, .int v3_3, .int v3_4, .int v3_5, .int v3_6, .int v3_7, .int v3_8, .int v3_9, .int v3_10, .int v3_11])), (ruT, .inr (0, [.ref q5, .int v4_1])), (q5, .inl (nA5, v5_n, .inl v5_a)), (ruB, .inr (1, [.int v6_0, .int v6_1, .int v6_2, .int v6_3, .int v6_4, .int v6_5])), (ruE, .inr (1, [.int v7_0, .int v7_1, .int v7_2, .int v7_3, .int v7_4, .int v7_5]))] H → va_D A [(h0, .inr (6, [.int v0_0, .ref rTape, .int rStart, .int rEnd, .int rWide, .ref rRule, .int v0_6, .int v0_7, .int v0_8, .int v0_9])), (rTape, .inr (0, [.ref q2, .int tpS])), (q2, .inl (nA2, tpN, .inl tpA)), (rRule, .inr (5, [.ref ruT, .ref ruB, .ref ruE, .int v3_3, .int v3_4, .int v3_5, .int v3_6, .int v3_7, .int v3_8, .int v3_9, .int v3_10, .int v3_11])), (ruT, .inr (0, [.ref q5, .int v4_1])), (q5, .inl (nA5, v5_n, .inl v5_a)), (ruB, .inr (1, [.int v6_0, .int v6_1, .int v6_2, .int v6_3, .int v6_4, .int v6_5])), (ruE, .inr (1, [.int v7_0, .int v7_1, .int v7_2, .int v7_3, .int v7_4, .int v7_5]))] → va_S A s.heap H locs → va_K (dC, dI) classes [(nA2, .byte), (nA5, .byte)] s → W p l e R s m args below meth c H locs R.cells R.slots Q (F0 m pc ls [.int r0])) {w0_0 : Int32} {w0_6 : Int32} {w0_7 : Int32} {w0_8 : Int32} {w0_9 : Int32} {w3_3 : Int32} {w3_4 : Int32} {w3_5 : Int32} {w3_6 : Int32} {w3_7 : Int32} {w3_8 : Int32} {w3_9 : Int32} {w3_10 : Int32} {w3_11 : Int32} {w4_1 : Int32} {w5_n : Nat} {w5_a : Nat → Int32} {w6_0 : Int32} {w6_1 : Int32} {w6_2 : Int32} {w6_3 : Int32} {w6_4 : Int32} {w6_5 : Int32} {w7_0 : Int32} {w7_1 : Int32} {w7_2 : Int32} {w7_3 : Int32} {w7_4 : Int32} {w7_5 : Int32} {kc ks : Nat} (hf : f_RP_readText_130 nf rStart rEnd tpS tpN tpA w0_0 w0_6 w0_7 w0_8 w0_9 w3_3 w3_4 w3_5 w3_6 w3_7 w3_8 w3_9 w3_10 w3_11 w4_1 w5_n w5_a w6_0 w6_1 w6_2 w6_3 w6_4 w6_5 w7_0 w7_1 w7_2 w7_3 w7_4 w7_5 = some ((r0, v0_0, v0_6, v0_7, v0_8, v0_9, v3_3, v3_4, v3_5, v3_6, v3_7, v3_8, v3_9, v3_10, v3_11, v4_1, v5_n, v5_a, v6_0, v6_1, v6_2, v6_3, v6_4, v6_5, v7_0, v7_1, v7_2, v7_3, v7_4, v7_5), kc, ks)) {q2 : Nat} {nA2 : ClassId} {q5 : Nat} {nA5 : ClassId} {cells slots : Nat} {H : Heap} {locs : List Loc} {ls : Array Slot} (hK : va_K (dC, dI) classes [(nA2, .byte), (nA5, .byte)] s) (hP : va_P (dC, dI) classes [(h0, .inr (6, [.int w0_0, .ref rTape, .int rStart, .int rEnd, .int rWide, .ref rRule, .int w0_6, .int w0_7, .int w0_8, .int w0_9])), (rTape, .inr (0, [.ref q2, .int tpS])), (q2, .inl (nA2, tpN, .inl tpA)), (rRule, .inr (5, [.ref ruT, .ref ruB, .ref ruE, .int w3_3, .int w3_4, .int w3_5, .int w3_6, .int w3_7, .int w3_8, .int w3_9, .int w3_10, .int w3_11])), (ruT, .inr (0, [.ref q5, .int w4_1])), (q5, .inl (nA5, w5_n, .inl w5_a)), (ruB, .inr (1, [.int w6_0, .int w6_1, .int w6_2, .int w6_3, .int w6_4, .int w6_5])), (ruE, .inr (1, [.int w7_0, .int w7_1, .int w7_2, .int w7_3, .int w7_4, .int w7_5]))] H) (hD : va_D A [(h0, .inr (6, [.int w0_0, .ref rTape, .int rStart, .int rEnd, .int rWide, .ref rRule, .int w0_6, .int w0_7, .int w0_8, .int w0_9])), (rTape, .inr (0, [.ref q2, .int tpS])), (q2, .inl (nA2, tpN, .inl tpA)), (rRule, .inr (5, [.ref ruT, .ref ruB, .ref ruE, .int w3_3, .int w3_4, .int w3_5, .int w3_6, .int w3_7, .int w3_8, .int w3_9, .int w3_10, .int w3_11])), (ruT, .inr (0, [.ref q5, .int w4_1])), (q5, .inl (nA5, w5_n, .inl w5_a)), (ruB, .inr (1, [.int w6_0, .int w6_1, .int w6_2, .int w6_3, .int w6_4, .int w6_5])), (ruE, .inr (1, [.int w7_0, .int w7_1, .int w7_2, .int w7_3, .int w7_4, .int w7_5]))]) (hS : va_S A s.heap H locs) (hkc : cells + kc = R.cells) (hks : slots + ks = R.slots) (hl : lv_has ls 1 [(0, .ref h0)]) : W p l e R s m args below meth c H locs cells slots Q (F0 m 130 ls []) := by
  obtain ⟨hx, hb, hr, hml, hown, hts, hlocks, hRf, hRl⟩ := id C0
  obtain ⟨tms, hZms, hTms, tmg, hZmg, hTmg, hNW⟩ := id hST
  unfold f_RP_readText_130 at hf
  refine lv_aload_n hx hb d_RP_readText_130 rfl (lv_at hl 0 rfl) ?_
  refine va_get (D := (dC, dI)) (ci := 6) (v := .ref rRule) (C := RRuleParser) (T := TRuleParser) (N := 10) hx hb hts in_RuleParser hown hK hP 0 rfl rfl 5 (by decide) (hts (.fieldLink "ZoneFiles$RuleParser" 24 "ZoneFiles$RuleParser" "rule" "LZoneFiles$Rule;") m_4_58) (fun _ h9 => h9) rfl d_RP_readText_131 ?_
  refine va_get (D := (dC, dI)) (ci := 5) (v := .ref ruT) (C := RRule) (T := TRule) (N := 12) hx hb hts in_Rule hown hK hP 3 rfl rfl 0 (by decide) (hts (.fieldLink "ZoneFiles$RuleParser" 67 "ZoneFiles$Rule" "text" "LZoneFiles$Bytes;") m_1_104) (fun _ h9 => h9) rfl d_RP_readText_134 ?_
  refine lv_aload_n hx hb d_RP_readText_137 rfl (lv_at hl 0 rfl) ?_
  refine va_get (D := (dC, dI)) (ci := 6) (v := .ref rTape) (C := RRuleParser) (T := TRuleParser) (N := 10) hx hb hts in_RuleParser hown hK hP 0 rfl rfl 1 (by decide) (hts (.fieldLink "ZoneFiles$RuleParser" 7 "ZoneFiles$RuleParser" "tape" "LZoneFiles$Bytes;") m_4_54) (fun _ h9 => h9) rfl d_RP_readText_138 ?_
  refine lv_aload_n hx hb d_RP_readText_141 rfl (lv_at hl 0 rfl) ?_
  refine va_get (D := (dC, dI)) (ci := 6) (v := .int rStart) (C := RRuleParser) (T := TRuleParser) (N := 10) hx hb hts in_RuleParser hown hK hP 0 rfl rfl 2 (by decide) (hts (.fieldLink "ZoneFiles$RuleParser" 13 "ZoneFiles$RuleParser" "start" "I") m_4_55) (fun _ h9 => h9) rfl d_RP_readText_142 ?_
  refine lv_aload_n hx hb d_RP_readText_145 rfl (lv_at hl 0 rfl) ?_
  refine va_get (D := (dC, dI)) (ci := 6) (v := .int rEnd) (C := RRuleParser) (T := TRuleParser) (N := 10) hx hb hts in_RuleParser hown hK hP 0 rfl rfl 3 (by decide) (hts (.fieldLink "ZoneFiles$RuleParser" 17 "ZoneFiles$RuleParser" "end" "I") m_4_56) (fun _ h9 => h9) rfl d_RP_readText_146 ?_
  obtain ⟨⟨⟨z_25, z_26, z_27⟩, kc_32, ks_33⟩, hc, hf⟩ := ob hf
  obtain ⟨kc, ks, hf, ekc, eks⟩ := oa hf
  have hPc := hP.sub (ws' := [(ruT, .inr (0, [.ref q5, .int w4_1])), (q5, .inl (nA5, w5_n, .inl w5_a)), (rTape, .inr (0, [.ref q2, .int tpS])), (q2, .inl (nA2, tpN, .inl tpA))]) [4, 5, 1, 2] rfl
  have hDc := hD.sub (ws' := [(ruT, .inr (0, [.ref q5, .int w4_1])), (q5, .inl (nA5, w5_n, .inl w5_a)), (rTape, .inr (0, [.ref q2, .int tpS])), (q2, .inl (nA2, tpN, .inl tpA))]) [4, 5, 1, 2] (by decide) rfl
  have hKc := hK.sub (tys' := [(nA5, .byte), (nA2, .byte)]) [1, 0] rfl
  have hFc := va_free (wc := [(ruT, .inr (0, [.ref q5, .int w4_1])), (q5, .inl (nA5, w5_n, .inl w5_a)), (rTape, .inr (0, [.ref q2, .int tpS])), (q2, .inl (nA2, tpN, .inl tpA))]) hD hS hA [4, 5, 1, 2] rfl
  refine cl_M (v := none) (st1 := []) (va_runV (As := [.ref rTape, .int rStart, .int rEnd]) (rest := []) ⟨hx, hb, hml, hown, hts⟩ (c_By_putAll l dC dI ruT rTape q5 q2 nA5 nA2 H.size nf rStart rEnd w4_1 w5_n w5_a tpS tpN tpA hc) (cwV 3 hts (gdV m_4_132 m_3_8 m_3_9 m_1_2 m_3_10) rfl rfl rfl (by decide +kernel) ⟨Nat.le_trans (Nat.le_of_ble_eq_true rfl) hRf, Nat.le_trans (Nat.le_of_ble_eq_true rfl) hRl⟩) ((MU.pre hPc hKc hDc (hST.mu hS hFc)).vir (va_recv hKc hPc (ci := 0) (q0 := 0) rfl rfl)) rfl rfl hl.1 rfl (lv_room (Nat.le_of_ble_eq_true rfl)) d_RP_readText_149 ⟨cb hkc ekc, cb hks eks⟩) rfl hS (fun q _ h => hFc q h) hFc (fun t H1 locs ht hvm hB hz1 hk1 hS => ?_)
  obtain ⟨q_28, q_29, cq_30, cq_31, hP1, hK1, hD1⟩ := hB
  rw [ht] at hP1
  have hK1 := va_K.moved hvm.symm hK1
  obtain ⟨hP, hD⟩ := va_join (wr := [(h0, .inr (6, [.int w0_0, .ref rTape, .int rStart, .int rEnd, .int rWide, .ref rRule, .int w0_6, .int w0_7, .int w0_8, .int w0_9])), (rRule, .inr (5, [.ref ruT, .ref ruB, .ref ruE, .int w3_3, .int w3_4, .int w3_5, .int w3_6, .int w3_7, .int w3_8, .int w3_9, .int w3_10, .int w3_11])), (ruB, .inr (1, [.int w6_0, .int w6_1, .int w6_2, .int w6_3, .int w6_4, .int w6_5])), (ruE, .inr (1, [.int w7_0, .int w7_1, .int w7_2, .int w7_3, .int w7_4, .int w7_5]))]) (w1 := [(ruT, .inr (0, [.ref q_28, .int z_25])), (q_28, .inl (cq_30, z_26, .inl z_27)), (rTape, .inr (0, [.ref q_29, .int tpS])), (q_29, .inl (cq_31, tpN, .inl tpA))]) hP hD [4, 5, 1, 2] [0, 3, 6, 7] rfl rfl (by decide) (by decide) hk1 hFc hP1 hD1
  have hK := (hK.sub (tys' := []) [] rfl).app hK1
  generalize H1 = H at hP hS ⊢
  have hP := hP.sub (ws' := [(h0, .inr (6, [.int w0_0, .ref rTape, .int rStart, .int rEnd, .int rWide, .ref rRule, .int w0_6, .int w0_7, .int w0_8, .int w0_9])), (rTape, .inr (0, [.ref q_29, .int tpS])), (q_29, .inl (cq_31, tpN, .inl tpA)), (rRule, .inr (5, [.ref ruT, .ref ruB, .ref ruE, .int w3_3, .int w3_4, .int w3_5, .int w3_6, .int w3_7, .int w3_8, .int w3_9, .int w3_10, .int w3_11])), (ruT, .inr (0, [.ref q_28, .int z_25])), (q_28, .inl (cq_30, z_26, .inl z_27)), (ruB, .inr (1, [.int w6_0, .int w6_1, .int w6_2, .int w6_3, .int w6_4, .int w6_5])), (ruE, .inr (1, [.int w7_0, .int w7_1, .int w7_2, .int w7_3, .int w7_4, .int w7_5]))]) [0, 6, 7, 1, 4, 5, 2, 3] rfl
  have hD := hD.sub (ws' := [(h0, .inr (6, [.int w0_0, .ref rTape, .int rStart, .int rEnd, .int rWide, .ref rRule, .int w0_6, .int w0_7, .int w0_8, .int w0_9])), (rTape, .inr (0, [.ref q_29, .int tpS])), (q_29, .inl (cq_31, tpN, .inl tpA)), (rRule, .inr (5, [.ref ruT, .ref ruB, .ref ruE, .int w3_3, .int w3_4, .int w3_5, .int w3_6, .int w3_7, .int w3_8, .int w3_9, .int w3_10, .int w3_11])), (ruT, .inr (0, [.ref q_28, .int z_25])), (q_28, .inl (cq_30, z_26, .inl z_27)), (ruB, .inr (1, [.int w6_0, .int w6_1, .int w6_2, .int w6_3, .int w6_4, .int w6_5])), (ruE, .inr (1, [.int w7_0, .int w7_1, .int w7_2, .int w7_3, .int w7_4, .int w7_5]))]) [0, 6, 7, 1, 4, 5, 2, 3] (by decide) rfl
  have hK := hK.sub (tys' := [(cq_31, .byte), (cq_30, .byte)]) [1, 0] rfl
  have hkc := ck hkc ekc
  have hks := ck hks eks
  generalize cells + kc_32 = cells at hkc ⊢
  generalize slots + ks_33 = slots at hks ⊢
  refine lv_iconst (v := 1) hx hb d_RP_readText_152 (by decide) ?_
  cases rs hf
  have hkc : cells = R.cells := hkc
  have hks : slots = R.slots := hks
  subst hkc; subst hks
  exact hE _ _ _ _ d_RP_readText_153 rfl hP hD hS hK
set_option maxHeartbeats 400000 in
set_option maxRecDepth 100000 in
theorem k_RP_readText_86 (C0 : Cx p s m meth c args R b_RP_readText "ZoneFiles$RuleParser" 1 (some .boolean) 5 115) (hST : ST A s s.heap) (hA : ∀ q, s.heap.size ≤ q → A q) (hE : ∀ (pc : Nat) (ls : Array Slot) {q2 : Nat} {q5 : Nat} {nA2 : ClassId} {nA5 : ClassId} (H : Heap) (locs : List Loc), decode b_RP_readText pc = .ok (.ireturn, 1) → narrow .boolean (.int r0) = .int r0 → va_P (dC, dI) classes [(h0, .inr (6, [.int v0_0, .ref rTape, .int rStart, .int rEnd, .int rWide, .ref rRule, .int v0_6, .int v0_7, .int v0_8, .int v0_9])), (rTape, .inr (0, [.ref q2, .int tpS])), (q2, .inl (nA2, tpN, .inl tpA)), (rRule, .inr (5, [.ref ruT, .ref ruB, .ref ruE, .int v3_3, .int v3_4, .int v3_5, .int v3_6, .int v3_7, .int v3_8, .int v3_9, .int v3_10, .int v3_11])), (ruT, .inr (0, [.ref q5, .int v4_1])), (q5, .inl (nA5, v5_n, .inl v5_a)), (ruB, .inr (1, [.int v6_0, .int v6_1, .int v6_2, .int v6_3, .int v6_4, .int v6_5])), (ruE, .inr (1, [.int v7_0, .int v7_1, .int v7_2, .int v7_3, .int v7_4, .int v7_5]))] H → va_D A [(h0, .inr (6, [.int v0_0, .ref rTape, .int rStart, .int rEnd, .int rWide, .ref rRule, .int v0_6, .int v0_7, .int v0_8, .int v0_9])), (rTape, .inr (0, [.ref q2, .int tpS])), (q2, .inl (nA2, tpN, .inl tpA)), (rRule, .inr (5, [.ref ruT, .ref ruB, .ref ruE, .int v3_3, .int v3_4, .int v3_5, .int v3_6, .int v3_7, .int v3_8, .int v3_9, .int v3_10, .int v3_11])), (ruT, .inr (0, [.ref q5, .int v4_1])), (q5, .inl (nA5, v5_n, .inl v5_a)), (ruB, .inr (1, [.int v6_0, .int v6_1, .int v6_2, .int v6_3, .int v6_4, .int v6_5])), (ruE, .inr (1, [.int v7_0, .int v7_1, .int v7_2, .int v7_3, .int v7_4, .int v7_5]))] → va_S A s.heap H locs → va_K (dC, dI) classes [(nA2, .byte), (nA5, .byte)] s → W p l e R s m args below meth c H locs R.cells R.slots Q (F0 m pc ls [.int r0])) {w0_0 : Int32} {w0_6 : Int32} {w0_7 : Int32} {w0_8 : Int32} {w0_9 : Int32} {w3_3 : Int32} {w3_4 : Int32} {w3_5 : Int32} {w3_6 : Int32} {w3_7 : Int32} {w3_8 : Int32} {w3_9 : Int32} {w3_10 : Int32} {w3_11 : Int32} {w4_1 : Int32} {w5_n : Nat} {w5_a : Nat → Int32} {w6_0 : Int32} {w6_1 : Int32} {w6_2 : Int32} {w6_3 : Int32} {w6_4 : Int32} {w6_5 : Int32} {w7_0 : Int32} {w7_1 : Int32} {w7_2 : Int32} {w7_3 : Int32} {w7_4 : Int32} {w7_5 : Int32} {kc ks : Nat} (hf : f_RP_readText_86 nf w0_0 w0_6 w0_7 w0_8 w0_9 w3_3 w3_4 w3_5 w3_6 w3_7 w3_8 w3_9 w3_10 w3_11 w4_1 w5_n w5_a w6_0 w6_1 w6_2 w6_3 w6_4 w6_5 w7_0 w7_1 w7_2 w7_3 w7_4 w7_5 = some ((r0, v0_0, v0_6, v0_7, v0_8, v0_9, v3_3, v3_4, v3_5, v3_6, v3_7, v3_8, v3_9, v3_10, v3_11, v4_1, v5_n, v5_a, v6_0, v6_1, v6_2, v6_3, v6_4, v6_5, v7_0, v7_1, v7_2, v7_3, v7_4, v7_5), kc, ks)) {q2 : Nat} {nA2 : ClassId} {q5 : Nat} {nA5 : ClassId} {cells slots : Nat} {H : Heap} {locs : List Loc} {ls : Array Slot} (hK : va_K (dC, dI) classes [(nA2, .byte), (nA5, .byte)] s) (hP : va_P (dC, dI) classes [(h0, .inr (6, [.int w0_0, .ref rTape, .int rStart, .int rEnd, .int rWide, .ref rRule, .int w0_6, .int w0_7, .int w0_8, .int w0_9])), (rTape, .inr (0, [.ref q2, .int tpS])), (q2, .inl (nA2, tpN, .inl tpA)), (rRule, .inr (5, [.ref ruT, .ref ruB, .ref ruE, .int w3_3, .int w3_4, .int w3_5, .int w3_6, .int w3_7, .int w3_8, .int w3_9, .int w3_10, .int w3_11])), (ruT, .inr (0, [.ref q5, .int w4_1])), (q5, .inl (nA5, w5_n, .inl w5_a)), (ruB, .inr (1, [.int w6_0, .int w6_1, .int w6_2, .int w6_3, .int w6_4, .int w6_5])), (ruE, .inr (1, [.int w7_0, .int w7_1, .int w7_2, .int w7_3, .int w7_4, .int w7_5]))] H) (hD : va_D A [(h0, .inr (6, [.int w0_0, .ref rTape, .int rStart, .int rEnd, .int rWide, .ref rRule, .int w0_6, .int w0_7, .int w0_8, .int w0_9])), (rTape, .inr (0, [.ref q2, .int tpS])), (q2, .inl (nA2, tpN, .inl tpA)), (rRule, .inr (5, [.ref ruT, .ref ruB, .ref ruE, .int w3_3, .int w3_4, .int w3_5, .int w3_6, .int w3_7, .int w3_8, .int w3_9, .int w3_10, .int w3_11])), (ruT, .inr (0, [.ref q5, .int w4_1])), (q5, .inl (nA5, w5_n, .inl w5_a)), (ruB, .inr (1, [.int w6_0, .int w6_1, .int w6_2, .int w6_3, .int w6_4, .int w6_5])), (ruE, .inr (1, [.int w7_0, .int w7_1, .int w7_2, .int w7_3, .int w7_4, .int w7_5]))]) (hS : va_S A s.heap H locs) (hkc : cells + kc = R.cells) (hks : slots + ks = R.slots) (hl : lv_has ls 1 []) : W p l e R s m args below meth c H locs cells slots Q (F0 m 86 ls []) := by
  obtain ⟨hx, hb, hr, hml, hown, hts, hlocks, hRf, hRl⟩ := id C0
  obtain ⟨tms, hZms, hTms, tmg, hZmg, hTmg, hNW⟩ := id hST
  unfold f_RP_readText_86 at hf
  refine lv_iconst (v := 0) hx hb d_RP_readText_86 (by decide) ?_
  cases rs hf
  have hkc : cells = R.cells := hkc
  have hks : slots = R.slots := hks
  subst hkc; subst hks
  exact hE _ _ _ _ d_RP_readText_87 rfl hP hD hS hK
set_option maxHeartbeats 400000 in
set_option maxRecDepth 100000 in
theorem k_RP_readText_0 (C0 : Cx p s m meth c args R b_RP_readText "ZoneFiles$RuleParser" 1 (some .boolean) 5 115) (hST : ST A s s.heap) (hA : ∀ q, s.heap.size ≤ q → A q) (hE : ∀ (pc : Nat) (ls : Array Slot) {q2 : Nat} {q5 : Nat} {nA2 : ClassId} {nA5 : ClassId} (H : Heap) (locs : List Loc), decode b_RP_readText pc = .ok (.ireturn, 1) → narrow .boolean (.int r0) = .int r0 → va_P (dC, dI) classes [(h0, .inr (6, [.int v0_0, .ref rTape, .int rStart, .int rEnd, .int rWide, .ref rRule, .int v0_6, .int v0_7, .int v0_8, .int v0_9])), (rTape, .inr (0, [.ref q2, .int tpS])), (q2, .inl (nA2, tpN, .inl tpA)), (rRule, .inr (5, [.ref ruT, .ref ruB, .ref ruE, .int v3_3, .int v3_4, .int v3_5, .int v3_6, .int v3_7, .int v3_8, .int v3_9, .int v3_10, .int v3_11])), (ruT, .inr (0, [.ref q5, .int v4_1])), (q5, .inl (nA5, v5_n, .inl v5_a)), (ruB, .inr (1, [.int v6_0, .int v6_1, .int v6_2, .int v6_3, .int v6_4, .int v6_5])), (ruE, .inr (1, [.int v7_0, .int v7_1, .int v7_2, .int v7_3, .int v7_4, .int v7_5]))] H → va_D A [(h0, .inr (6, [.int v0_0, .ref rTape, .int rStart, .int rEnd, .int rWide, .ref rRule, .int v0_6, .int v0_7, .int v0_8, .int v0_9])), (rTape, .inr (0, [.ref q2, .int tpS])), (q2, .inl (nA2, tpN, .inl tpA)), (rRule, .inr (5, [.ref ruT, .ref ruB, .ref ruE, .int v3_3, .int v3_4, .int v3_5, .int v3_6, .int v3_7, .int v3_8, .int v3_9, .int v3_10, .int v3_11])), (ruT, .inr (0, [.ref q5, .int v4_1])), (q5, .inl (nA5, v5_n, .inl v5_a)), (ruB, .inr (1, [.int v6_0, .int v6_1, .int v6_2, .int v6_3, .int v6_4, .int v6_5])), (ruE, .inr (1, [.int v7_0, .int v7_1, .int v7_2, .int v7_3, .int v7_4, .int v7_5]))] → va_S A s.heap H locs → va_K (dC, dI) classes [(nA2, .byte), (nA5, .byte)] s → W p l e R s m args below meth c H locs R.cells R.slots Q (F0 m pc ls [.int r0])) {w0_0 : Int32} {w0_6 : Int32} {w0_7 : Int32} {w0_8 : Int32} {w0_9 : Int32} {w3_3 : Int32} {w3_4 : Int32} {w3_5 : Int32} {w3_6 : Int32} {w3_7 : Int32} {w3_8 : Int32} {w3_9 : Int32} {w3_10 : Int32} {w3_11 : Int32} {w4_1 : Int32} {w5_n : Nat} {w5_a : Nat → Int32} {w6_0 : Int32} {w6_1 : Int32} {w6_2 : Int32} {w6_3 : Int32} {w6_4 : Int32} {w6_5 : Int32} {w7_0 : Int32} {w7_1 : Int32} {w7_2 : Int32} {w7_3 : Int32} {w7_4 : Int32} {w7_5 : Int32} {kc ks : Nat} (hf : f_RP_readText_0 nf rStart rEnd rWide tpS tpN tpA w0_0 w0_6 w0_7 w0_8 w0_9 w3_3 w3_4 w3_5 w3_6 w3_7 w3_8 w3_9 w3_10 w3_11 w4_1 w5_n w5_a w6_0 w6_1 w6_2 w6_3 w6_4 w6_5 w7_0 w7_1 w7_2 w7_3 w7_4 w7_5 = some ((r0, v0_0, v0_6, v0_7, v0_8, v0_9, v3_3, v3_4, v3_5, v3_6, v3_7, v3_8, v3_9, v3_10, v3_11, v4_1, v5_n, v5_a, v6_0, v6_1, v6_2, v6_3, v6_4, v6_5, v7_0, v7_1, v7_2, v7_3, v7_4, v7_5), kc, ks)) {q2 : Nat} {nA2 : ClassId} {q5 : Nat} {nA5 : ClassId} {cells slots : Nat} {H : Heap} {locs : List Loc} {ls : Array Slot} (hK : va_K (dC, dI) classes [(nA2, .byte), (nA5, .byte)] s) (hP : va_P (dC, dI) classes [(h0, .inr (6, [.int w0_0, .ref rTape, .int rStart, .int rEnd, .int rWide, .ref rRule, .int w0_6, .int w0_7, .int w0_8, .int w0_9])), (rTape, .inr (0, [.ref q2, .int tpS])), (q2, .inl (nA2, tpN, .inl tpA)), (rRule, .inr (5, [.ref ruT, .ref ruB, .ref ruE, .int w3_3, .int w3_4, .int w3_5, .int w3_6, .int w3_7, .int w3_8, .int w3_9, .int w3_10, .int w3_11])), (ruT, .inr (0, [.ref q5, .int w4_1])), (q5, .inl (nA5, w5_n, .inl w5_a)), (ruB, .inr (1, [.int w6_0, .int w6_1, .int w6_2, .int w6_3, .int w6_4, .int w6_5])), (ruE, .inr (1, [.int w7_0, .int w7_1, .int w7_2, .int w7_3, .int w7_4, .int w7_5]))] H) (hD : va_D A [(h0, .inr (6, [.int w0_0, .ref rTape, .int rStart, .int rEnd, .int rWide, .ref rRule, .int w0_6, .int w0_7, .int w0_8, .int w0_9])), (rTape, .inr (0, [.ref q2, .int tpS])), (q2, .inl (nA2, tpN, .inl tpA)), (rRule, .inr (5, [.ref ruT, .ref ruB, .ref ruE, .int w3_3, .int w3_4, .int w3_5, .int w3_6, .int w3_7, .int w3_8, .int w3_9, .int w3_10, .int w3_11])), (ruT, .inr (0, [.ref q5, .int w4_1])), (q5, .inl (nA5, w5_n, .inl w5_a)), (ruB, .inr (1, [.int w6_0, .int w6_1, .int w6_2, .int w6_3, .int w6_4, .int w6_5])), (ruE, .inr (1, [.int w7_0, .int w7_1, .int w7_2, .int w7_3, .int w7_4, .int w7_5]))]) (hS : va_S A s.heap H locs) (hkc : cells + kc = R.cells) (hks : slots + ks = R.slots) (hl : lv_has ls 1 [(0, .ref h0)]) : W p l e R s m args below meth c H locs cells slots Q (F0 m 0 ls []) := by
  obtain ⟨hx, hb, hr, hml, hown, hts, hlocks, hRf, hRl⟩ := id C0
  obtain ⟨tms, hZms, hTms, tmg, hZmg, hTmg, hNW⟩ := id hST
  unfold f_RP_readText_0 at hf
  refine lv_aload_n hx hb d_RP_readText_0 rfl (lv_at hl 0 rfl) ?_
  refine va_get (D := (dC, dI)) (ci := 6) (v := .ref rRule) (C := RRuleParser) (T := TRuleParser) (N := 10) hx hb hts in_RuleParser hown hK hP 0 rfl rfl 5 (by decide) (hts (.fieldLink "ZoneFiles$RuleParser" 24 "ZoneFiles$RuleParser" "rule" "LZoneFiles$Rule;") m_4_58) (fun _ h9 => h9) rfl d_RP_readText_1 ?_
  obtain ⟨⟨z_1, z_2, z_3, z_4, z_5, z_6, z_7, z_8, z_9, z_10⟩, hc, hf⟩ := ob hf
  have hPc := hP.sub (ws' := [(rRule, .inr (5, [.ref ruT, .ref ruB, .ref ruE, .int w3_3, .int w3_4, .int w3_5, .int w3_6, .int w3_7, .int w3_8, .int w3_9, .int w3_10, .int w3_11])), (ruT, .inr (0, [.ref q5, .int w4_1]))]) [3, 4] rfl
  have hDc := hD.sub (ws' := [(rRule, .inr (5, [.ref ruT, .ref ruB, .ref ruE, .int w3_3, .int w3_4, .int w3_5, .int w3_6, .int w3_7, .int w3_8, .int w3_9, .int w3_10, .int w3_11])), (ruT, .inr (0, [.ref q5, .int w4_1]))]) [3, 4] (by decide) rfl
  have hKc := hK.sub (tys' := []) [] rfl
  have hFc := va_free (wc := [(rRule, .inr (5, [.ref ruT, .ref ruB, .ref ruE, .int w3_3, .int w3_4, .int w3_5, .int w3_6, .int w3_7, .int w3_8, .int w3_9, .int w3_10, .int w3_11])), (ruT, .inr (0, [.ref q5, .int w4_1]))]) hD hS hA [3, 4] rfl
  refine cl_M (v := none) (st1 := []) (va_runV (As := []) (rest := []) ⟨hx, hb, hml, hown, hts⟩ (c_Rule_clear l dC dI rRule ruT ruB ruE q5 H.size nf w3_3 w3_4 w3_5 w3_6 w3_7 w3_8 w3_9 w3_10 w3_11 w4_1 hc) (cwV 0 hts (gdV m_4_88 m_2_30 m_2_31 m_1_4 m_2_32) rfl rfl rfl (by decide +kernel) ⟨Nat.le_trans (Nat.le_of_ble_eq_true rfl) hRf, Nat.le_trans (Nat.le_of_ble_eq_true rfl) hRl⟩) ((MU.pre hPc hKc hDc (hST.mu hS hFc)).vir (va_recv hKc hPc (ci := 5) (q0 := 0) rfl rfl)) rfl rfl hl.1 rfl (lv_room (Nat.le_of_ble_eq_true rfl)) d_RP_readText_4 ⟨c0 hkc, c0 hks⟩) rfl hS (fun q _ h => hFc q h) hFc (fun t H1 locs ht hvm hB hz1 hk1 hS => ?_)
  obtain ⟨hP1, hK1, hD1⟩ := hB
  rw [ht] at hP1
  have hK1 := va_K.moved hvm.symm hK1
  obtain ⟨hP, hD⟩ := va_join (wr := [(h0, .inr (6, [.int w0_0, .ref rTape, .int rStart, .int rEnd, .int rWide, .ref rRule, .int w0_6, .int w0_7, .int w0_8, .int w0_9])), (rTape, .inr (0, [.ref q2, .int tpS])), (q2, .inl (nA2, tpN, .inl tpA)), (q5, .inl (nA5, w5_n, .inl w5_a)), (ruB, .inr (1, [.int w6_0, .int w6_1, .int w6_2, .int w6_3, .int w6_4, .int w6_5])), (ruE, .inr (1, [.int w7_0, .int w7_1, .int w7_2, .int w7_3, .int w7_4, .int w7_5]))]) (w1 := [(rRule, .inr (5, [.ref ruT, .ref ruB, .ref ruE, .int z_1, .int z_2, .int z_3, .int z_4, .int z_5, .int z_6, .int z_7, .int z_8, .int z_9])), (ruT, .inr (0, [.ref q5, .int z_10]))]) hP hD [3, 4] [0, 1, 2, 5, 6, 7] rfl rfl (by decide) (by decide) hk1 hFc hP1 hD1
  have hK := (hK.sub (tys' := [(nA2, .byte), (nA5, .byte)]) [0, 1] rfl).app hK1
  generalize H1 = H at hP hS ⊢
  have hP := hP.sub (ws' := [(h0, .inr (6, [.int w0_0, .ref rTape, .int rStart, .int rEnd, .int rWide, .ref rRule, .int w0_6, .int w0_7, .int w0_8, .int w0_9])), (rTape, .inr (0, [.ref q2, .int tpS])), (q2, .inl (nA2, tpN, .inl tpA)), (rRule, .inr (5, [.ref ruT, .ref ruB, .ref ruE, .int z_1, .int z_2, .int z_3, .int z_4, .int z_5, .int z_6, .int z_7, .int z_8, .int z_9])), (ruT, .inr (0, [.ref q5, .int z_10])), (q5, .inl (nA5, w5_n, .inl w5_a)), (ruB, .inr (1, [.int w6_0, .int w6_1, .int w6_2, .int w6_3, .int w6_4, .int w6_5])), (ruE, .inr (1, [.int w7_0, .int w7_1, .int w7_2, .int w7_3, .int w7_4, .int w7_5]))]) [0, 1, 2, 6, 7, 3, 4, 5] rfl
  have hD := hD.sub (ws' := [(h0, .inr (6, [.int w0_0, .ref rTape, .int rStart, .int rEnd, .int rWide, .ref rRule, .int w0_6, .int w0_7, .int w0_8, .int w0_9])), (rTape, .inr (0, [.ref q2, .int tpS])), (q2, .inl (nA2, tpN, .inl tpA)), (rRule, .inr (5, [.ref ruT, .ref ruB, .ref ruE, .int z_1, .int z_2, .int z_3, .int z_4, .int z_5, .int z_6, .int z_7, .int z_8, .int z_9])), (ruT, .inr (0, [.ref q5, .int z_10])), (q5, .inl (nA5, w5_n, .inl w5_a)), (ruB, .inr (1, [.int w6_0, .int w6_1, .int w6_2, .int w6_3, .int w6_4, .int w6_5])), (ruE, .inr (1, [.int w7_0, .int w7_1, .int w7_2, .int w7_3, .int w7_4, .int w7_5]))]) [0, 1, 2, 6, 7, 3, 4, 5] (by decide) rfl
  have hK := hK.sub (tys' := [(nA2, .byte), (nA5, .byte)]) [0, 1] rfl
  refine lv_aload_n hx hb d_RP_readText_7 rfl (lv_at hl 0 rfl) ?_
  refine va_get (D := (dC, dI)) (ci := 6) (v := .int w0_0) (C := RRuleParser) (T := TRuleParser) (N := 10) hx hb hts in_RuleParser hown hK hP 0 rfl rfl 0 (by decide) (hts (.fieldLink "ZoneFiles$RuleParser" 28 "ZoneFiles$RuleParser" "pos" "I") m_4_51) (fun _ h9 => h9) rfl d_RP_readText_8 ?_
  refine lv_aload_n hx hb d_RP_readText_11 rfl (lv_at hl 0 rfl) ?_
  refine va_get (D := (dC, dI)) (ci := 6) (v := .int rEnd) (C := RRuleParser) (T := TRuleParser) (N := 10) hx hb hts in_RuleParser hown hK hP 0 rfl rfl 3 (by decide) (hts (.fieldLink "ZoneFiles$RuleParser" 17 "ZoneFiles$RuleParser" "end" "I") m_4_56) (fun _ h9 => h9) rfl d_RP_readText_12 ?_
  refine lv_icmp_lt (tgt := 20) hx hb d_RP_readText_15 (by decide) (fun c_11 => ?_) (fun c_11 => ?_)
  · have hf := it_t c_11 hf
    refine lv_aload_n hx hb d_RP_readText_20 rfl (lv_at hl 0 rfl) ?_
    obtain ⟨⟨z_12, z_13, z_14, z_15, z_16, z_17, z_18, z_19, z_20⟩, hc, hf⟩ := ob hf
    have hPc := hP.sub (ws' := [(h0, .inr (6, [.int w0_0, .ref rTape, .int rStart, .int rEnd, .int rWide, .ref rRule, .int w0_6, .int w0_7, .int w0_8, .int w0_9])), (rTape, .inr (0, [.ref q2, .int tpS])), (q2, .inl (nA2, tpN, .inl tpA)), (rRule, .inr (5, [.ref ruT, .ref ruB, .ref ruE, .int z_1, .int z_2, .int z_3, .int z_4, .int z_5, .int z_6, .int z_7, .int z_8, .int z_9]))]) [0, 1, 2, 3] rfl
    have hDc := hD.sub (ws' := [(h0, .inr (6, [.int w0_0, .ref rTape, .int rStart, .int rEnd, .int rWide, .ref rRule, .int w0_6, .int w0_7, .int w0_8, .int w0_9])), (rTape, .inr (0, [.ref q2, .int tpS])), (q2, .inl (nA2, tpN, .inl tpA)), (rRule, .inr (5, [.ref ruT, .ref ruB, .ref ruE, .int z_1, .int z_2, .int z_3, .int z_4, .int z_5, .int z_6, .int z_7, .int z_8, .int z_9]))]) [0, 1, 2, 3] (by decide) rfl
    have hKc := hK.sub (tys' := [(nA2, .byte)]) [0] rfl
    have hFc := va_free (wc := [(h0, .inr (6, [.int w0_0, .ref rTape, .int rStart, .int rEnd, .int rWide, .ref rRule, .int w0_6, .int w0_7, .int w0_8, .int w0_9])), (rTape, .inr (0, [.ref q2, .int tpS])), (q2, .inl (nA2, tpN, .inl tpA)), (rRule, .inr (5, [.ref ruT, .ref ruB, .ref ruE, .int z_1, .int z_2, .int z_3, .int z_4, .int z_5, .int z_6, .int z_7, .int z_8, .int z_9]))]) hD hS hA [0, 1, 2, 3] rfl
    refine cl_M (v := (some (.int z_12))) (st1 := [.int z_12]) (va_runV (As := []) (rest := []) ⟨hx, hb, hml, hown, hts⟩ (c_RP_readStandard l dC dI h0 rTape rRule q2 ruT ruB ruE nA2 H.size nf w0_0 rStart rEnd rWide w0_6 w0_7 w0_8 w0_9 tpS tpN tpA z_1 z_2 z_3 z_4 z_5 z_6 z_7 z_8 z_9 hc) (cwV 0 hts (gdV m_4_89 m_4_91 msel_30 m_1_17 m_4_92) rfl rfl rfl (by decide +kernel) ⟨Nat.le_trans (Nat.le_of_ble_eq_true rfl) hRf, Nat.le_trans (Nat.le_of_ble_eq_true rfl) hRl⟩) ((MU.pre hPc hKc hDc (hST.mu hS hFc)).vir (va_recv hKc hPc (ci := 6) (q0 := 0) rfl rfl)) rfl rfl hl.1 rfl (lv_room (Nat.le_of_ble_eq_true rfl)) d_RP_readText_21 ⟨c0 hkc, c0 hks⟩) rfl hS (fun q _ h => hFc q h) hFc (fun t H1 locs ht hvm hB hz1 hk1 hS => ?_)
    obtain ⟨q_21, cq_22, hP1, hK1, hD1⟩ := hB
    rw [ht] at hP1
    have hK1 := va_K.moved hvm.symm hK1
    obtain ⟨hP, hD⟩ := va_join (wr := [(ruT, .inr (0, [.ref q5, .int z_10])), (q5, .inl (nA5, w5_n, .inl w5_a)), (ruB, .inr (1, [.int w6_0, .int w6_1, .int w6_2, .int w6_3, .int w6_4, .int w6_5])), (ruE, .inr (1, [.int w7_0, .int w7_1, .int w7_2, .int w7_3, .int w7_4, .int w7_5]))]) (w1 := [(h0, .inr (6, [.int z_13, .ref rTape, .int rStart, .int rEnd, .int rWide, .ref rRule, .int z_14, .int z_15, .int z_16, .int z_17])), (rTape, .inr (0, [.ref q_21, .int tpS])), (q_21, .inl (cq_22, tpN, .inl tpA)), (rRule, .inr (5, [.ref ruT, .ref ruB, .ref ruE, .int z_1, .int z_2, .int z_18, .int z_4, .int z_19, .int z_20, .int z_7, .int z_8, .int z_9]))]) hP hD [0, 1, 2, 3] [4, 5, 6, 7] rfl rfl (by decide) (by decide) hk1 hFc hP1 hD1
    have hK := (hK.sub (tys' := [(nA5, .byte)]) [1] rfl).app hK1
    generalize H1 = H at hP hS ⊢
    have hP := hP.sub (ws' := [(h0, .inr (6, [.int z_13, .ref rTape, .int rStart, .int rEnd, .int rWide, .ref rRule, .int z_14, .int z_15, .int z_16, .int z_17])), (rTape, .inr (0, [.ref q_21, .int tpS])), (q_21, .inl (cq_22, tpN, .inl tpA)), (rRule, .inr (5, [.ref ruT, .ref ruB, .ref ruE, .int z_1, .int z_2, .int z_18, .int z_4, .int z_19, .int z_20, .int z_7, .int z_8, .int z_9])), (ruT, .inr (0, [.ref q5, .int z_10])), (q5, .inl (nA5, w5_n, .inl w5_a)), (ruB, .inr (1, [.int w6_0, .int w6_1, .int w6_2, .int w6_3, .int w6_4, .int w6_5])), (ruE, .inr (1, [.int w7_0, .int w7_1, .int w7_2, .int w7_3, .int w7_4, .int w7_5]))]) [4, 5, 6, 7, 0, 1, 2, 3] rfl
    have hD := hD.sub (ws' := [(h0, .inr (6, [.int z_13, .ref rTape, .int rStart, .int rEnd, .int rWide, .ref rRule, .int z_14, .int z_15, .int z_16, .int z_17])), (rTape, .inr (0, [.ref q_21, .int tpS])), (q_21, .inl (cq_22, tpN, .inl tpA)), (rRule, .inr (5, [.ref ruT, .ref ruB, .ref ruE, .int z_1, .int z_2, .int z_18, .int z_4, .int z_19, .int z_20, .int z_7, .int z_8, .int z_9])), (ruT, .inr (0, [.ref q5, .int z_10])), (q5, .inl (nA5, w5_n, .inl w5_a)), (ruB, .inr (1, [.int w6_0, .int w6_1, .int w6_2, .int w6_3, .int w6_4, .int w6_5])), (ruE, .inr (1, [.int w7_0, .int w7_1, .int w7_2, .int w7_3, .int w7_4, .int w7_5]))]) [4, 5, 6, 7, 0, 1, 2, 3] (by decide) rfl
    have hK := hK.sub (tys' := [(cq_22, .byte), (nA5, .byte)]) [1, 0] rfl
    refine lv_if_ne (tgt := 29) hx hb d_RP_readText_24 (by decide) (fun c_23 => ?_) (fun c_23 => ?_)
    · have hf := it_f c_23 hf
      refine lv_aload_n hx hb d_RP_readText_29 rfl (lv_at hl 0 rfl) ?_
      refine va_get (D := (dC, dI)) (ci := 6) (v := .int z_13) (C := RRuleParser) (T := TRuleParser) (N := 10) hx hb hts in_RuleParser hown hK hP 0 rfl rfl 0 (by decide) (hts (.fieldLink "ZoneFiles$RuleParser" 28 "ZoneFiles$RuleParser" "pos" "I") m_4_51) (fun _ h9 => h9) rfl d_RP_readText_30 ?_
      refine lv_aload_n hx hb d_RP_readText_33 rfl (lv_at hl 0 rfl) ?_
      refine va_get (D := (dC, dI)) (ci := 6) (v := .int rEnd) (C := RRuleParser) (T := TRuleParser) (N := 10) hx hb hts in_RuleParser hown hK hP 0 rfl rfl 3 (by decide) (hts (.fieldLink "ZoneFiles$RuleParser" 17 "ZoneFiles$RuleParser" "end" "I") m_4_56) (fun _ h9 => h9) rfl d_RP_readText_34 ?_
      refine lv_icmp_ge (tgt := 130) hx hb d_RP_readText_37 (by decide) (fun c_24 => ?_) (fun c_24 => ?_)
      · have hf := it_t c_24 hf
        exact k_RP_readText_130 C0 hST hA hE hf hK hP hD hS hkc hks (lv_sub hl [0] rfl)
      · have hf := it_f c_24 hf
        refine lv_aload_n hx hb d_RP_readText_40 rfl (lv_at hl 0 rfl) ?_
        obtain ⟨⟨z_34, z_35, z_36, z_37, z_38, z_39, z_40, z_41, z_42⟩, hc, hf⟩ := ob hf
        have hPc := hP.sub (ws' := [(h0, .inr (6, [.int z_13, .ref rTape, .int rStart, .int rEnd, .int rWide, .ref rRule, .int z_14, .int z_15, .int z_16, .int z_17])), (rTape, .inr (0, [.ref q_21, .int tpS])), (q_21, .inl (cq_22, tpN, .inl tpA)), (rRule, .inr (5, [.ref ruT, .ref ruB, .ref ruE, .int z_1, .int z_2, .int z_18, .int z_4, .int z_19, .int z_20, .int z_7, .int z_8, .int z_9]))]) [0, 1, 2, 3] rfl
        have hDc := hD.sub (ws' := [(h0, .inr (6, [.int z_13, .ref rTape, .int rStart, .int rEnd, .int rWide, .ref rRule, .int z_14, .int z_15, .int z_16, .int z_17])), (rTape, .inr (0, [.ref q_21, .int tpS])), (q_21, .inl (cq_22, tpN, .inl tpA)), (rRule, .inr (5, [.ref ruT, .ref ruB, .ref ruE, .int z_1, .int z_2, .int z_18, .int z_4, .int z_19, .int z_20, .int z_7, .int z_8, .int z_9]))]) [0, 1, 2, 3] (by decide) rfl
        have hKc := hK.sub (tys' := [(cq_22, .byte)]) [0] rfl
        have hFc := va_free (wc := [(h0, .inr (6, [.int z_13, .ref rTape, .int rStart, .int rEnd, .int rWide, .ref rRule, .int z_14, .int z_15, .int z_16, .int z_17])), (rTape, .inr (0, [.ref q_21, .int tpS])), (q_21, .inl (cq_22, tpN, .inl tpA)), (rRule, .inr (5, [.ref ruT, .ref ruB, .ref ruE, .int z_1, .int z_2, .int z_18, .int z_4, .int z_19, .int z_20, .int z_7, .int z_8, .int z_9]))]) hD hS hA [0, 1, 2, 3] rfl
        refine cl_M (v := (some (.int z_34))) (st1 := [.int z_34]) (va_runV (As := []) (rest := []) ⟨hx, hb, hml, hown, hts⟩ (c_RP_readSummer l dC dI h0 rTape rRule q_21 ruT ruB ruE cq_22 H.size nf z_13 rStart rEnd rWide z_14 z_15 z_16 z_17 tpS tpN tpA z_1 z_2 z_18 z_4 z_19 z_20 z_7 z_8 z_9 hc) (cwV 0 hts (gdV m_4_120 m_4_122 msel_36 m_1_17 m_4_123) rfl rfl rfl (by decide +kernel) ⟨Nat.le_trans (Nat.le_of_ble_eq_true rfl) hRf, Nat.le_trans (Nat.le_of_ble_eq_true rfl) hRl⟩) ((MU.pre hPc hKc hDc (hST.mu hS hFc)).vir (va_recv hKc hPc (ci := 6) (q0 := 0) rfl rfl)) rfl rfl hl.1 rfl (lv_room (Nat.le_of_ble_eq_true rfl)) d_RP_readText_41 ⟨c0 hkc, c0 hks⟩) rfl hS (fun q _ h => hFc q h) hFc (fun t H1 locs ht hvm hB hz1 hk1 hS => ?_)
        obtain ⟨q_43, cq_44, hP1, hK1, hD1⟩ := hB
        rw [ht] at hP1
        have hK1 := va_K.moved hvm.symm hK1
        obtain ⟨hP, hD⟩ := va_join (wr := [(ruT, .inr (0, [.ref q5, .int z_10])), (q5, .inl (nA5, w5_n, .inl w5_a)), (ruB, .inr (1, [.int w6_0, .int w6_1, .int w6_2, .int w6_3, .int w6_4, .int w6_5])), (ruE, .inr (1, [.int w7_0, .int w7_1, .int w7_2, .int w7_3, .int w7_4, .int w7_5]))]) (w1 := [(h0, .inr (6, [.int z_35, .ref rTape, .int rStart, .int rEnd, .int rWide, .ref rRule, .int z_36, .int z_37, .int z_38, .int z_39])), (rTape, .inr (0, [.ref q_43, .int tpS])), (q_43, .inl (cq_44, tpN, .inl tpA)), (rRule, .inr (5, [.ref ruT, .ref ruB, .ref ruE, .int z_1, .int z_2, .int z_18, .int z_40, .int z_19, .int z_20, .int z_41, .int z_42, .int z_9]))]) hP hD [0, 1, 2, 3] [4, 5, 6, 7] rfl rfl (by decide) (by decide) hk1 hFc hP1 hD1
        have hK := (hK.sub (tys' := [(nA5, .byte)]) [1] rfl).app hK1
        generalize H1 = H at hP hS ⊢
        have hP := hP.sub (ws' := [(h0, .inr (6, [.int z_35, .ref rTape, .int rStart, .int rEnd, .int rWide, .ref rRule, .int z_36, .int z_37, .int z_38, .int z_39])), (rTape, .inr (0, [.ref q_43, .int tpS])), (q_43, .inl (cq_44, tpN, .inl tpA)), (rRule, .inr (5, [.ref ruT, .ref ruB, .ref ruE, .int z_1, .int z_2, .int z_18, .int z_40, .int z_19, .int z_20, .int z_41, .int z_42, .int z_9])), (ruT, .inr (0, [.ref q5, .int z_10])), (q5, .inl (nA5, w5_n, .inl w5_a)), (ruB, .inr (1, [.int w6_0, .int w6_1, .int w6_2, .int w6_3, .int w6_4, .int w6_5])), (ruE, .inr (1, [.int w7_0, .int w7_1, .int w7_2, .int w7_3, .int w7_4, .int w7_5]))]) [4, 5, 6, 7, 0, 1, 2, 3] rfl
        have hD := hD.sub (ws' := [(h0, .inr (6, [.int z_35, .ref rTape, .int rStart, .int rEnd, .int rWide, .ref rRule, .int z_36, .int z_37, .int z_38, .int z_39])), (rTape, .inr (0, [.ref q_43, .int tpS])), (q_43, .inl (cq_44, tpN, .inl tpA)), (rRule, .inr (5, [.ref ruT, .ref ruB, .ref ruE, .int z_1, .int z_2, .int z_18, .int z_40, .int z_19, .int z_20, .int z_41, .int z_42, .int z_9])), (ruT, .inr (0, [.ref q5, .int z_10])), (q5, .inl (nA5, w5_n, .inl w5_a)), (ruB, .inr (1, [.int w6_0, .int w6_1, .int w6_2, .int w6_3, .int w6_4, .int w6_5])), (ruE, .inr (1, [.int w7_0, .int w7_1, .int w7_2, .int w7_3, .int w7_4, .int w7_5]))]) [4, 5, 6, 7, 0, 1, 2, 3] (by decide) rfl
        have hK := hK.sub (tys' := [(cq_44, .byte), (nA5, .byte)]) [1, 0] rfl
        refine lv_if_eq (tgt := 86) hx hb d_RP_readText_44 (by decide) (fun c_45 => ?_) (fun c_45 => ?_)
        · have hf := it_t c_45 hf
          exact k_RP_readText_86 C0 hST hA hE hf hK hP hD hS hkc hks (lv_sub hl [] rfl)
        · have hf := it_f c_45 hf
          refine lv_aload_n hx hb d_RP_readText_47 rfl (lv_at hl 0 rfl) ?_
          refine lv_aload_n hx hb d_RP_readText_48 rfl (lv_at hl 0 rfl) ?_
          refine va_get (D := (dC, dI)) (ci := 6) (v := .ref rRule) (C := RRuleParser) (T := TRuleParser) (N := 10) hx hb hts in_RuleParser hown hK hP 0 rfl rfl 5 (by decide) (hts (.fieldLink "ZoneFiles$RuleParser" 24 "ZoneFiles$RuleParser" "rule" "LZoneFiles$Rule;") m_4_58) (fun _ h9 => h9) rfl d_RP_readText_49 ?_
          refine va_get (D := (dC, dI)) (ci := 5) (v := .ref ruB) (C := RRule) (T := TRule) (N := 12) hx hb hts in_Rule hown hK hP 3 rfl rfl 1 (by decide) (hts (.fieldLink "ZoneFiles$RuleParser" 43 "ZoneFiles$Rule" "begin" "LZoneFiles$Edge;") m_1_108) (fun _ h9 => h9) rfl d_RP_readText_52 ?_
          obtain ⟨⟨z_46, z_47, z_48, z_49, z_50, z_51, z_52, z_53, z_54, z_55⟩, hc, hf⟩ := ob hf
          have hPc := hP.sub (ws' := [(h0, .inr (6, [.int z_35, .ref rTape, .int rStart, .int rEnd, .int rWide, .ref rRule, .int z_36, .int z_37, .int z_38, .int z_39])), (rTape, .inr (0, [.ref q_43, .int tpS])), (q_43, .inl (cq_44, tpN, .inl tpA)), (rRule, .inr (5, [.ref ruT, .ref ruB, .ref ruE, .int z_1, .int z_2, .int z_18, .int z_40, .int z_19, .int z_20, .int z_41, .int z_42, .int z_9])), (ruB, .inr (1, [.int w6_0, .int w6_1, .int w6_2, .int w6_3, .int w6_4, .int w6_5]))]) [0, 1, 2, 3, 6] rfl
          have hDc := hD.sub (ws' := [(h0, .inr (6, [.int z_35, .ref rTape, .int rStart, .int rEnd, .int rWide, .ref rRule, .int z_36, .int z_37, .int z_38, .int z_39])), (rTape, .inr (0, [.ref q_43, .int tpS])), (q_43, .inl (cq_44, tpN, .inl tpA)), (rRule, .inr (5, [.ref ruT, .ref ruB, .ref ruE, .int z_1, .int z_2, .int z_18, .int z_40, .int z_19, .int z_20, .int z_41, .int z_42, .int z_9])), (ruB, .inr (1, [.int w6_0, .int w6_1, .int w6_2, .int w6_3, .int w6_4, .int w6_5]))]) [0, 1, 2, 3, 6] (by decide) rfl
          have hKc := hK.sub (tys' := [(cq_44, .byte)]) [0] rfl
          have hFc := va_free (wc := [(h0, .inr (6, [.int z_35, .ref rTape, .int rStart, .int rEnd, .int rWide, .ref rRule, .int z_36, .int z_37, .int z_38, .int z_39])), (rTape, .inr (0, [.ref q_43, .int tpS])), (q_43, .inl (cq_44, tpN, .inl tpA)), (rRule, .inr (5, [.ref ruT, .ref ruB, .ref ruE, .int z_1, .int z_2, .int z_18, .int z_40, .int z_19, .int z_20, .int z_41, .int z_42, .int z_9])), (ruB, .inr (1, [.int w6_0, .int w6_1, .int w6_2, .int w6_3, .int w6_4, .int w6_5]))]) hD hS hA [0, 1, 2, 3, 6] rfl
          refine cl_M (v := (some (.int z_46))) (st1 := [.int z_46]) (va_runV (As := [.ref ruB]) (rest := []) ⟨hx, hb, hml, hown, hts⟩ (c_RP_readEdge l dC dI h0 ruB rTape rRule q_43 ruT ruB ruE cq_44 H.size nf z_35 rStart rEnd rWide z_36 z_37 z_38 z_39 tpS tpN tpA z_1 z_2 z_18 z_40 z_19 z_20 z_41 z_42 z_9 w6_0 w6_1 w6_2 w6_3 w6_4 w6_5 hc) (cwV 1 hts (gdV m_4_124 m_4_126 msel_37 m_1_17 m_4_127) rfl rfl rfl (by decide +kernel) ⟨Nat.le_trans (Nat.le_of_ble_eq_true rfl) hRf, Nat.le_trans (Nat.le_of_ble_eq_true rfl) hRl⟩) ((MU.pre hPc hKc hDc (hST.mu hS hFc)).vir (va_recv hKc hPc (ci := 6) (q0 := 0) rfl rfl)) rfl rfl hl.1 rfl (lv_room (Nat.le_of_ble_eq_true rfl)) d_RP_readText_55 ⟨c0 hkc, c0 hks⟩) rfl hS (fun q _ h => hFc q h) hFc (fun t H1 locs ht hvm hB hz1 hk1 hS => ?_)
          obtain ⟨q_56, cq_57, hP1, hK1, hD1⟩ := hB
          rw [ht] at hP1
          have hK1 := va_K.moved hvm.symm hK1
          obtain ⟨hP, hD⟩ := va_join (wr := [(ruT, .inr (0, [.ref q5, .int z_10])), (q5, .inl (nA5, w5_n, .inl w5_a)), (ruE, .inr (1, [.int w7_0, .int w7_1, .int w7_2, .int w7_3, .int w7_4, .int w7_5]))]) (w1 := [(h0, .inr (6, [.int z_47, .ref rTape, .int rStart, .int rEnd, .int rWide, .ref rRule, .int z_36, .int z_37, .int z_48, .int z_49])), (rTape, .inr (0, [.ref q_56, .int tpS])), (q_56, .inl (cq_57, tpN, .inl tpA)), (rRule, .inr (5, [.ref ruT, .ref ruB, .ref ruE, .int z_1, .int z_50, .int z_18, .int z_40, .int z_19, .int z_20, .int z_41, .int z_42, .int z_9])), (ruB, .inr (1, [.int z_51, .int z_52, .int z_53, .int z_54, .int z_55, .int w6_5]))]) hP hD [0, 1, 2, 3, 6] [4, 5, 7] rfl rfl (by decide) (by decide) hk1 hFc hP1 hD1
          have hK := (hK.sub (tys' := [(nA5, .byte)]) [1] rfl).app hK1
          generalize H1 = H at hP hS ⊢
          have hP := hP.sub (ws' := [(h0, .inr (6, [.int z_47, .ref rTape, .int rStart, .int rEnd, .int rWide, .ref rRule, .int z_36, .int z_37, .int z_48, .int z_49])), (rTape, .inr (0, [.ref q_56, .int tpS])), (q_56, .inl (cq_57, tpN, .inl tpA)), (rRule, .inr (5, [.ref ruT, .ref ruB, .ref ruE, .int z_1, .int z_50, .int z_18, .int z_40, .int z_19, .int z_20, .int z_41, .int z_42, .int z_9])), (ruT, .inr (0, [.ref q5, .int z_10])), (q5, .inl (nA5, w5_n, .inl w5_a)), (ruB, .inr (1, [.int z_51, .int z_52, .int z_53, .int z_54, .int z_55, .int w6_5])), (ruE, .inr (1, [.int w7_0, .int w7_1, .int w7_2, .int w7_3, .int w7_4, .int w7_5]))]) [3, 4, 5, 6, 0, 1, 7, 2] rfl
          have hD := hD.sub (ws' := [(h0, .inr (6, [.int z_47, .ref rTape, .int rStart, .int rEnd, .int rWide, .ref rRule, .int z_36, .int z_37, .int z_48, .int z_49])), (rTape, .inr (0, [.ref q_56, .int tpS])), (q_56, .inl (cq_57, tpN, .inl tpA)), (rRule, .inr (5, [.ref ruT, .ref ruB, .ref ruE, .int z_1, .int z_50, .int z_18, .int z_40, .int z_19, .int z_20, .int z_41, .int z_42, .int z_9])), (ruT, .inr (0, [.ref q5, .int z_10])), (q5, .inl (nA5, w5_n, .inl w5_a)), (ruB, .inr (1, [.int z_51, .int z_52, .int z_53, .int z_54, .int z_55, .int w6_5])), (ruE, .inr (1, [.int w7_0, .int w7_1, .int w7_2, .int w7_3, .int w7_4, .int w7_5]))]) [3, 4, 5, 6, 0, 1, 7, 2] (by decide) rfl
          have hK := hK.sub (tys' := [(cq_57, .byte), (nA5, .byte)]) [1, 0] rfl
          refine lv_if_eq (tgt := 86) hx hb d_RP_readText_58 (by decide) (fun c_58 => ?_) (fun c_58 => ?_)
          · have hf := it_t c_58 hf
            exact k_RP_readText_86 C0 hST hA hE hf hK hP hD hS hkc hks (lv_sub hl [] rfl)
          · have hf := it_f c_58 hf
            refine lv_aload_n hx hb d_RP_readText_61 rfl (lv_at hl 0 rfl) ?_
            refine lv_aload_n hx hb d_RP_readText_62 rfl (lv_at hl 0 rfl) ?_
            refine va_get (D := (dC, dI)) (ci := 6) (v := .ref rRule) (C := RRuleParser) (T := TRuleParser) (N := 10) hx hb hts in_RuleParser hown hK hP 0 rfl rfl 5 (by decide) (hts (.fieldLink "ZoneFiles$RuleParser" 24 "ZoneFiles$RuleParser" "rule" "LZoneFiles$Rule;") m_4_58) (fun _ h9 => h9) rfl d_RP_readText_63 ?_
            refine va_get (D := (dC, dI)) (ci := 5) (v := .ref ruE) (C := RRule) (T := TRule) (N := 12) hx hb hts in_Rule hown hK hP 3 rfl rfl 2 (by decide) (hts (.fieldLink "ZoneFiles$RuleParser" 51 "ZoneFiles$Rule" "end" "LZoneFiles$Edge;") m_1_111) (fun _ h9 => h9) rfl d_RP_readText_66 ?_
            obtain ⟨⟨z_59, z_60, z_61, z_62, z_63, z_64, z_65, z_66, z_67, z_68⟩, hc, hf⟩ := ob hf
            have hPc := hP.sub (ws' := [(h0, .inr (6, [.int z_47, .ref rTape, .int rStart, .int rEnd, .int rWide, .ref rRule, .int z_36, .int z_37, .int z_48, .int z_49])), (rTape, .inr (0, [.ref q_56, .int tpS])), (q_56, .inl (cq_57, tpN, .inl tpA)), (rRule, .inr (5, [.ref ruT, .ref ruB, .ref ruE, .int z_1, .int z_50, .int z_18, .int z_40, .int z_19, .int z_20, .int z_41, .int z_42, .int z_9])), (ruE, .inr (1, [.int w7_0, .int w7_1, .int w7_2, .int w7_3, .int w7_4, .int w7_5]))]) [0, 1, 2, 3, 7] rfl
            have hDc := hD.sub (ws' := [(h0, .inr (6, [.int z_47, .ref rTape, .int rStart, .int rEnd, .int rWide, .ref rRule, .int z_36, .int z_37, .int z_48, .int z_49])), (rTape, .inr (0, [.ref q_56, .int tpS])), (q_56, .inl (cq_57, tpN, .inl tpA)), (rRule, .inr (5, [.ref ruT, .ref ruB, .ref ruE, .int z_1, .int z_50, .int z_18, .int z_40, .int z_19, .int z_20, .int z_41, .int z_42, .int z_9])), (ruE, .inr (1, [.int w7_0, .int w7_1, .int w7_2, .int w7_3, .int w7_4, .int w7_5]))]) [0, 1, 2, 3, 7] (by decide) rfl
            have hKc := hK.sub (tys' := [(cq_57, .byte)]) [0] rfl
            have hFc := va_free (wc := [(h0, .inr (6, [.int z_47, .ref rTape, .int rStart, .int rEnd, .int rWide, .ref rRule, .int z_36, .int z_37, .int z_48, .int z_49])), (rTape, .inr (0, [.ref q_56, .int tpS])), (q_56, .inl (cq_57, tpN, .inl tpA)), (rRule, .inr (5, [.ref ruT, .ref ruB, .ref ruE, .int z_1, .int z_50, .int z_18, .int z_40, .int z_19, .int z_20, .int z_41, .int z_42, .int z_9])), (ruE, .inr (1, [.int w7_0, .int w7_1, .int w7_2, .int w7_3, .int w7_4, .int w7_5]))]) hD hS hA [0, 1, 2, 3, 7] rfl
            refine cl_M (v := (some (.int z_59))) (st1 := [.int z_59]) (va_runV (As := [.ref ruE]) (rest := []) ⟨hx, hb, hml, hown, hts⟩ (c_RP_readEdge l dC dI h0 ruE rTape rRule q_56 ruT ruB ruE cq_57 H.size nf z_47 rStart rEnd rWide z_36 z_37 z_48 z_49 tpS tpN tpA z_1 z_50 z_18 z_40 z_19 z_20 z_41 z_42 z_9 w7_0 w7_1 w7_2 w7_3 w7_4 w7_5 hc) (cwV 1 hts (gdV m_4_124 m_4_126 msel_37 m_1_17 m_4_127) rfl rfl rfl (by decide +kernel) ⟨Nat.le_trans (Nat.le_of_ble_eq_true rfl) hRf, Nat.le_trans (Nat.le_of_ble_eq_true rfl) hRl⟩) ((MU.pre hPc hKc hDc (hST.mu hS hFc)).vir (va_recv hKc hPc (ci := 6) (q0 := 0) rfl rfl)) rfl rfl hl.1 rfl (lv_room (Nat.le_of_ble_eq_true rfl)) d_RP_readText_69 ⟨c0 hkc, c0 hks⟩) rfl hS (fun q _ h => hFc q h) hFc (fun t H1 locs ht hvm hB hz1 hk1 hS => ?_)
            obtain ⟨q_69, cq_70, hP1, hK1, hD1⟩ := hB
            rw [ht] at hP1
            have hK1 := va_K.moved hvm.symm hK1
            obtain ⟨hP, hD⟩ := va_join (wr := [(ruT, .inr (0, [.ref q5, .int z_10])), (q5, .inl (nA5, w5_n, .inl w5_a)), (ruB, .inr (1, [.int z_51, .int z_52, .int z_53, .int z_54, .int z_55, .int w6_5]))]) (w1 := [(h0, .inr (6, [.int z_60, .ref rTape, .int rStart, .int rEnd, .int rWide, .ref rRule, .int z_36, .int z_37, .int z_61, .int z_62])), (rTape, .inr (0, [.ref q_69, .int tpS])), (q_69, .inl (cq_70, tpN, .inl tpA)), (rRule, .inr (5, [.ref ruT, .ref ruB, .ref ruE, .int z_1, .int z_63, .int z_18, .int z_40, .int z_19, .int z_20, .int z_41, .int z_42, .int z_9])), (ruE, .inr (1, [.int z_64, .int z_65, .int z_66, .int z_67, .int z_68, .int w7_5]))]) hP hD [0, 1, 2, 3, 7] [4, 5, 6] rfl rfl (by decide) (by decide) hk1 hFc hP1 hD1
            have hK := (hK.sub (tys' := [(nA5, .byte)]) [1] rfl).app hK1
            generalize H1 = H at hP hS ⊢
            have hP := hP.sub (ws' := [(h0, .inr (6, [.int z_60, .ref rTape, .int rStart, .int rEnd, .int rWide, .ref rRule, .int z_36, .int z_37, .int z_61, .int z_62])), (rTape, .inr (0, [.ref q_69, .int tpS])), (q_69, .inl (cq_70, tpN, .inl tpA)), (rRule, .inr (5, [.ref ruT, .ref ruB, .ref ruE, .int z_1, .int z_63, .int z_18, .int z_40, .int z_19, .int z_20, .int z_41, .int z_42, .int z_9])), (ruT, .inr (0, [.ref q5, .int z_10])), (q5, .inl (nA5, w5_n, .inl w5_a)), (ruB, .inr (1, [.int z_51, .int z_52, .int z_53, .int z_54, .int z_55, .int w6_5])), (ruE, .inr (1, [.int z_64, .int z_65, .int z_66, .int z_67, .int z_68, .int w7_5]))]) [3, 4, 5, 6, 0, 1, 2, 7] rfl
            have hD := hD.sub (ws' := [(h0, .inr (6, [.int z_60, .ref rTape, .int rStart, .int rEnd, .int rWide, .ref rRule, .int z_36, .int z_37, .int z_61, .int z_62])), (rTape, .inr (0, [.ref q_69, .int tpS])), (q_69, .inl (cq_70, tpN, .inl tpA)), (rRule, .inr (5, [.ref ruT, .ref ruB, .ref ruE, .int z_1, .int z_63, .int z_18, .int z_40, .int z_19, .int z_20, .int z_41, .int z_42, .int z_9])), (ruT, .inr (0, [.ref q5, .int z_10])), (q5, .inl (nA5, w5_n, .inl w5_a)), (ruB, .inr (1, [.int z_51, .int z_52, .int z_53, .int z_54, .int z_55, .int w6_5])), (ruE, .inr (1, [.int z_64, .int z_65, .int z_66, .int z_67, .int z_68, .int w7_5]))]) [3, 4, 5, 6, 0, 1, 2, 7] (by decide) rfl
            have hK := hK.sub (tys' := [(cq_70, .byte), (nA5, .byte)]) [1, 0] rfl
            refine lv_if_eq (tgt := 86) hx hb d_RP_readText_72 (by decide) (fun c_71 => ?_) (fun c_71 => ?_)
            · have hf := it_t c_71 hf
              exact k_RP_readText_86 C0 hST hA hE hf hK hP hD hS hkc hks (lv_sub hl [] rfl)
            · have hf := it_f c_71 hf
              refine lv_aload_n hx hb d_RP_readText_75 rfl (lv_at hl 0 rfl) ?_
              refine va_get (D := (dC, dI)) (ci := 6) (v := .int z_60) (C := RRuleParser) (T := TRuleParser) (N := 10) hx hb hts in_RuleParser hown hK hP 0 rfl rfl 0 (by decide) (hts (.fieldLink "ZoneFiles$RuleParser" 28 "ZoneFiles$RuleParser" "pos" "I") m_4_51) (fun _ h9 => h9) rfl d_RP_readText_76 ?_
              refine lv_aload_n hx hb d_RP_readText_79 rfl (lv_at hl 0 rfl) ?_
              refine va_get (D := (dC, dI)) (ci := 6) (v := .int rEnd) (C := RRuleParser) (T := TRuleParser) (N := 10) hx hb hts in_RuleParser hown hK hP 0 rfl rfl 3 (by decide) (hts (.fieldLink "ZoneFiles$RuleParser" 17 "ZoneFiles$RuleParser" "end" "I") m_4_56) (fun _ h9 => h9) rfl d_RP_readText_80 ?_
              refine lv_icmp_ge (tgt := 88) hx hb d_RP_readText_83 (by decide) (fun c_72 => ?_) (fun c_72 => ?_)
              · have hf := it_t c_72 hf
                refine lv_aload_n hx hb d_RP_readText_88 rfl (lv_at hl 0 rfl) ?_
                refine va_get (D := (dC, dI)) (ci := 6) (v := .ref rRule) (C := RRuleParser) (T := TRuleParser) (N := 10) hx hb hts in_RuleParser hown hK hP 0 rfl rfl 5 (by decide) (hts (.fieldLink "ZoneFiles$RuleParser" 24 "ZoneFiles$RuleParser" "rule" "LZoneFiles$Rule;") m_4_58) (fun _ h9 => h9) rfl d_RP_readText_89 ?_
                refine lv_iconst (v := 1) hx hb d_RP_readText_92 (by decide) ?_
                refine va_put (D := (dC, dI)) (ci := 5) (v := .int 1) (ty := .boolean) (C := RRule) (T := TRule) (N := 12) hx hb hts in_Rule tyRule ty_Rule nm_Rule hown hK hP hD hS 3 rfl rfl 3 (by decide) (hts (.fieldLink "ZoneFiles$RuleParser" 53 "ZoneFiles$Rule" "hasSummer" "Z") m_1_113) (fun _ h9 => h9) rfl (by decide +kernel) rfl rfl (Nat.le_of_ble_eq_true rfl) d_RP_readText_93 (fun H locs hP hD hS => ?_)
                have hP : va_P (dC, dI) classes [(h0, .inr (6, [.int z_60, .ref rTape, .int rStart, .int rEnd, .int rWide, .ref rRule, .int z_36, .int z_37, .int z_61, .int z_62])), (rTape, .inr (0, [.ref q_69, .int tpS])), (q_69, .inl (cq_70, tpN, .inl tpA)), (rRule, .inr (5, [.ref ruT, .ref ruB, .ref ruE, .int 1, .int z_63, .int z_18, .int z_40, .int z_19, .int z_20, .int z_41, .int z_42, .int z_9])), (ruT, .inr (0, [.ref q5, .int z_10])), (q5, .inl (nA5, w5_n, .inl w5_a)), (ruB, .inr (1, [.int z_51, .int z_52, .int z_53, .int z_54, .int z_55, .int w6_5])), (ruE, .inr (1, [.int z_64, .int z_65, .int z_66, .int z_67, .int z_68, .int w7_5]))] H := hP
                have hD : va_D A [(h0, .inr (6, [.int z_60, .ref rTape, .int rStart, .int rEnd, .int rWide, .ref rRule, .int z_36, .int z_37, .int z_61, .int z_62])), (rTape, .inr (0, [.ref q_69, .int tpS])), (q_69, .inl (cq_70, tpN, .inl tpA)), (rRule, .inr (5, [.ref ruT, .ref ruB, .ref ruE, .int 1, .int z_63, .int z_18, .int z_40, .int z_19, .int z_20, .int z_41, .int z_42, .int z_9])), (ruT, .inr (0, [.ref q5, .int z_10])), (q5, .inl (nA5, w5_n, .inl w5_a)), (ruB, .inr (1, [.int z_51, .int z_52, .int z_53, .int z_54, .int z_55, .int w6_5])), (ruE, .inr (1, [.int z_64, .int z_65, .int z_66, .int z_67, .int z_68, .int w7_5]))] := hD
                refine lv_aload_n hx hb d_RP_readText_96 rfl (lv_at hl 0 rfl) ?_
                refine va_get (D := (dC, dI)) (ci := 6) (v := .ref rRule) (C := RRuleParser) (T := TRuleParser) (N := 10) hx hb hts in_RuleParser hown hK hP 0 rfl rfl 5 (by decide) (hts (.fieldLink "ZoneFiles$RuleParser" 24 "ZoneFiles$RuleParser" "rule" "LZoneFiles$Rule;") m_4_58) (fun _ h9 => h9) rfl d_RP_readText_97 ?_
                refine va_get (D := (dC, dI)) (ci := 5) (v := .ref ruB) (C := RRule) (T := TRule) (N := 12) hx hb hts in_Rule hown hK hP 3 rfl rfl 1 (by decide) (hts (.fieldLink "ZoneFiles$RuleParser" 43 "ZoneFiles$Rule" "begin" "LZoneFiles$Edge;") m_1_108) (fun _ h9 => h9) rfl d_RP_readText_100 ?_
                refine lv_aload_n hx hb d_RP_readText_103 rfl (lv_at hl 0 rfl) ?_
                refine va_get (D := (dC, dI)) (ci := 6) (v := .ref rRule) (C := RRuleParser) (T := TRuleParser) (N := 10) hx hb hts in_RuleParser hown hK hP 0 rfl rfl 5 (by decide) (hts (.fieldLink "ZoneFiles$RuleParser" 24 "ZoneFiles$RuleParser" "rule" "LZoneFiles$Rule;") m_4_58) (fun _ h9 => h9) rfl d_RP_readText_104 ?_
                refine va_get (D := (dC, dI)) (ci := 5) (v := .int z_18) (C := RRule) (T := TRule) (N := 12) hx hb hts in_Rule hown hK hP 3 rfl rfl 5 (by decide) (hts (.fieldLink "ZoneFiles$RuleParser" 56 "ZoneFiles$Rule" "standardOffset" "I") m_1_120) (fun _ h9 => h9) rfl d_RP_readText_107 ?_
                refine va_put (D := (dC, dI)) (ci := 1) (v := .int z_18) (ty := .int) (C := REdge) (T := TEdge) (N := 6) hx hb hts in_Edge tyEdge ty_Edge nm_Edge hown hK hP hD hS 6 rfl rfl 5 (by decide) (hts (.fieldLink "ZoneFiles$RuleParser" 59 "ZoneFiles$Edge" "clockOffset" "I") m_1_85) (fun _ h9 => h9) rfl (by decide +kernel) rfl rfl (Nat.le_of_ble_eq_true rfl) d_RP_readText_110 (fun H locs hP hD hS => ?_)
                have hP : va_P (dC, dI) classes [(h0, .inr (6, [.int z_60, .ref rTape, .int rStart, .int rEnd, .int rWide, .ref rRule, .int z_36, .int z_37, .int z_61, .int z_62])), (rTape, .inr (0, [.ref q_69, .int tpS])), (q_69, .inl (cq_70, tpN, .inl tpA)), (rRule, .inr (5, [.ref ruT, .ref ruB, .ref ruE, .int 1, .int z_63, .int z_18, .int z_40, .int z_19, .int z_20, .int z_41, .int z_42, .int z_9])), (ruT, .inr (0, [.ref q5, .int z_10])), (q5, .inl (nA5, w5_n, .inl w5_a)), (ruB, .inr (1, [.int z_51, .int z_52, .int z_53, .int z_54, .int z_55, .int z_18])), (ruE, .inr (1, [.int z_64, .int z_65, .int z_66, .int z_67, .int z_68, .int w7_5]))] H := hP
                have hD : va_D A [(h0, .inr (6, [.int z_60, .ref rTape, .int rStart, .int rEnd, .int rWide, .ref rRule, .int z_36, .int z_37, .int z_61, .int z_62])), (rTape, .inr (0, [.ref q_69, .int tpS])), (q_69, .inl (cq_70, tpN, .inl tpA)), (rRule, .inr (5, [.ref ruT, .ref ruB, .ref ruE, .int 1, .int z_63, .int z_18, .int z_40, .int z_19, .int z_20, .int z_41, .int z_42, .int z_9])), (ruT, .inr (0, [.ref q5, .int z_10])), (q5, .inl (nA5, w5_n, .inl w5_a)), (ruB, .inr (1, [.int z_51, .int z_52, .int z_53, .int z_54, .int z_55, .int z_18])), (ruE, .inr (1, [.int z_64, .int z_65, .int z_66, .int z_67, .int z_68, .int w7_5]))] := hD
                refine lv_aload_n hx hb d_RP_readText_113 rfl (lv_at hl 0 rfl) ?_
                refine va_get (D := (dC, dI)) (ci := 6) (v := .ref rRule) (C := RRuleParser) (T := TRuleParser) (N := 10) hx hb hts in_RuleParser hown hK hP 0 rfl rfl 5 (by decide) (hts (.fieldLink "ZoneFiles$RuleParser" 24 "ZoneFiles$RuleParser" "rule" "LZoneFiles$Rule;") m_4_58) (fun _ h9 => h9) rfl d_RP_readText_114 ?_
                refine va_get (D := (dC, dI)) (ci := 5) (v := .ref ruE) (C := RRule) (T := TRule) (N := 12) hx hb hts in_Rule hown hK hP 3 rfl rfl 2 (by decide) (hts (.fieldLink "ZoneFiles$RuleParser" 51 "ZoneFiles$Rule" "end" "LZoneFiles$Edge;") m_1_111) (fun _ h9 => h9) rfl d_RP_readText_117 ?_
                refine lv_aload_n hx hb d_RP_readText_120 rfl (lv_at hl 0 rfl) ?_
                refine va_get (D := (dC, dI)) (ci := 6) (v := .ref rRule) (C := RRuleParser) (T := TRuleParser) (N := 10) hx hb hts in_RuleParser hown hK hP 0 rfl rfl 5 (by decide) (hts (.fieldLink "ZoneFiles$RuleParser" 24 "ZoneFiles$RuleParser" "rule" "LZoneFiles$Rule;") m_4_58) (fun _ h9 => h9) rfl d_RP_readText_121 ?_
                refine va_get (D := (dC, dI)) (ci := 5) (v := .int z_40) (C := RRule) (T := TRule) (N := 12) hx hb hts in_Rule hown hK hP 3 rfl rfl 6 (by decide) (hts (.fieldLink "ZoneFiles$RuleParser" 64 "ZoneFiles$Rule" "summerOffset" "I") m_1_123) (fun _ h9 => h9) rfl d_RP_readText_124 ?_
                refine va_put (D := (dC, dI)) (ci := 1) (v := .int z_40) (ty := .int) (C := REdge) (T := TEdge) (N := 6) hx hb hts in_Edge tyEdge ty_Edge nm_Edge hown hK hP hD hS 7 rfl rfl 5 (by decide) (hts (.fieldLink "ZoneFiles$RuleParser" 59 "ZoneFiles$Edge" "clockOffset" "I") m_1_85) (fun _ h9 => h9) rfl (by decide +kernel) rfl rfl (Nat.le_of_ble_eq_true rfl) d_RP_readText_127 (fun H locs hP hD hS => ?_)
                have hP : va_P (dC, dI) classes [(h0, .inr (6, [.int z_60, .ref rTape, .int rStart, .int rEnd, .int rWide, .ref rRule, .int z_36, .int z_37, .int z_61, .int z_62])), (rTape, .inr (0, [.ref q_69, .int tpS])), (q_69, .inl (cq_70, tpN, .inl tpA)), (rRule, .inr (5, [.ref ruT, .ref ruB, .ref ruE, .int 1, .int z_63, .int z_18, .int z_40, .int z_19, .int z_20, .int z_41, .int z_42, .int z_9])), (ruT, .inr (0, [.ref q5, .int z_10])), (q5, .inl (nA5, w5_n, .inl w5_a)), (ruB, .inr (1, [.int z_51, .int z_52, .int z_53, .int z_54, .int z_55, .int z_18])), (ruE, .inr (1, [.int z_64, .int z_65, .int z_66, .int z_67, .int z_68, .int z_40]))] H := hP
                have hD : va_D A [(h0, .inr (6, [.int z_60, .ref rTape, .int rStart, .int rEnd, .int rWide, .ref rRule, .int z_36, .int z_37, .int z_61, .int z_62])), (rTape, .inr (0, [.ref q_69, .int tpS])), (q_69, .inl (cq_70, tpN, .inl tpA)), (rRule, .inr (5, [.ref ruT, .ref ruB, .ref ruE, .int 1, .int z_63, .int z_18, .int z_40, .int z_19, .int z_20, .int z_41, .int z_42, .int z_9])), (ruT, .inr (0, [.ref q5, .int z_10])), (q5, .inl (nA5, w5_n, .inl w5_a)), (ruB, .inr (1, [.int z_51, .int z_52, .int z_53, .int z_54, .int z_55, .int z_18])), (ruE, .inr (1, [.int z_64, .int z_65, .int z_66, .int z_67, .int z_68, .int z_40]))] := hD
                exact k_RP_readText_130 C0 hST hA hE hf hK hP hD hS hkc hks (lv_sub hl [0] rfl)
              · have hf := it_f c_72 hf
                exact k_RP_readText_86 C0 hST hA hE hf hK hP hD hS hkc hks (lv_sub hl [] rfl)
    · have hf := it_t c_23 hf
      refine lv_iconst (v := 0) hx hb d_RP_readText_27 (by decide) ?_
      cases rs hf
      have hkc : cells = R.cells := hkc
      have hks : slots = R.slots := hks
      subst hkc; subst hks
      exact hE _ _ _ _ d_RP_readText_28 rfl hP hD hS hK
  · have hf := it_f c_11 hf
    refine lv_iconst (v := 1) hx hb d_RP_readText_18 (by decide) ?_
    cases rs hf
    have hkc : cells = R.cells := hkc
    have hks : slots = R.slots := hks
    subst hkc; subst hks
    exact hE _ _ _ _ d_RP_readText_19 rfl hP hD hS hK
end
set_option maxHeartbeats 400000 in
set_option maxRecDepth 100000 in
theorem c_RP_readText (l : Launch) (dC : Nat → ClassId) (dI : Nat → Nat → Nat) (h0 : Nat) (rTape : Nat) (rRule : Nat) (tpR : Nat) (ruT : Nat) (ruB : Nat) (ruE : Nat) (txR : Nat) (cAtpR : ClassId) (cAtxR : ClassId) (sz : Nat) (nf : Nat) (rPos : Int32) (rStart : Int32) (rEnd : Int32) (rWide : Int32) (rNp : Int32) (rNs : Int32) (rAm : Int32) (rAw : Int32) (tpS : Int32) (tpN : Nat) (tpA : Nat → Int32) (ruHas : Int32) (ruWide : Int32) (ruSo : Int32) (ruUo : Int32) (ruSp : Int32) (ruSs : Int32) (ruUp : Int32) (ruUs : Int32) (ruNev : Int32) (txS : Int32) (txN : Nat) (txA : Nat → Int32) (ebKind : Int32) (ebMonth : Int32) (ebWeek : Int32) (ebDay : Int32) (ebTime : Int32) (ebClock : Int32) (eeKind : Int32) (eeMonth : Int32) (eeWeek : Int32) (eeDay : Int32) (eeTime : Int32) (eeClock : Int32) {r0 : Int32} {v0_0 : Int32} {v0_6 : Int32} {v0_7 : Int32} {v0_8 : Int32} {v0_9 : Int32} {v3_3 : Int32} {v3_4 : Int32} {v3_5 : Int32} {v3_6 : Int32} {v3_7 : Int32} {v3_8 : Int32} {v3_9 : Int32} {v3_10 : Int32} {v3_11 : Int32} {v4_1 : Int32} {v5_n : Nat} {v5_a : Nat → Int32} {v6_0 : Int32} {v6_1 : Int32} {v6_2 : Int32} {v6_3 : Int32} {v6_4 : Int32} {v6_5 : Int32} {v7_0 : Int32} {v7_1 : Int32} {v7_2 : Int32} {v7_3 : Int32} {v7_4 : Int32} {v7_5 : Int32} {kc ks : Nat} (hf : f_RP_readText nf rPos rStart rEnd rWide rNp rNs rAm rAw tpS tpN tpA ruHas ruWide ruSo ruUo ruSp ruSs ruUp ruUs ruNev txS txN txA ebKind ebMonth ebWeek ebDay ebTime ebClock eeKind eeMonth eeWeek eeDay eeTime eeClock = some ((r0, v0_0, v0_6, v0_7, v0_8, v0_9, v3_3, v3_4, v3_5, v3_6, v3_7, v3_8, v3_9, v3_10, v3_11, v4_1, v5_n, v5_a, v6_0, v6_1, v6_2, v6_3, v6_4, v6_5, v7_0, v7_1, v7_2, v7_3, v7_4, v7_5), kc, ks)) : Met l y_RP_readText (wd y_RP_readText b_RP_readText 1 (some .boolean)) ({ frames := 5, cells := kc, slots := ks, locals := 115 }) (MU dC dI [(h0, .inr (6, [.int rPos, .ref rTape, .int rStart, .int rEnd, .int rWide, .ref rRule, .int rNp, .int rNs, .int rAm, .int rAw])), (rTape, .inr (0, [.ref tpR, .int tpS])), (tpR, .inl (cAtpR, tpN, .inl tpA)), (rRule, .inr (5, [.ref ruT, .ref ruB, .ref ruE, .int ruHas, .int ruWide, .int ruSo, .int ruUo, .int ruSp, .int ruSs, .int ruUp, .int ruUs, .int ruNev])), (ruT, .inr (0, [.ref txR, .int txS])), (txR, .inl (cAtxR, txN, .inl txA)), (ruB, .inr (1, [.int ebKind, .int ebMonth, .int ebWeek, .int ebDay, .int ebTime, .int ebClock])), (ruE, .inr (1, [.int eeKind, .int eeMonth, .int eeWeek, .int eeDay, .int eeTime, .int eeClock]))] [(cAtpR, .byte), (cAtxR, .byte)] sz [.ref h0]) (MV (some (.int r0)) (fun t => ∃ (q2 : Nat) (q5 : Nat) (nA2 : ClassId) (nA5 : ClassId), va_P (dC, dI) classes [(h0, .inr (6, [.int v0_0, .ref rTape, .int rStart, .int rEnd, .int rWide, .ref rRule, .int v0_6, .int v0_7, .int v0_8, .int v0_9])), (rTape, .inr (0, [.ref q2, .int tpS])), (q2, .inl (nA2, tpN, .inl tpA)), (rRule, .inr (5, [.ref ruT, .ref ruB, .ref ruE, .int v3_3, .int v3_4, .int v3_5, .int v3_6, .int v3_7, .int v3_8, .int v3_9, .int v3_10, .int v3_11])), (ruT, .inr (0, [.ref q5, .int v4_1])), (q5, .inl (nA5, v5_n, .inl v5_a)), (ruB, .inr (1, [.int v6_0, .int v6_1, .int v6_2, .int v6_3, .int v6_4, .int v6_5])), (ruE, .inr (1, [.int v7_0, .int v7_1, .int v7_2, .int v7_3, .int v7_4, .int v7_5]))] t.heap ∧ va_K (dC, dI) classes [(nA2, .byte), (nA5, .byte)] t ∧ va_D (va_A [(h0, .inr (6, [.int rPos, .ref rTape, .int rStart, .int rEnd, .int rWide, .ref rRule, .int rNp, .int rNs, .int rAm, .int rAw])), (rTape, .inr (0, [.ref tpR, .int tpS])), (tpR, .inl (cAtpR, tpN, .inl tpA)), (rRule, .inr (5, [.ref ruT, .ref ruB, .ref ruE, .int ruHas, .int ruWide, .int ruSo, .int ruUo, .int ruSp, .int ruSs, .int ruUp, .int ruUs, .int ruNev])), (ruT, .inr (0, [.ref txR, .int txS])), (txR, .inl (cAtxR, txN, .inl txA)), (ruB, .inr (1, [.int ebKind, .int ebMonth, .int ebWeek, .int ebDay, .int ebTime, .int ebClock])), (ruE, .inr (1, [.int eeKind, .int eeMonth, .int eeWeek, .int eeDay, .int eeTime, .int eeClock]))] sz) [(h0, .inr (6, [.int v0_0, .ref rTape, .int rStart, .int rEnd, .int rWide, .ref rRule, .int v0_6, .int v0_7, .int v0_8, .int v0_9])), (rTape, .inr (0, [.ref q2, .int tpS])), (q2, .inl (nA2, tpN, .inl tpA)), (rRule, .inr (5, [.ref ruT, .ref ruB, .ref ruE, .int v3_3, .int v3_4, .int v3_5, .int v3_6, .int v3_7, .int v3_8, .int v3_9, .int v3_10, .int v3_11])), (ruT, .inr (0, [.ref q5, .int v4_1])), (q5, .inl (nA5, v5_n, .inl v5_a)), (ruB, .inr (1, [.int v6_0, .int v6_1, .int v6_2, .int v6_3, .int v6_4, .int v6_5])), (ruE, .inr (1, [.int v7_0, .int v7_1, .int v7_2, .int v7_3, .int v7_4, .int v7_5]))]) (va_A [(h0, .inr (6, [.int rPos, .ref rTape, .int rStart, .int rEnd, .int rWide, .ref rRule, .int rNp, .int rNs, .int rAm, .int rAw])), (rTape, .inr (0, [.ref tpR, .int tpS])), (tpR, .inl (cAtpR, tpN, .inl tpA)), (rRule, .inr (5, [.ref ruT, .ref ruB, .ref ruE, .int ruHas, .int ruWide, .int ruSo, .int ruUo, .int ruSp, .int ruSs, .int ruUp, .int ruUs, .int ruNev])), (ruT, .inr (0, [.ref txR, .int txS])), (txR, .inl (cAtxR, txN, .inl txA)), (ruB, .inr (1, [.int ebKind, .int ebMonth, .int ebWeek, .int ebDay, .int ebTime, .int ebClock])), (ruE, .inr (1, [.int eeKind, .int eeMonth, .int eeWeek, .int eeDay, .int eeTime, .int eeClock]))] sz)) kc ks (va_A [(h0, .inr (6, [.int rPos, .ref rTape, .int rStart, .int rEnd, .int rWide, .ref rRule, .int rNp, .int rNs, .int rAm, .int rAw])), (rTape, .inr (0, [.ref tpR, .int tpS])), (tpR, .inl (cAtpR, tpN, .inl tpA)), (rRule, .inr (5, [.ref ruT, .ref ruB, .ref ruE, .int ruHas, .int ruWide, .int ruSo, .int ruUo, .int ruSp, .int ruSs, .int ruUp, .int ruUs, .int ruNev])), (ruT, .inr (0, [.ref txR, .int txS])), (txR, .inl (cAtxR, txN, .inl txA)), (ruB, .inr (1, [.int ebKind, .int ebMonth, .int ebWeek, .int ebDay, .int ebTime, .int ebClock])), (ruE, .inr (1, [.int eeKind, .int eeMonth, .int eeWeek, .int eeDay, .int eeTime, .int eeClock]))] sz) :=
  met_M (plainFor_of_name (by decide)) (Nat.le_of_ble_eq_true rfl) (fun p e R s m args below meth c ls hRc hRs hsz hin C0 hST hK hP hD hl => by
    obtain ⟨hx, hb, hr, hml, hown, hts, hlocks, hRf, hRl⟩ := id C0
    subst hRc; subst hRs
    subst hsz
    have hA : ∀ q : Nat, s.heap.size ≤ q → va_A [(h0, .inr (6, [.int rPos, .ref rTape, .int rStart, .int rEnd, .int rWide, .ref rRule, .int rNp, .int rNs, .int rAm, .int rAw])), (rTape, .inr (0, [.ref tpR, .int tpS])), (tpR, .inl (cAtpR, tpN, .inl tpA)), (rRule, .inr (5, [.ref ruT, .ref ruB, .ref ruE, .int ruHas, .int ruWide, .int ruSo, .int ruUo, .int ruSp, .int ruSs, .int ruUp, .int ruUs, .int ruNev])), (ruT, .inr (0, [.ref txR, .int txS])), (txR, .inl (cAtxR, txN, .inl txA)), (ruB, .inr (1, [.int ebKind, .int ebMonth, .int ebWeek, .int ebDay, .int ebTime, .int ebClock])), (ruE, .inr (1, [.int eeKind, .int eeMonth, .int eeWeek, .int eeDay, .int eeTime, .int eeClock]))] s.heap.size q := fun q h => Or.inr h
    have hS : va_S (va_A [(h0, .inr (6, [.int rPos, .ref rTape, .int rStart, .int rEnd, .int rWide, .ref rRule, .int rNp, .int rNs, .int rAm, .int rAw])), (rTape, .inr (0, [.ref tpR, .int tpS])), (tpR, .inl (cAtpR, tpN, .inl tpA)), (rRule, .inr (5, [.ref ruT, .ref ruB, .ref ruE, .int ruHas, .int ruWide, .int ruSo, .int ruUo, .int ruSp, .int ruSs, .int ruUp, .int ruUs, .int ruNev])), (ruT, .inr (0, [.ref txR, .int txS])), (txR, .inl (cAtxR, txN, .inl txA)), (ruB, .inr (1, [.int ebKind, .int ebMonth, .int ebWeek, .int ebDay, .int ebTime, .int ebClock])), (ruE, .inr (1, [.int eeKind, .int eeMonth, .int eeWeek, .int eeDay, .int eeTime, .int eeClock]))] s.heap.size) s.heap s.heap [] := va_S.rf
    have hkc := Nat.zero_add R.cells
    have hks := Nat.zero_add R.slots
    unfold f_RP_readText at hf
    exact k_RP_readText_0 C0 hST hA (fun pc ls {q2} {q5} {nA2} {nA5} H locs hd hn hP hD hS hK => W.zret hx hb hr hn (fun t ht hW => ⟨⟨rfl, ⟨q2, q5, nA2, nA5, by rw [ht]; exact hP, va_K.moved hW.alike hK, hD⟩⟩, hS.F ht⟩) hS.2.2 hd) hf hK hP hD hS hkc hks (lv_sub hl [0] rfl))
-- ZoneFiles$RuleParser.<init>(LZoneFiles$Bytes;IIZLZoneFiles$Rule;)V
def f_RP_init_0 (nf : Nat) (x2 : Int32) (x3 : Int32) (x4 : Int32) (w0_0 : Int32) (w0_2 : Int32) (w0_3 : Int32) (w0_4 : Int32) : Option (Int32 × Int32 × Int32 × Int32) :=
  if x4 = 0 ∨ x4 = 1 then some (x2, x2, x3, x4) else none
def f_RP_init (nf : Nat) (p1 : Int32) (p2 : Int32) (p3 : Int32) : Option (Int32 × Int32 × Int32 × Int32) :=
  f_RP_init_0 nf p1 p2 p3 0 0 0 0
section
variable {p : Program} {l : Launch} {e : Env} {R : Room} {s : State} {m : MethodId} {args : Array Value} {below : List Frame} {meth : Method} {c : Code} {Q : State → Prop} {dC : Nat → ClassId} {dI : Nat → Nat → Nat} {nf : Nat} {A : Nat → Prop}
variable {h0 : Nat} {p0 : Nat} {p4 : Nat} {v0_0 : Int32} {v0_2 : Int32} {v0_3 : Int32} {v0_4 : Int32}
set_option maxHeartbeats 400000 in
set_option maxRecDepth 100000 in
theorem k_RP_init_0 (C0 : Cx p s m meth c args R b_RP_init "ZoneFiles$RuleParser" 6 none 1 12) (hST : ST A s s.heap) (hA : ∀ q, s.heap.size ≤ q → A q) (hin : meth.name = "<init>") (hE : ∀ (pc : Nat) (ls : Array Slot) (H : Heap) (locs : List Loc), decode b_RP_init pc = .ok (.return_, 1) → va_P (dC, dI) classes [(h0, .inr (6, [.int v0_0, .ref p0, .int v0_2, .int v0_3, .int v0_4, .ref p4, .int 0, .int 0, .int 0, .int 0]))] H → va_D A [(h0, .inr (6, [.int v0_0, .ref p0, .int v0_2, .int v0_3, .int v0_4, .ref p4, .int 0, .int 0, .int 0, .int 0]))] → va_S A s.heap H locs → va_K (dC, dI) classes [] s → W p l e R s m args below meth c H locs 0 0 Q (F0 m pc ls [])) {x2 : Int32} {x3 : Int32} {x4 : Int32} {w0_0 : Int32} {w0_2 : Int32} {w0_3 : Int32} {w0_4 : Int32} (hf : f_RP_init_0 nf x2 x3 x4 w0_0 w0_2 w0_3 w0_4 = some (v0_0, v0_2, v0_3, v0_4)) {H : Heap} {locs : List Loc} {ls : Array Slot} (hK : va_K (dC, dI) classes [] s) (hP : va_P (dC, dI) classes [(h0, .inr (6, [.int w0_0, .null, .int w0_2, .int w0_3, .int w0_4, .null, .int 0, .int 0, .int 0, .int 0]))] H) (hD : va_D A [(h0, .inr (6, [.int w0_0, .null, .int w0_2, .int w0_3, .int w0_4, .null, .int 0, .int 0, .int 0, .int 0]))]) (hS : va_S A s.heap H locs) (hl : lv_has ls 6 [(0, .ref h0), (1, .ref p0), (2, .int x2), (3, .int x3), (4, .int x4), (5, .ref p4)]) : W p l e R s m args below meth c H locs 0 0 Q (F0 m 0 ls []) := by
  obtain ⟨hx, hb, hr, hml, hown, hts, hlocks, hRf, hRl⟩ := id C0
  obtain ⟨tms, hZms, hTms, tmg, hZmg, hTmg, hNW⟩ := id hST
  unfold f_RP_init_0 at hf
  refine lv_aload_n hx hb d_RP_init_0 rfl (lv_at hl 0 rfl) ?_
  refine W.objInit hx hb hown (hts (.methodLink "ZoneFiles$RuleParser" 1 objectInit) m_4_50) (hts (.instanceMethod objectInit) m_1_29) (hts (.code objectInit ⟨#[0xb1]⟩ 1 none) m_1_30) rfl (by rw [hml]; exact hl.1) rfl d_RP_init_1 (Nat.le_trans (Nat.le_of_ble_eq_true rfl) hRf) (Nat.le_trans (Nat.le_of_ble_eq_true rfl) hRl) ?_
  refine W.eq (g2 := F0 m 4 ls []) rfl ?_
  refine lv_aload_n hx hb d_RP_init_4 rfl (lv_at hl 0 rfl) ?_
  refine lv_aload_n hx hb d_RP_init_5 rfl (lv_at hl 1 rfl) ?_
  refine va_putF (D := (dC, dI)) (ci := 6) (v := .ref p0) (ty := .object "ZoneFiles$Bytes") (C := RRuleParser) (T := TRuleParser) (N := 10) hx hb hts in_RuleParser tyRuleParser ty_RuleParser nm_RuleParser hown hK hP hD hS 0 rfl rfl 1 (by decide) (hts (.fieldLink "ZoneFiles$RuleParser" 7 "ZoneFiles$RuleParser" "tape" "LZoneFiles$Bytes;") m_4_54) (fun _ h9 => h9) rfl hin rfl (by decide +kernel) rfl rfl (Nat.le_of_ble_eq_true rfl) d_RP_init_6 (fun H locs hP hD hS => ?_)
  have hP : va_P (dC, dI) classes [(h0, .inr (6, [.int w0_0, .ref p0, .int w0_2, .int w0_3, .int w0_4, .null, .int 0, .int 0, .int 0, .int 0]))] H := hP
  have hD : va_D A [(h0, .inr (6, [.int w0_0, .ref p0, .int w0_2, .int w0_3, .int w0_4, .null, .int 0, .int 0, .int 0, .int 0]))] := hD
  refine lv_aload_n hx hb d_RP_init_9 rfl (lv_at hl 0 rfl) ?_
  refine lv_iload_n hx hb d_RP_init_10 rfl (lv_at hl 2 rfl) ?_
  refine va_putF (D := (dC, dI)) (ci := 6) (v := .int x2) (ty := .int) (C := RRuleParser) (T := TRuleParser) (N := 10) hx hb hts in_RuleParser tyRuleParser ty_RuleParser nm_RuleParser hown hK hP hD hS 0 rfl rfl 2 (by decide) (hts (.fieldLink "ZoneFiles$RuleParser" 13 "ZoneFiles$RuleParser" "start" "I") m_4_55) (fun _ h9 => h9) rfl hin rfl (by decide +kernel) rfl rfl (Nat.le_of_ble_eq_true rfl) d_RP_init_11 (fun H locs hP hD hS => ?_)
  have hP : va_P (dC, dI) classes [(h0, .inr (6, [.int w0_0, .ref p0, .int x2, .int w0_3, .int w0_4, .null, .int 0, .int 0, .int 0, .int 0]))] H := hP
  have hD : va_D A [(h0, .inr (6, [.int w0_0, .ref p0, .int x2, .int w0_3, .int w0_4, .null, .int 0, .int 0, .int 0, .int 0]))] := hD
  refine lv_aload_n hx hb d_RP_init_14 rfl (lv_at hl 0 rfl) ?_
  refine lv_iload_n hx hb d_RP_init_15 rfl (lv_at hl 3 rfl) ?_
  refine va_putF (D := (dC, dI)) (ci := 6) (v := .int x3) (ty := .int) (C := RRuleParser) (T := TRuleParser) (N := 10) hx hb hts in_RuleParser tyRuleParser ty_RuleParser nm_RuleParser hown hK hP hD hS 0 rfl rfl 3 (by decide) (hts (.fieldLink "ZoneFiles$RuleParser" 17 "ZoneFiles$RuleParser" "end" "I") m_4_56) (fun _ h9 => h9) rfl hin rfl (by decide +kernel) rfl rfl (Nat.le_of_ble_eq_true rfl) d_RP_init_16 (fun H locs hP hD hS => ?_)
  have hP : va_P (dC, dI) classes [(h0, .inr (6, [.int w0_0, .ref p0, .int x2, .int x3, .int w0_4, .null, .int 0, .int 0, .int 0, .int 0]))] H := hP
  have hD : va_D A [(h0, .inr (6, [.int w0_0, .ref p0, .int x2, .int x3, .int w0_4, .null, .int 0, .int 0, .int 0, .int 0]))] := hD
  refine lv_aload_n hx hb d_RP_init_19 rfl (lv_at hl 0 rfl) ?_
  refine lv_iload hx hb d_RP_init_20 (lv_at hl 4 rfl) ?_
  obtain ⟨c_1, hf⟩ := it_g hf
  refine va_putF (D := (dC, dI)) (ci := 6) (v := .int x4) (ty := .boolean) (C := RRuleParser) (T := TRuleParser) (N := 10) hx hb hts in_RuleParser tyRuleParser ty_RuleParser nm_RuleParser hown hK hP hD hS 0 rfl rfl 4 (by decide) (hts (.fieldLink "ZoneFiles$RuleParser" 20 "ZoneFiles$RuleParser" "wide" "Z") m_4_57) (fun _ h9 => h9) rfl hin rfl (by decide +kernel) (nb_of c_1) (fb_of c_1) (Nat.le_of_ble_eq_true rfl) d_RP_init_22 (fun H locs hP hD hS => ?_)
  have hP : va_P (dC, dI) classes [(h0, .inr (6, [.int w0_0, .ref p0, .int x2, .int x3, .int x4, .null, .int 0, .int 0, .int 0, .int 0]))] H := hP
  have hD : va_D A [(h0, .inr (6, [.int w0_0, .ref p0, .int x2, .int x3, .int x4, .null, .int 0, .int 0, .int 0, .int 0]))] := hD
  refine lv_aload_n hx hb d_RP_init_25 rfl (lv_at hl 0 rfl) ?_
  refine lv_aload hx hb d_RP_init_26 (lv_at hl 5 rfl) ?_
  refine va_putF (D := (dC, dI)) (ci := 6) (v := .ref p4) (ty := .object "ZoneFiles$Rule") (C := RRuleParser) (T := TRuleParser) (N := 10) hx hb hts in_RuleParser tyRuleParser ty_RuleParser nm_RuleParser hown hK hP hD hS 0 rfl rfl 5 (by decide) (hts (.fieldLink "ZoneFiles$RuleParser" 24 "ZoneFiles$RuleParser" "rule" "LZoneFiles$Rule;") m_4_58) (fun _ h9 => h9) rfl hin rfl (by decide +kernel) rfl rfl (Nat.le_of_ble_eq_true rfl) d_RP_init_28 (fun H locs hP hD hS => ?_)
  have hP : va_P (dC, dI) classes [(h0, .inr (6, [.int w0_0, .ref p0, .int x2, .int x3, .int x4, .ref p4, .int 0, .int 0, .int 0, .int 0]))] H := hP
  have hD : va_D A [(h0, .inr (6, [.int w0_0, .ref p0, .int x2, .int x3, .int x4, .ref p4, .int 0, .int 0, .int 0, .int 0]))] := hD
  refine lv_aload_n hx hb d_RP_init_31 rfl (lv_at hl 0 rfl) ?_
  refine lv_iload_n hx hb d_RP_init_32 rfl (lv_at hl 2 rfl) ?_
  refine va_put (D := (dC, dI)) (ci := 6) (v := .int x2) (ty := .int) (C := RRuleParser) (T := TRuleParser) (N := 10) hx hb hts in_RuleParser tyRuleParser ty_RuleParser nm_RuleParser hown hK hP hD hS 0 rfl rfl 0 (by decide) (hts (.fieldLink "ZoneFiles$RuleParser" 28 "ZoneFiles$RuleParser" "pos" "I") m_4_51) (fun _ h9 => h9) rfl (by decide +kernel) rfl rfl (Nat.le_of_ble_eq_true rfl) d_RP_init_33 (fun H locs hP hD hS => ?_)
  have hP : va_P (dC, dI) classes [(h0, .inr (6, [.int x2, .ref p0, .int x2, .int x3, .int x4, .ref p4, .int 0, .int 0, .int 0, .int 0]))] H := hP
  have hD : va_D A [(h0, .inr (6, [.int x2, .ref p0, .int x2, .int x3, .int x4, .ref p4, .int 0, .int 0, .int 0, .int 0]))] := hD
  cases rs hf
  exact hE _ _ _ _ d_RP_init_36 hP hD hS hK
end
set_option maxHeartbeats 400000 in
set_option maxRecDepth 100000 in
theorem c_RP_init (l : Launch) (dC : Nat → ClassId) (dI : Nat → Nat → Nat) (h0 : Nat) (p0 : Nat) (p4 : Nat) (sz : Nat) (nf : Nat) (p1 : Int32) (p2 : Int32) (p3 : Int32) {v0_0 : Int32} {v0_2 : Int32} {v0_3 : Int32} {v0_4 : Int32} (hf : f_RP_init nf p1 p2 p3 = some (v0_0, v0_2, v0_3, v0_4)) : Met l y_RP_init (wd y_RP_init b_RP_init 6 none) ({ frames := 1, cells := 0, slots := 0, locals := 12 }) (MU dC dI [(h0, .inr (6, [.int 0, .null, .int 0, .int 0, .int 0, .null, .int 0, .int 0, .int 0, .int 0]))] [] sz [.ref h0, .ref p0, .int p1, .int p2, .int p3, .ref p4]) (MV none (fun t => va_P (dC, dI) classes [(h0, .inr (6, [.int v0_0, .ref p0, .int v0_2, .int v0_3, .int v0_4, .ref p4, .int 0, .int 0, .int 0, .int 0]))] t.heap ∧ va_K (dC, dI) classes [] t ∧ va_D (va_A [(h0, .inr (6, [.int 0, .null, .int 0, .int 0, .int 0, .null, .int 0, .int 0, .int 0, .int 0]))] sz) [(h0, .inr (6, [.int v0_0, .ref p0, .int v0_2, .int v0_3, .int v0_4, .ref p4, .int 0, .int 0, .int 0, .int 0]))]) (va_A [(h0, .inr (6, [.int 0, .null, .int 0, .int 0, .int 0, .null, .int 0, .int 0, .int 0, .int 0]))] sz)) 0 0 (va_A [(h0, .inr (6, [.int 0, .null, .int 0, .int 0, .int 0, .null, .int 0, .int 0, .int 0, .int 0]))] sz) :=
  met_M (plainFor_of_name (by decide)) (Nat.le_of_ble_eq_true rfl) (fun p e R s m args below meth c ls hRc hRs hsz hin C0 hST hK hP hD hl => by
    obtain ⟨hx, hb, hr, hml, hown, hts, hlocks, hRf, hRl⟩ := id C0
    subst hsz
    have hA : ∀ q : Nat, s.heap.size ≤ q → va_A [(h0, .inr (6, [.int 0, .null, .int 0, .int 0, .int 0, .null, .int 0, .int 0, .int 0, .int 0]))] s.heap.size q := fun q h => Or.inr h
    have hS : va_S (va_A [(h0, .inr (6, [.int 0, .null, .int 0, .int 0, .int 0, .null, .int 0, .int 0, .int 0, .int 0]))] s.heap.size) s.heap s.heap [] := va_S.rf
    unfold f_RP_init at hf
    exact k_RP_init_0 C0 hST hA (hin rfl) (fun pc ls H locs hd hP hD hS hK => W.vret hx hb hr (fun t ht hW => ⟨⟨rfl, ⟨by rw [ht]; exact hP, va_K.moved hW.alike hK, hD⟩⟩, hS.F ht⟩) hS.2.2 hd) hf hK hP hD hS (lv_sub hl [0, 1, 2, 3, 4, 5] rfl))
