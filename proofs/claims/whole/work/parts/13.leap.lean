theorem m_1_9 : Cond.initialized "ZoneFiles$LeapTable" ∈ T0 := tb_1 9 rfl rfl
theorem m_2_96 : Cond.fieldLink "ZoneFiles$LeapTable" 18 "ZoneFiles$LeapTable" "count" "I" ∈ T0 := tb_2 96 rfl rfl
theorem m_2_99 : Cond.fieldLink "ZoneFiles$LeapTable" 9 "ZoneFiles$LeapTable" "times" "[J" ∈ T0 := tb_2 99 rfl rfl
theorem m_2_102 : Cond.fieldLink "ZoneFiles$LeapTable" 15 "ZoneFiles$LeapTable" "aheads" "[J" ∈ T0 := tb_2 102 rfl rfl
theorem m_2_105 : Cond.fieldLink "ZoneFiles$LeapTable" 22 "ZoneFiles$LeapTable" "expires" "J" ∈ T0 := tb_2 105 rfl rfl
theorem m_3_21 : Cond.constantLong "ZoneFiles$LeapTable" 26 (-9223372036854775808) ∈ T0 := tb_3 21 rfl rfl
theorem m_3_30 : Cond.methodLink "ZoneFiles$LeapTable" 28 ⟨"ZoneFiles$LeapTable", "lastRowUpTo", "(J)I"⟩ ∈ T0 := tb_3 30 rfl rfl
theorem m_3_32 : Cond.instanceMethod ⟨"ZoneFiles$LeapTable", "lastRowUpTo", "(J)I"⟩ ∈ T0 := tb_3 32 rfl rfl
theorem m_3_33 : Cond.code ⟨"ZoneFiles$LeapTable", "lastRowUpTo", "(J)I"⟩ prog_8_method_5_code 4 (some .int) ∈ T0 := tb_3 33 rfl rfl
theorem m_3_34 : Cond.methodLink "ZoneFiles$LeapTable" 32 ⟨"ZoneFiles$LeapTable", "isBeforeNextRow", "(JI)Z"⟩ ∈ T0 := tb_3 34 rfl rfl
theorem m_3_36 : Cond.instanceMethod ⟨"ZoneFiles$LeapTable", "isBeforeNextRow", "(JI)Z"⟩ ∈ T0 := tb_3 36 rfl rfl
theorem m_3_37 : Cond.code ⟨"ZoneFiles$LeapTable", "isBeforeNextRow", "(JI)Z"⟩ prog_8_method_6_code 4 (some .boolean) ∈ T0 := tb_3 37 rfl rfl
theorem msel_12 : Cond.selects "ZoneFiles$LeapTable" ⟨"ZoneFiles$LeapTable", "lastRowUpTo", "(J)I"⟩ ⟨"ZoneFiles$LeapTable", "lastRowUpTo", "(J)I"⟩ ∈ T0 := ps_1 (q := (⟨"ZoneFiles$LeapTable", "lastRowUpTo", "(J)I"⟩, 4)) 12 rfl
theorem msel_13 : Cond.selects "ZoneFiles$LeapTable" ⟨"ZoneFiles$LeapTable", "isBeforeNextRow", "(JI)Z"⟩ ⟨"ZoneFiles$LeapTable", "isBeforeNextRow", "(JI)Z"⟩ ∈ T0 := ps_1 (q := (⟨"ZoneFiles$LeapTable", "isBeforeNextRow", "(JI)Z"⟩, 4)) 13 rfl
abbrev b_LT_lastRowUpTo : ByteArray := prog_8_method_5_code
def y_LT_lastRowUpTo : MethodName := ⟨"ZoneFiles$LeapTable", "lastRowUpTo", "(J)I"⟩
theorem d_LT_lastRowUpTo_0 : decode b_LT_lastRowUpTo 0 = .ok (.iconst (-1), 1) := by decide +kernel
theorem d_LT_lastRowUpTo_1 : decode b_LT_lastRowUpTo 1 = .ok (.istore_n 3, 1) := by decide +kernel
theorem d_LT_lastRowUpTo_2 : decode b_LT_lastRowUpTo 2 = .ok (.iload_n 3, 1) := by decide +kernel
theorem d_LT_lastRowUpTo_3 : decode b_LT_lastRowUpTo 3 = .ok (.iconst 1, 1) := by decide +kernel
theorem d_LT_lastRowUpTo_4 : decode b_LT_lastRowUpTo 4 = .ok (.iadd, 1) := by decide +kernel
theorem d_LT_lastRowUpTo_5 : decode b_LT_lastRowUpTo 5 = .ok (.aload_n 0, 1) := by decide +kernel
theorem d_LT_lastRowUpTo_6 : decode b_LT_lastRowUpTo 6 = .ok (.getfield 18, 3) := by decide +kernel
theorem d_LT_lastRowUpTo_9 : decode b_LT_lastRowUpTo 9 = .ok (.if_icmp .ge 31, 3) := by decide +kernel
theorem d_LT_lastRowUpTo_12 : decode b_LT_lastRowUpTo 12 = .ok (.aload_n 0, 1) := by decide +kernel
theorem d_LT_lastRowUpTo_13 : decode b_LT_lastRowUpTo 13 = .ok (.getfield 9, 3) := by decide +kernel
theorem d_LT_lastRowUpTo_16 : decode b_LT_lastRowUpTo 16 = .ok (.iload_n 3, 1) := by decide +kernel
theorem d_LT_lastRowUpTo_17 : decode b_LT_lastRowUpTo 17 = .ok (.iconst 1, 1) := by decide +kernel
theorem d_LT_lastRowUpTo_18 : decode b_LT_lastRowUpTo 18 = .ok (.iadd, 1) := by decide +kernel
theorem d_LT_lastRowUpTo_19 : decode b_LT_lastRowUpTo 19 = .ok (.laload, 1) := by decide +kernel
theorem d_LT_lastRowUpTo_20 : decode b_LT_lastRowUpTo 20 = .ok (.aload_n 0, 1) := by decide +kernel
theorem d_LT_lastRowUpTo_21 : decode b_LT_lastRowUpTo 21 = .ok (.getfield 15, 3) := by decide +kernel
theorem d_LT_lastRowUpTo_24 : decode b_LT_lastRowUpTo 24 = .ok (.iload_n 3, 1) := by decide +kernel
theorem d_LT_lastRowUpTo_25 : decode b_LT_lastRowUpTo 25 = .ok (.iconst 1, 1) := by decide +kernel
theorem d_LT_lastRowUpTo_26 : decode b_LT_lastRowUpTo 26 = .ok (.iadd, 1) := by decide +kernel
theorem d_LT_lastRowUpTo_27 : decode b_LT_lastRowUpTo 27 = .ok (.laload, 1) := by decide +kernel
theorem d_LT_lastRowUpTo_28 : decode b_LT_lastRowUpTo 28 = .ok (.ladd, 1) := by decide +kernel
theorem d_LT_lastRowUpTo_29 : decode b_LT_lastRowUpTo 29 = .ok (.lload_n 1, 1) := by decide +kernel
theorem d_LT_lastRowUpTo_30 : decode b_LT_lastRowUpTo 30 = .ok (.lcmp, 1) := by decide +kernel
theorem d_LT_lastRowUpTo_31 : decode b_LT_lastRowUpTo 31 = .ok (.ifCond .gt 9, 3) := by decide +kernel
theorem d_LT_lastRowUpTo_34 : decode b_LT_lastRowUpTo 34 = .ok (.iinc 3 1, 3) := by decide +kernel
theorem d_LT_lastRowUpTo_37 : decode b_LT_lastRowUpTo 37 = .ok (.goto (-35), 3) := by decide +kernel
theorem d_LT_lastRowUpTo_40 : decode b_LT_lastRowUpTo 40 = .ok (.iload_n 3, 1) := by decide +kernel
theorem d_LT_lastRowUpTo_41 : decode b_LT_lastRowUpTo 41 = .ok (.ireturn, 1) := by decide +kernel
abbrev b_LT_isBeforeNextRow : ByteArray := prog_8_method_6_code
def y_LT_isBeforeNextRow : MethodName := ⟨"ZoneFiles$LeapTable", "isBeforeNextRow", "(JI)Z"⟩
theorem d_LT_isBeforeNextRow_0 : decode b_LT_isBeforeNextRow 0 = .ok (.iload_n 3, 1) := by decide +kernel
theorem d_LT_isBeforeNextRow_1 : decode b_LT_isBeforeNextRow 1 = .ok (.iconst 1, 1) := by decide +kernel
theorem d_LT_isBeforeNextRow_2 : decode b_LT_isBeforeNextRow 2 = .ok (.iadd, 1) := by decide +kernel
theorem d_LT_isBeforeNextRow_3 : decode b_LT_isBeforeNextRow 3 = .ok (.aload_n 0, 1) := by decide +kernel
theorem d_LT_isBeforeNextRow_4 : decode b_LT_isBeforeNextRow 4 = .ok (.getfield 18, 3) := by decide +kernel
theorem d_LT_isBeforeNextRow_7 : decode b_LT_isBeforeNextRow 7 = .ok (.if_icmp .ge 27, 3) := by decide +kernel
theorem d_LT_isBeforeNextRow_10 : decode b_LT_isBeforeNextRow 10 = .ok (.lload_n 1, 1) := by decide +kernel
theorem d_LT_isBeforeNextRow_11 : decode b_LT_isBeforeNextRow 11 = .ok (.aload_n 0, 1) := by decide +kernel
theorem d_LT_isBeforeNextRow_12 : decode b_LT_isBeforeNextRow 12 = .ok (.getfield 15, 3) := by decide +kernel
theorem d_LT_isBeforeNextRow_15 : decode b_LT_isBeforeNextRow 15 = .ok (.iload_n 3, 1) := by decide +kernel
theorem d_LT_isBeforeNextRow_16 : decode b_LT_isBeforeNextRow 16 = .ok (.laload, 1) := by decide +kernel
theorem d_LT_isBeforeNextRow_17 : decode b_LT_isBeforeNextRow 17 = .ok (.lsub, 1) := by decide +kernel
theorem d_LT_isBeforeNextRow_18 : decode b_LT_isBeforeNextRow 18 = .ok (.aload_n 0, 1) := by decide +kernel
theorem d_LT_isBeforeNextRow_19 : decode b_LT_isBeforeNextRow 19 = .ok (.getfield 9, 3) := by decide +kernel
theorem d_LT_isBeforeNextRow_22 : decode b_LT_isBeforeNextRow 22 = .ok (.iload_n 3, 1) := by decide +kernel
theorem d_LT_isBeforeNextRow_23 : decode b_LT_isBeforeNextRow 23 = .ok (.iconst 1, 1) := by decide +kernel
theorem d_LT_isBeforeNextRow_24 : decode b_LT_isBeforeNextRow 24 = .ok (.iadd, 1) := by decide +kernel
theorem d_LT_isBeforeNextRow_25 : decode b_LT_isBeforeNextRow 25 = .ok (.laload, 1) := by decide +kernel
theorem d_LT_isBeforeNextRow_26 : decode b_LT_isBeforeNextRow 26 = .ok (.lcmp, 1) := by decide +kernel
theorem d_LT_isBeforeNextRow_27 : decode b_LT_isBeforeNextRow 27 = .ok (.ifCond .lt 7, 3) := by decide +kernel
theorem d_LT_isBeforeNextRow_30 : decode b_LT_isBeforeNextRow 30 = .ok (.iconst 1, 1) := by decide +kernel
theorem d_LT_isBeforeNextRow_31 : decode b_LT_isBeforeNextRow 31 = .ok (.goto 4, 3) := by decide +kernel
theorem d_LT_isBeforeNextRow_34 : decode b_LT_isBeforeNextRow 34 = .ok (.iconst 0, 1) := by decide +kernel
theorem d_LT_isBeforeNextRow_35 : decode b_LT_isBeforeNextRow 35 = .ok (.ireturn, 1) := by decide +kernel
abbrev b_LT_atomicOf : ByteArray := prog_8_method_2_code
def y_LT_atomicOf : MethodName := ⟨"ZoneFiles$LeapTable", "atomicOf", "(J)J"⟩
theorem d_LT_atomicOf_0 : decode b_LT_atomicOf 0 = .ok (.aload_n 0, 1) := by decide +kernel
theorem d_LT_atomicOf_1 : decode b_LT_atomicOf 1 = .ok (.getfield 18, 3) := by decide +kernel
theorem d_LT_atomicOf_4 : decode b_LT_atomicOf 4 = .ok (.ifCond .eq 23, 3) := by decide +kernel
theorem d_LT_atomicOf_7 : decode b_LT_atomicOf 7 = .ok (.lload_n 1, 1) := by decide +kernel
theorem d_LT_atomicOf_8 : decode b_LT_atomicOf 8 = .ok (.aload_n 0, 1) := by decide +kernel
theorem d_LT_atomicOf_9 : decode b_LT_atomicOf 9 = .ok (.getfield 9, 3) := by decide +kernel
theorem d_LT_atomicOf_12 : decode b_LT_atomicOf 12 = .ok (.iconst 0, 1) := by decide +kernel
theorem d_LT_atomicOf_13 : decode b_LT_atomicOf 13 = .ok (.laload, 1) := by decide +kernel
theorem d_LT_atomicOf_14 : decode b_LT_atomicOf 14 = .ok (.lcmp, 1) := by decide +kernel
theorem d_LT_atomicOf_15 : decode b_LT_atomicOf 15 = .ok (.ifCond .lt 12, 3) := by decide +kernel
theorem d_LT_atomicOf_18 : decode b_LT_atomicOf 18 = .ok (.lload_n 1, 1) := by decide +kernel
theorem d_LT_atomicOf_19 : decode b_LT_atomicOf 19 = .ok (.aload_n 0, 1) := by decide +kernel
theorem d_LT_atomicOf_20 : decode b_LT_atomicOf 20 = .ok (.getfield 22, 3) := by decide +kernel
theorem d_LT_atomicOf_23 : decode b_LT_atomicOf 23 = .ok (.lcmp, 1) := by decide +kernel
theorem d_LT_atomicOf_24 : decode b_LT_atomicOf 24 = .ok (.ifCond .lt 7, 3) := by decide +kernel
theorem d_LT_atomicOf_27 : decode b_LT_atomicOf 27 = .ok (.ldc2_w 26, 3) := by decide +kernel
theorem d_LT_atomicOf_30 : decode b_LT_atomicOf 30 = .ok (.lreturn, 1) := by decide +kernel
theorem d_LT_atomicOf_31 : decode b_LT_atomicOf 31 = .ok (.iconst 0, 1) := by decide +kernel
theorem d_LT_atomicOf_32 : decode b_LT_atomicOf 32 = .ok (.istore_n 3, 1) := by decide +kernel
theorem d_LT_atomicOf_33 : decode b_LT_atomicOf 33 = .ok (.iload_n 3, 1) := by decide +kernel
theorem d_LT_atomicOf_34 : decode b_LT_atomicOf 34 = .ok (.iconst 1, 1) := by decide +kernel
theorem d_LT_atomicOf_35 : decode b_LT_atomicOf 35 = .ok (.iadd, 1) := by decide +kernel
theorem d_LT_atomicOf_36 : decode b_LT_atomicOf 36 = .ok (.aload_n 0, 1) := by decide +kernel
theorem d_LT_atomicOf_37 : decode b_LT_atomicOf 37 = .ok (.getfield 18, 3) := by decide +kernel
theorem d_LT_atomicOf_40 : decode b_LT_atomicOf 40 = .ok (.if_icmp .ge 22, 3) := by decide +kernel
theorem d_LT_atomicOf_43 : decode b_LT_atomicOf 43 = .ok (.aload_n 0, 1) := by decide +kernel
theorem d_LT_atomicOf_44 : decode b_LT_atomicOf 44 = .ok (.getfield 9, 3) := by decide +kernel
theorem d_LT_atomicOf_47 : decode b_LT_atomicOf 47 = .ok (.iload_n 3, 1) := by decide +kernel
theorem d_LT_atomicOf_48 : decode b_LT_atomicOf 48 = .ok (.iconst 1, 1) := by decide +kernel
theorem d_LT_atomicOf_49 : decode b_LT_atomicOf 49 = .ok (.iadd, 1) := by decide +kernel
theorem d_LT_atomicOf_50 : decode b_LT_atomicOf 50 = .ok (.laload, 1) := by decide +kernel
theorem d_LT_atomicOf_51 : decode b_LT_atomicOf 51 = .ok (.lload_n 1, 1) := by decide +kernel
theorem d_LT_atomicOf_52 : decode b_LT_atomicOf 52 = .ok (.lcmp, 1) := by decide +kernel
theorem d_LT_atomicOf_53 : decode b_LT_atomicOf 53 = .ok (.ifCond .gt 9, 3) := by decide +kernel
theorem d_LT_atomicOf_56 : decode b_LT_atomicOf 56 = .ok (.iinc 3 1, 3) := by decide +kernel
theorem d_LT_atomicOf_59 : decode b_LT_atomicOf 59 = .ok (.goto (-26), 3) := by decide +kernel
theorem d_LT_atomicOf_62 : decode b_LT_atomicOf 62 = .ok (.iload_n 3, 1) := by decide +kernel
theorem d_LT_atomicOf_63 : decode b_LT_atomicOf 63 = .ok (.iconst 1, 1) := by decide +kernel
theorem d_LT_atomicOf_64 : decode b_LT_atomicOf 64 = .ok (.iadd, 1) := by decide +kernel
theorem d_LT_atomicOf_65 : decode b_LT_atomicOf 65 = .ok (.aload_n 0, 1) := by decide +kernel
theorem d_LT_atomicOf_66 : decode b_LT_atomicOf 66 = .ok (.getfield 18, 3) := by decide +kernel
theorem d_LT_atomicOf_69 : decode b_LT_atomicOf 69 = .ok (.if_icmp .ge 40, 3) := by decide +kernel
theorem d_LT_atomicOf_72 : decode b_LT_atomicOf 72 = .ok (.aload_n 0, 1) := by decide +kernel
theorem d_LT_atomicOf_73 : decode b_LT_atomicOf 73 = .ok (.getfield 15, 3) := by decide +kernel
theorem d_LT_atomicOf_76 : decode b_LT_atomicOf 76 = .ok (.iload_n 3, 1) := by decide +kernel
theorem d_LT_atomicOf_77 : decode b_LT_atomicOf 77 = .ok (.iconst 1, 1) := by decide +kernel
theorem d_LT_atomicOf_78 : decode b_LT_atomicOf 78 = .ok (.iadd, 1) := by decide +kernel
theorem d_LT_atomicOf_79 : decode b_LT_atomicOf 79 = .ok (.laload, 1) := by decide +kernel
theorem d_LT_atomicOf_80 : decode b_LT_atomicOf 80 = .ok (.aload_n 0, 1) := by decide +kernel
theorem d_LT_atomicOf_81 : decode b_LT_atomicOf 81 = .ok (.getfield 15, 3) := by decide +kernel
theorem d_LT_atomicOf_84 : decode b_LT_atomicOf 84 = .ok (.iload_n 3, 1) := by decide +kernel
theorem d_LT_atomicOf_85 : decode b_LT_atomicOf 85 = .ok (.laload, 1) := by decide +kernel
theorem d_LT_atomicOf_86 : decode b_LT_atomicOf 86 = .ok (.lcmp, 1) := by decide +kernel
theorem d_LT_atomicOf_87 : decode b_LT_atomicOf 87 = .ok (.ifCond .ge 22, 3) := by decide +kernel
theorem d_LT_atomicOf_90 : decode b_LT_atomicOf 90 = .ok (.lload_n 1, 1) := by decide +kernel
theorem d_LT_atomicOf_91 : decode b_LT_atomicOf 91 = .ok (.aload_n 0, 1) := by decide +kernel
theorem d_LT_atomicOf_92 : decode b_LT_atomicOf 92 = .ok (.getfield 9, 3) := by decide +kernel
theorem d_LT_atomicOf_95 : decode b_LT_atomicOf 95 = .ok (.iload_n 3, 1) := by decide +kernel
theorem d_LT_atomicOf_96 : decode b_LT_atomicOf 96 = .ok (.iconst 1, 1) := by decide +kernel
theorem d_LT_atomicOf_97 : decode b_LT_atomicOf 97 = .ok (.iadd, 1) := by decide +kernel
theorem d_LT_atomicOf_98 : decode b_LT_atomicOf 98 = .ok (.laload, 1) := by decide +kernel
theorem d_LT_atomicOf_99 : decode b_LT_atomicOf 99 = .ok (.lconst 1, 1) := by decide +kernel
theorem d_LT_atomicOf_100 : decode b_LT_atomicOf 100 = .ok (.lsub, 1) := by decide +kernel
theorem d_LT_atomicOf_101 : decode b_LT_atomicOf 101 = .ok (.lcmp, 1) := by decide +kernel
theorem d_LT_atomicOf_102 : decode b_LT_atomicOf 102 = .ok (.ifCond .ne 7, 3) := by decide +kernel
theorem d_LT_atomicOf_105 : decode b_LT_atomicOf 105 = .ok (.iconst 1, 1) := by decide +kernel
theorem d_LT_atomicOf_106 : decode b_LT_atomicOf 106 = .ok (.goto 4, 3) := by decide +kernel
theorem d_LT_atomicOf_109 : decode b_LT_atomicOf 109 = .ok (.iconst 0, 1) := by decide +kernel
theorem d_LT_atomicOf_110 : decode b_LT_atomicOf 110 = .ok (.istore 4, 2) := by decide +kernel
theorem d_LT_atomicOf_112 : decode b_LT_atomicOf 112 = .ok (.iload 4, 2) := by decide +kernel
theorem d_LT_atomicOf_114 : decode b_LT_atomicOf 114 = .ok (.ifCond .eq 9, 3) := by decide +kernel
theorem d_LT_atomicOf_117 : decode b_LT_atomicOf 117 = .ok (.ldc2_w 26, 3) := by decide +kernel
theorem d_LT_atomicOf_120 : decode b_LT_atomicOf 120 = .ok (.goto 11, 3) := by decide +kernel
theorem d_LT_atomicOf_123 : decode b_LT_atomicOf 123 = .ok (.lload_n 1, 1) := by decide +kernel
theorem d_LT_atomicOf_124 : decode b_LT_atomicOf 124 = .ok (.aload_n 0, 1) := by decide +kernel
theorem d_LT_atomicOf_125 : decode b_LT_atomicOf 125 = .ok (.getfield 15, 3) := by decide +kernel
theorem d_LT_atomicOf_128 : decode b_LT_atomicOf 128 = .ok (.iload_n 3, 1) := by decide +kernel
theorem d_LT_atomicOf_129 : decode b_LT_atomicOf 129 = .ok (.laload, 1) := by decide +kernel
theorem d_LT_atomicOf_130 : decode b_LT_atomicOf 130 = .ok (.ladd, 1) := by decide +kernel
theorem d_LT_atomicOf_131 : decode b_LT_atomicOf 131 = .ok (.lreturn, 1) := by decide +kernel
abbrev b_LT_instantOf : ByteArray := prog_8_method_3_code
def y_LT_instantOf : MethodName := ⟨"ZoneFiles$LeapTable", "instantOf", "(J)J"⟩
theorem d_LT_instantOf_0 : decode b_LT_instantOf 0 = .ok (.aload_n 0, 1) := by decide +kernel
theorem d_LT_instantOf_1 : decode b_LT_instantOf 1 = .ok (.lload_n 1, 1) := by decide +kernel
theorem d_LT_instantOf_2 : decode b_LT_instantOf 2 = .ok (.invokevirtual 28, 3) := by decide +kernel
theorem d_LT_instantOf_5 : decode b_LT_instantOf 5 = .ok (.istore_n 3, 1) := by decide +kernel
theorem d_LT_instantOf_6 : decode b_LT_instantOf 6 = .ok (.iload_n 3, 1) := by decide +kernel
theorem d_LT_instantOf_7 : decode b_LT_instantOf 7 = .ok (.ifCond .ge 7, 3) := by decide +kernel
theorem d_LT_instantOf_10 : decode b_LT_instantOf 10 = .ok (.ldc2_w 26, 3) := by decide +kernel
theorem d_LT_instantOf_13 : decode b_LT_instantOf 13 = .ok (.lreturn, 1) := by decide +kernel
theorem d_LT_instantOf_14 : decode b_LT_instantOf 14 = .ok (.aload_n 0, 1) := by decide +kernel
theorem d_LT_instantOf_15 : decode b_LT_instantOf 15 = .ok (.lload_n 1, 1) := by decide +kernel
theorem d_LT_instantOf_16 : decode b_LT_instantOf 16 = .ok (.iload_n 3, 1) := by decide +kernel
theorem d_LT_instantOf_17 : decode b_LT_instantOf 17 = .ok (.invokevirtual 32, 3) := by decide +kernel
theorem d_LT_instantOf_20 : decode b_LT_instantOf 20 = .ok (.ifCond .eq 14, 3) := by decide +kernel
theorem d_LT_instantOf_23 : decode b_LT_instantOf 23 = .ok (.aload_n 0, 1) := by decide +kernel
theorem d_LT_instantOf_24 : decode b_LT_instantOf 24 = .ok (.getfield 9, 3) := by decide +kernel
theorem d_LT_instantOf_27 : decode b_LT_instantOf 27 = .ok (.iload_n 3, 1) := by decide +kernel
theorem d_LT_instantOf_28 : decode b_LT_instantOf 28 = .ok (.iconst 1, 1) := by decide +kernel
theorem d_LT_instantOf_29 : decode b_LT_instantOf 29 = .ok (.iadd, 1) := by decide +kernel
theorem d_LT_instantOf_30 : decode b_LT_instantOf 30 = .ok (.laload, 1) := by decide +kernel
theorem d_LT_instantOf_31 : decode b_LT_instantOf 31 = .ok (.lconst 1, 1) := by decide +kernel
theorem d_LT_instantOf_32 : decode b_LT_instantOf 32 = .ok (.lsub, 1) := by decide +kernel
theorem d_LT_instantOf_33 : decode b_LT_instantOf 33 = .ok (.lreturn, 1) := by decide +kernel
theorem d_LT_instantOf_34 : decode b_LT_instantOf 34 = .ok (.lload_n 1, 1) := by decide +kernel
theorem d_LT_instantOf_35 : decode b_LT_instantOf 35 = .ok (.aload_n 0, 1) := by decide +kernel
theorem d_LT_instantOf_36 : decode b_LT_instantOf 36 = .ok (.getfield 15, 3) := by decide +kernel
theorem d_LT_instantOf_39 : decode b_LT_instantOf 39 = .ok (.iload_n 3, 1) := by decide +kernel
theorem d_LT_instantOf_40 : decode b_LT_instantOf 40 = .ok (.laload, 1) := by decide +kernel
theorem d_LT_instantOf_41 : decode b_LT_instantOf 41 = .ok (.lsub, 1) := by decide +kernel
theorem d_LT_instantOf_42 : decode b_LT_instantOf 42 = .ok (.lstore 4, 2) := by decide +kernel
theorem d_LT_instantOf_44 : decode b_LT_instantOf 44 = .ok (.lload 4, 2) := by decide +kernel
theorem d_LT_instantOf_46 : decode b_LT_instantOf 46 = .ok (.aload_n 0, 1) := by decide +kernel
theorem d_LT_instantOf_47 : decode b_LT_instantOf 47 = .ok (.getfield 22, 3) := by decide +kernel
theorem d_LT_instantOf_50 : decode b_LT_instantOf 50 = .ok (.lcmp, 1) := by decide +kernel
theorem d_LT_instantOf_51 : decode b_LT_instantOf 51 = .ok (.ifCond .ge 8, 3) := by decide +kernel
theorem d_LT_instantOf_54 : decode b_LT_instantOf 54 = .ok (.lload 4, 2) := by decide +kernel
theorem d_LT_instantOf_56 : decode b_LT_instantOf 56 = .ok (.goto 6, 3) := by decide +kernel
theorem d_LT_instantOf_59 : decode b_LT_instantOf 59 = .ok (.ldc2_w 26, 3) := by decide +kernel
theorem d_LT_instantOf_62 : decode b_LT_instantOf 62 = .ok (.lreturn, 1) := by decide +kernel
abbrev b_LT_hasLeapSecond : ByteArray := prog_8_method_4_code
def y_LT_hasLeapSecond : MethodName := ⟨"ZoneFiles$LeapTable", "hasLeapSecond", "(J)Z"⟩
theorem d_LT_hasLeapSecond_0 : decode b_LT_hasLeapSecond 0 = .ok (.aload_n 0, 1) := by decide +kernel
theorem d_LT_hasLeapSecond_1 : decode b_LT_hasLeapSecond 1 = .ok (.lload_n 1, 1) := by decide +kernel
theorem d_LT_hasLeapSecond_2 : decode b_LT_hasLeapSecond 2 = .ok (.invokevirtual 28, 3) := by decide +kernel
theorem d_LT_hasLeapSecond_5 : decode b_LT_hasLeapSecond 5 = .ok (.istore_n 3, 1) := by decide +kernel
theorem d_LT_hasLeapSecond_6 : decode b_LT_hasLeapSecond 6 = .ok (.iload_n 3, 1) := by decide +kernel
theorem d_LT_hasLeapSecond_7 : decode b_LT_hasLeapSecond 7 = .ok (.ifCond .lt 16, 3) := by decide +kernel
theorem d_LT_hasLeapSecond_10 : decode b_LT_hasLeapSecond 10 = .ok (.aload_n 0, 1) := by decide +kernel
theorem d_LT_hasLeapSecond_11 : decode b_LT_hasLeapSecond 11 = .ok (.lload_n 1, 1) := by decide +kernel
theorem d_LT_hasLeapSecond_12 : decode b_LT_hasLeapSecond 12 = .ok (.iload_n 3, 1) := by decide +kernel
theorem d_LT_hasLeapSecond_13 : decode b_LT_hasLeapSecond 13 = .ok (.invokevirtual 32, 3) := by decide +kernel
theorem d_LT_hasLeapSecond_16 : decode b_LT_hasLeapSecond 16 = .ok (.ifCond .eq 7, 3) := by decide +kernel
theorem d_LT_hasLeapSecond_19 : decode b_LT_hasLeapSecond 19 = .ok (.iconst 1, 1) := by decide +kernel
theorem d_LT_hasLeapSecond_20 : decode b_LT_hasLeapSecond 20 = .ok (.goto 4, 3) := by decide +kernel
theorem d_LT_hasLeapSecond_23 : decode b_LT_hasLeapSecond 23 = .ok (.iconst 0, 1) := by decide +kernel
theorem d_LT_hasLeapSecond_24 : decode b_LT_hasLeapSecond 24 = .ok (.ireturn, 1) := by decide +kernel
-- ZoneFiles$LeapTable.lastRowUpTo(J)I
def f_LT_lastRowUpTo_40 (nf : Nat) (x3 : Int32) : Option (Int32) :=
  some x3
def f_LT_lastRowUpTo_2 (nf : Nat) (lCount : Int32) (lTiA : Nat → Int64) (lAhA : Nat → Int64) : Nat → Int32 → Int64 → Option (Int32)
  | 0, _, _ => none
  | n + 1, x3, x1 =>
    if lCount ≤ (x3 + 1) then
    f_LT_lastRowUpTo_40 nf x3
    else
    if (x3 + 1) < 0 ∨ 60 ≤ (x3 + 1).toNatClampNeg then none else
      if (x3 + 1) < 0 ∨ 60 ≤ (x3 + 1).toNatClampNeg then none else
      if x1 < ((lTiA (x3 + 1).toNatClampNeg) + (lAhA (x3 + 1).toNatClampNeg)) then
      f_LT_lastRowUpTo_40 nf x3
      else
      f_LT_lastRowUpTo_2 nf lCount lTiA lAhA n (x3 + 1) x1
def f_LT_lastRowUpTo_0 (nf : Nat) (lCount : Int32) (lTiA : Nat → Int64) (lAhA : Nat → Int64) (x1 : Int64) : Option (Int32) :=
  f_LT_lastRowUpTo_2 nf lCount lTiA lAhA nf (-1) x1
def f_LT_lastRowUpTo (nf : Nat) (p0 : Int64) (lCount : Int32) (lTiA : Nat → Int64) (lAhA : Nat → Int64) : Option (Int32) :=
  f_LT_lastRowUpTo_0 nf lCount lTiA lAhA p0
section
variable {p : Program} {l : Launch} {e : Env} {R : Room} {s : State} {m : MethodId} {args : Array Value} {below : List Frame} {meth : Method} {c : Code} {Q : State → Prop} {dC : Nat → ClassId} {dI : Nat → Nat → Nat} {nf : Nat}
variable {h0 : Nat} {lTi : Nat} {lAh : Nat} {cAlTi : ClassId} {cAlAh : ClassId} {lCount : Int32} {lExp : Int64} {lTiA : Nat → Int64} {lAhA : Nat → Int64} {r0 : Int32}
set_option maxHeartbeats 400000 in
set_option maxRecDepth 100000 in
theorem k_LT_lastRowUpTo_40 (C0 : Cx p s m meth c args R b_LT_lastRowUpTo "ZoneFiles$LeapTable" 4 (some .int) 0 0) (hST : ST (fun _ => False) s s.heap) (hK : va_K (dC, dI) classes [(cAlTi, .long), (cAlAh, .long)] s) (hP : va_P (dC, dI) classes [(h0, .inr (4, [.int lCount, .ref lTi, .ref lAh, .long lExp])), (lTi, .inl (cAlTi, 60, .inr (.inl lTiA))), (lAh, .inl (cAlAh, 60, .inr (.inl lAhA)))] s.heap) (hE : ∀ (pc : Nat) (ls : Array Slot), decode b_LT_lastRowUpTo pc = .ok (.ireturn, 1) → narrow .int (.int r0) = .int r0 → W p l e R s m args below meth c s.heap [] 0 0 Q (F0 m pc ls [.int r0])) {x3 : Int32} (hf : f_LT_lastRowUpTo_40 nf x3 = some r0) {ls : Array Slot} (hl : lv_has ls 4 [(3, .int x3)]) : W p l e R s m args below meth c s.heap [] 0 0 Q (F0 m 40 ls []) := by
  obtain ⟨hx, hb, hr, hml, hown, hts, hlocks, hRf, hRl⟩ := id C0
  obtain ⟨tms, hZms, hTms, tmg, hZmg, hTmg, hNW⟩ := id hST
  unfold f_LT_lastRowUpTo_40 at hf
  refine lv_iload_n hx hb d_LT_lastRowUpTo_40 rfl (lv_at hl 0 rfl) ?_
  have e := rs hf
  subst e
  exact hE _ _ d_LT_lastRowUpTo_41 rfl
set_option maxHeartbeats 400000 in
set_option maxRecDepth 100000 in
theorem k_LT_lastRowUpTo_2 (C0 : Cx p s m meth c args R b_LT_lastRowUpTo "ZoneFiles$LeapTable" 4 (some .int) 0 0) (hST : ST (fun _ => False) s s.heap) (hK : va_K (dC, dI) classes [(cAlTi, .long), (cAlAh, .long)] s) (hP : va_P (dC, dI) classes [(h0, .inr (4, [.int lCount, .ref lTi, .ref lAh, .long lExp])), (lTi, .inl (cAlTi, 60, .inr (.inl lTiA))), (lAh, .inl (cAlAh, 60, .inr (.inl lAhA)))] s.heap) (hE : ∀ (pc : Nat) (ls : Array Slot), decode b_LT_lastRowUpTo pc = .ok (.ireturn, 1) → narrow .int (.int r0) = .int r0 → W p l e R s m args below meth c s.heap [] 0 0 Q (F0 m pc ls [.int r0])) : ∀ (n : Nat) {x3 : Int32} {x1 : Int64}, f_LT_lastRowUpTo_2 nf lCount lTiA lAhA n x3 x1 = some r0 → ∀ {ls : Array Slot}, lv_has ls 4 [(3, .int x3), (0, .ref h0), (1, .long x1)] → W p l e R s m args below meth c s.heap [] 0 0 Q (F0 m 2 ls []) := by
  obtain ⟨hx, hb, hr, hml, hown, hts, hlocks, hRf, hRl⟩ := id C0
  obtain ⟨tms, hZms, hTms, tmg, hZmg, hTmg, hNW⟩ := id hST
  intro n
  induction n with
  | zero =>
    intro x3 x1 hf
    exact absurd hf (by simp [f_LT_lastRowUpTo_2])
  | succ n ih =>
    intro x3 x1 hf ls hl
    unfold f_LT_lastRowUpTo_2 at hf
    refine lv_iload_n hx hb d_LT_lastRowUpTo_2 rfl (lv_at hl 0 rfl) ?_
    refine lv_iconst (v := 1) hx hb d_LT_lastRowUpTo_3 (by decide) ?_
    refine lv_iadd hx hb d_LT_lastRowUpTo_4 ?_
    refine lv_aload_n hx hb d_LT_lastRowUpTo_5 rfl (lv_at hl 1 rfl) ?_
    refine va_get (D := (dC, dI)) (ci := 4) (v := .int lCount) (C := RLeapTable) (T := TLeapTable) (N := 4) hx hb hts in_LeapTable hown hK hP 0 rfl rfl 0 (by decide) (hts (.fieldLink "ZoneFiles$LeapTable" 18 "ZoneFiles$LeapTable" "count" "I") m_2_96) (fun _ h9 => h9) rfl d_LT_lastRowUpTo_6 ?_
    refine lv_icmp_ge (tgt := 40) hx hb d_LT_lastRowUpTo_9 (by decide) (fun c_1 => ?_) (fun c_1 => ?_)
    · have hf := it_t c_1 hf
      exact k_LT_lastRowUpTo_40 C0 hST hK hP hE hf (lv_sub hl [0] rfl)
    · have hf := it_f c_1 hf
      refine lv_aload_n hx hb d_LT_lastRowUpTo_12 rfl (lv_at hl 1 rfl) ?_
      refine va_get (D := (dC, dI)) (ci := 4) (v := .ref lTi) (C := RLeapTable) (T := TLeapTable) (N := 4) hx hb hts in_LeapTable hown hK hP 0 rfl rfl 1 (by decide) (hts (.fieldLink "ZoneFiles$LeapTable" 9 "ZoneFiles$LeapTable" "times" "[J") m_2_99) (fun _ h9 => h9) rfl d_LT_lastRowUpTo_13 ?_
      refine lv_iload_n hx hb d_LT_lastRowUpTo_16 rfl (lv_at hl 0 rfl) ?_
      refine lv_iconst (v := 1) hx hb d_LT_lastRowUpTo_17 (by decide) ?_
      refine lv_iadd hx hb d_LT_lastRowUpTo_18 ?_
      obtain ⟨c_2, hf⟩ := it_n hf
      refine va_lald hx hb hK hP 1 0 rfl rfl c_2 d_LT_lastRowUpTo_19 ?_
      refine lv_aload_n hx hb d_LT_lastRowUpTo_20 rfl (lv_at hl 1 rfl) ?_
      refine va_get (D := (dC, dI)) (ci := 4) (v := .ref lAh) (C := RLeapTable) (T := TLeapTable) (N := 4) hx hb hts in_LeapTable hown hK hP 0 rfl rfl 2 (by decide) (hts (.fieldLink "ZoneFiles$LeapTable" 15 "ZoneFiles$LeapTable" "aheads" "[J") m_2_102) (fun _ h9 => h9) rfl d_LT_lastRowUpTo_21 ?_
      refine lv_iload_n hx hb d_LT_lastRowUpTo_24 rfl (lv_at hl 0 rfl) ?_
      refine lv_iconst (v := 1) hx hb d_LT_lastRowUpTo_25 (by decide) ?_
      refine lv_iadd hx hb d_LT_lastRowUpTo_26 ?_
      obtain ⟨c_3, hf⟩ := it_n hf
      refine va_lald hx hb hK hP 2 1 rfl rfl c_3 d_LT_lastRowUpTo_27 ?_
      refine lv_ladd hx hb d_LT_lastRowUpTo_28 ?_
      refine lv_lload_n hx hb d_LT_lastRowUpTo_29 rfl (lv_at hl 2 rfl) ?_
      refine lc_gt (tgt := 40) hx hb d_LT_lastRowUpTo_30 d_LT_lastRowUpTo_31 (by decide) (fun c_4 => ?_) (fun c_4 => ?_)
      · have hf := it_t c_4 hf
        exact k_LT_lastRowUpTo_40 C0 hST hK hP hE hf (lv_sub hl [0] rfl)
      · have hf := it_f c_4 hf
        refine lv_iinc (v := x3 + 1) (lv' := [(3, .int (x3 + 1)), (0, .ref h0), (1, .long x1)]) hx hb d_LT_lastRowUpTo_34 hl (k := 0) rfl rfl (by decide) rfl (fun ls hl => ?_)
        refine lv_goto (tgt := 2) hx hb d_LT_lastRowUpTo_37 (by decide) ?_
        exact ih hf (lv_sub hl [0, 1, 2] rfl)
set_option maxHeartbeats 400000 in
set_option maxRecDepth 100000 in
theorem k_LT_lastRowUpTo_0 (C0 : Cx p s m meth c args R b_LT_lastRowUpTo "ZoneFiles$LeapTable" 4 (some .int) 0 0) (hST : ST (fun _ => False) s s.heap) (hK : va_K (dC, dI) classes [(cAlTi, .long), (cAlAh, .long)] s) (hP : va_P (dC, dI) classes [(h0, .inr (4, [.int lCount, .ref lTi, .ref lAh, .long lExp])), (lTi, .inl (cAlTi, 60, .inr (.inl lTiA))), (lAh, .inl (cAlAh, 60, .inr (.inl lAhA)))] s.heap) (hE : ∀ (pc : Nat) (ls : Array Slot), decode b_LT_lastRowUpTo pc = .ok (.ireturn, 1) → narrow .int (.int r0) = .int r0 → W p l e R s m args below meth c s.heap [] 0 0 Q (F0 m pc ls [.int r0])) {x1 : Int64} (hf : f_LT_lastRowUpTo_0 nf lCount lTiA lAhA x1 = some r0) {ls : Array Slot} (hl : lv_has ls 4 [(0, .ref h0), (1, .long x1)]) : W p l e R s m args below meth c s.heap [] 0 0 Q (F0 m 0 ls []) := by
  obtain ⟨hx, hb, hr, hml, hown, hts, hlocks, hRf, hRl⟩ := id C0
  obtain ⟨tms, hZms, hTms, tmg, hZmg, hTmg, hNW⟩ := id hST
  unfold f_LT_lastRowUpTo_0 at hf
  refine lv_iconst (v := -1) hx hb d_LT_lastRowUpTo_0 (by decide) ?_
  refine lv_istore_n (lv' := [(3, .int (-1)), (0, .ref h0), (1, .long x1)]) hx hb d_LT_lastRowUpTo_1 rfl hl (by decide) rfl (fun ls hl => ?_)
  exact k_LT_lastRowUpTo_2 C0 hST hK hP hE nf hf (lv_sub hl [0, 1, 2] rfl)
end
set_option maxHeartbeats 400000 in
set_option maxRecDepth 100000 in
theorem c_LT_lastRowUpTo (l : Launch) (dC : Nat → ClassId) (dI : Nat → Nat → Nat) (h0 : Nat) (lTi : Nat) (lAh : Nat) (cAlTi : ClassId) (cAlAh : ClassId) (nf : Nat) (p0 : Int64) (lCount : Int32) (lExp : Int64) (lTiA : Nat → Int64) (lAhA : Nat → Int64) {r0 : Int32} (hf : f_LT_lastRowUpTo nf p0 lCount lTiA lAhA = some r0) : Met l y_LT_lastRowUpTo (wd y_LT_lastRowUpTo b_LT_lastRowUpTo 4 (some .int)) ({ frames := 0, cells := 0, slots := 0, locals := 0 }) (RO dC dI [(h0, .inr (4, [.int lCount, .ref lTi, .ref lAh, .long lExp])), (lTi, .inl (cAlTi, 60, .inr (.inl lTiA))), (lAh, .inl (cAlAh, 60, .inr (.inl lAhA)))] [(cAlTi, .long), (cAlAh, .long)] [.ref h0, .long p0]) (SV (some (.int r0))) 0 0 (fun _ => False) :=
  met_S (plainFor_of_name (by decide)) (Nat.le_of_ble_eq_true rfl) (fun p e R s m args below meth c ls C0 hST hK hP hl => by
    obtain ⟨hx, hb, hr, hml, hown, hts, hlocks, hRf, hRl⟩ := id C0
    unfold f_LT_lastRowUpTo at hf
    exact k_LT_lastRowUpTo_0 C0 hST hK hP (fun pc ls hd hn => W.zret hx hb hr hn (fun t ht hW => ⟨rfl, ht⟩) (fun q h => by cases h) hd) hf (lv_sub hl [0, 1] rfl))
-- ZoneFiles$LeapTable.isBeforeNextRow(JI)Z
def f_LT_isBeforeNextRow_35 (nf : Nat) (s0 : Int32) : Option (Int32) :=
  if s0 = 0 ∨ s0 = 1 then some s0 else none
def f_LT_isBeforeNextRow_34 (nf : Nat) : Option (Int32) :=
  f_LT_isBeforeNextRow_35 nf 0
def f_LT_isBeforeNextRow_0 (nf : Nat) (lCount : Int32) (lTiA : Nat → Int64) (lAhA : Nat → Int64) (x1 : Int64) (x3 : Int32) : Option (Int32) :=
  if lCount ≤ (x3 + 1) then
  f_LT_isBeforeNextRow_34 nf
  else
  if x3 < 0 ∨ 60 ≤ x3.toNatClampNeg then none else
    if (x3 + 1) < 0 ∨ 60 ≤ (x3 + 1).toNatClampNeg then none else
    if (x1 - (lAhA x3.toNatClampNeg)) < (lTiA (x3 + 1).toNatClampNeg) then
    f_LT_isBeforeNextRow_34 nf
    else
    f_LT_isBeforeNextRow_35 nf 1
def f_LT_isBeforeNextRow (nf : Nat) (p0 : Int64) (p1 : Int32) (lCount : Int32) (lTiA : Nat → Int64) (lAhA : Nat → Int64) : Option (Int32) :=
  f_LT_isBeforeNextRow_0 nf lCount lTiA lAhA p0 p1
section
variable {p : Program} {l : Launch} {e : Env} {R : Room} {s : State} {m : MethodId} {args : Array Value} {below : List Frame} {meth : Method} {c : Code} {Q : State → Prop} {dC : Nat → ClassId} {dI : Nat → Nat → Nat} {nf : Nat}
variable {h0 : Nat} {lTi : Nat} {lAh : Nat} {cAlTi : ClassId} {cAlAh : ClassId} {lCount : Int32} {lExp : Int64} {lTiA : Nat → Int64} {lAhA : Nat → Int64} {r0 : Int32}
set_option maxHeartbeats 400000 in
set_option maxRecDepth 100000 in
theorem k_LT_isBeforeNextRow_35 (C0 : Cx p s m meth c args R b_LT_isBeforeNextRow "ZoneFiles$LeapTable" 4 (some .boolean) 0 0) (hST : ST (fun _ => False) s s.heap) (hK : va_K (dC, dI) classes [(cAlTi, .long), (cAlAh, .long)] s) (hP : va_P (dC, dI) classes [(h0, .inr (4, [.int lCount, .ref lTi, .ref lAh, .long lExp])), (lTi, .inl (cAlTi, 60, .inr (.inl lTiA))), (lAh, .inl (cAlAh, 60, .inr (.inl lAhA)))] s.heap) (hE : ∀ (pc : Nat) (ls : Array Slot), decode b_LT_isBeforeNextRow pc = .ok (.ireturn, 1) → narrow .boolean (.int r0) = .int r0 → W p l e R s m args below meth c s.heap [] 0 0 Q (F0 m pc ls [.int r0])) {s0 : Int32} (hf : f_LT_isBeforeNextRow_35 nf s0 = some r0) {ls : Array Slot} (hl : lv_has ls 4 []) : W p l e R s m args below meth c s.heap [] 0 0 Q (F0 m 35 ls [.int s0]) := by
  obtain ⟨hx, hb, hr, hml, hown, hts, hlocks, hRf, hRl⟩ := id C0
  obtain ⟨tms, hZms, hTms, tmg, hZmg, hTmg, hNW⟩ := id hST
  unfold f_LT_isBeforeNextRow_35 at hf
  obtain ⟨c_2, hf⟩ := it_g hf
  have e := rs hf
  subst e
  exact hE _ _ d_LT_isBeforeNextRow_35 (nb_of c_2)
set_option maxHeartbeats 400000 in
set_option maxRecDepth 100000 in
theorem k_LT_isBeforeNextRow_34 (C0 : Cx p s m meth c args R b_LT_isBeforeNextRow "ZoneFiles$LeapTable" 4 (some .boolean) 0 0) (hST : ST (fun _ => False) s s.heap) (hK : va_K (dC, dI) classes [(cAlTi, .long), (cAlAh, .long)] s) (hP : va_P (dC, dI) classes [(h0, .inr (4, [.int lCount, .ref lTi, .ref lAh, .long lExp])), (lTi, .inl (cAlTi, 60, .inr (.inl lTiA))), (lAh, .inl (cAlAh, 60, .inr (.inl lAhA)))] s.heap) (hE : ∀ (pc : Nat) (ls : Array Slot), decode b_LT_isBeforeNextRow pc = .ok (.ireturn, 1) → narrow .boolean (.int r0) = .int r0 → W p l e R s m args below meth c s.heap [] 0 0 Q (F0 m pc ls [.int r0])) (hf : f_LT_isBeforeNextRow_34 nf = some r0) {ls : Array Slot} (hl : lv_has ls 4 []) : W p l e R s m args below meth c s.heap [] 0 0 Q (F0 m 34 ls []) := by
  obtain ⟨hx, hb, hr, hml, hown, hts, hlocks, hRf, hRl⟩ := id C0
  obtain ⟨tms, hZms, hTms, tmg, hZmg, hTmg, hNW⟩ := id hST
  unfold f_LT_isBeforeNextRow_34 at hf
  refine lv_iconst (v := 0) hx hb d_LT_isBeforeNextRow_34 (by decide) ?_
  exact k_LT_isBeforeNextRow_35 C0 hST hK hP hE hf (lv_sub hl [] rfl)
set_option maxHeartbeats 400000 in
set_option maxRecDepth 100000 in
theorem k_LT_isBeforeNextRow_0 (C0 : Cx p s m meth c args R b_LT_isBeforeNextRow "ZoneFiles$LeapTable" 4 (some .boolean) 0 0) (hST : ST (fun _ => False) s s.heap) (hK : va_K (dC, dI) classes [(cAlTi, .long), (cAlAh, .long)] s) (hP : va_P (dC, dI) classes [(h0, .inr (4, [.int lCount, .ref lTi, .ref lAh, .long lExp])), (lTi, .inl (cAlTi, 60, .inr (.inl lTiA))), (lAh, .inl (cAlAh, 60, .inr (.inl lAhA)))] s.heap) (hE : ∀ (pc : Nat) (ls : Array Slot), decode b_LT_isBeforeNextRow pc = .ok (.ireturn, 1) → narrow .boolean (.int r0) = .int r0 → W p l e R s m args below meth c s.heap [] 0 0 Q (F0 m pc ls [.int r0])) {x1 : Int64} {x3 : Int32} (hf : f_LT_isBeforeNextRow_0 nf lCount lTiA lAhA x1 x3 = some r0) {ls : Array Slot} (hl : lv_has ls 4 [(0, .ref h0), (1, .long x1), (3, .int x3)]) : W p l e R s m args below meth c s.heap [] 0 0 Q (F0 m 0 ls []) := by
  obtain ⟨hx, hb, hr, hml, hown, hts, hlocks, hRf, hRl⟩ := id C0
  obtain ⟨tms, hZms, hTms, tmg, hZmg, hTmg, hNW⟩ := id hST
  unfold f_LT_isBeforeNextRow_0 at hf
  refine lv_iload_n hx hb d_LT_isBeforeNextRow_0 rfl (lv_at hl 2 rfl) ?_
  refine lv_iconst (v := 1) hx hb d_LT_isBeforeNextRow_1 (by decide) ?_
  refine lv_iadd hx hb d_LT_isBeforeNextRow_2 ?_
  refine lv_aload_n hx hb d_LT_isBeforeNextRow_3 rfl (lv_at hl 0 rfl) ?_
  refine va_get (D := (dC, dI)) (ci := 4) (v := .int lCount) (C := RLeapTable) (T := TLeapTable) (N := 4) hx hb hts in_LeapTable hown hK hP 0 rfl rfl 0 (by decide) (hts (.fieldLink "ZoneFiles$LeapTable" 18 "ZoneFiles$LeapTable" "count" "I") m_2_96) (fun _ h9 => h9) rfl d_LT_isBeforeNextRow_4 ?_
  refine lv_icmp_ge (tgt := 34) hx hb d_LT_isBeforeNextRow_7 (by decide) (fun c_1 => ?_) (fun c_1 => ?_)
  · have hf := it_t c_1 hf
    exact k_LT_isBeforeNextRow_34 C0 hST hK hP hE hf (lv_sub hl [] rfl)
  · have hf := it_f c_1 hf
    refine lv_lload_n hx hb d_LT_isBeforeNextRow_10 rfl (lv_at hl 1 rfl) ?_
    refine lv_aload_n hx hb d_LT_isBeforeNextRow_11 rfl (lv_at hl 0 rfl) ?_
    refine va_get (D := (dC, dI)) (ci := 4) (v := .ref lAh) (C := RLeapTable) (T := TLeapTable) (N := 4) hx hb hts in_LeapTable hown hK hP 0 rfl rfl 2 (by decide) (hts (.fieldLink "ZoneFiles$LeapTable" 15 "ZoneFiles$LeapTable" "aheads" "[J") m_2_102) (fun _ h9 => h9) rfl d_LT_isBeforeNextRow_12 ?_
    refine lv_iload_n hx hb d_LT_isBeforeNextRow_15 rfl (lv_at hl 2 rfl) ?_
    obtain ⟨c_3, hf⟩ := it_n hf
    refine va_lald hx hb hK hP 2 1 rfl rfl c_3 d_LT_isBeforeNextRow_16 ?_
    refine lv_lsub hx hb d_LT_isBeforeNextRow_17 ?_
    refine lv_aload_n hx hb d_LT_isBeforeNextRow_18 rfl (lv_at hl 0 rfl) ?_
    refine va_get (D := (dC, dI)) (ci := 4) (v := .ref lTi) (C := RLeapTable) (T := TLeapTable) (N := 4) hx hb hts in_LeapTable hown hK hP 0 rfl rfl 1 (by decide) (hts (.fieldLink "ZoneFiles$LeapTable" 9 "ZoneFiles$LeapTable" "times" "[J") m_2_99) (fun _ h9 => h9) rfl d_LT_isBeforeNextRow_19 ?_
    refine lv_iload_n hx hb d_LT_isBeforeNextRow_22 rfl (lv_at hl 2 rfl) ?_
    refine lv_iconst (v := 1) hx hb d_LT_isBeforeNextRow_23 (by decide) ?_
    refine lv_iadd hx hb d_LT_isBeforeNextRow_24 ?_
    obtain ⟨c_4, hf⟩ := it_n hf
    refine va_lald hx hb hK hP 1 0 rfl rfl c_4 d_LT_isBeforeNextRow_25 ?_
    refine lc_lt (tgt := 34) hx hb d_LT_isBeforeNextRow_26 d_LT_isBeforeNextRow_27 (by decide) (fun c_5 => ?_) (fun c_5 => ?_)
    · have hf := it_t c_5 hf
      exact k_LT_isBeforeNextRow_34 C0 hST hK hP hE hf (lv_sub hl [] rfl)
    · have hf := it_f c_5 hf
      refine lv_iconst (v := 1) hx hb d_LT_isBeforeNextRow_30 (by decide) ?_
      refine lv_goto (tgt := 35) hx hb d_LT_isBeforeNextRow_31 (by decide) ?_
      exact k_LT_isBeforeNextRow_35 C0 hST hK hP hE hf (lv_sub hl [] rfl)
end
set_option maxHeartbeats 400000 in
set_option maxRecDepth 100000 in
theorem c_LT_isBeforeNextRow (l : Launch) (dC : Nat → ClassId) (dI : Nat → Nat → Nat) (h0 : Nat) (lTi : Nat) (lAh : Nat) (cAlTi : ClassId) (cAlAh : ClassId) (nf : Nat) (p0 : Int64) (p1 : Int32) (lCount : Int32) (lExp : Int64) (lTiA : Nat → Int64) (lAhA : Nat → Int64) {r0 : Int32} (hf : f_LT_isBeforeNextRow nf p0 p1 lCount lTiA lAhA = some r0) : Met l y_LT_isBeforeNextRow (wd y_LT_isBeforeNextRow b_LT_isBeforeNextRow 4 (some .boolean)) ({ frames := 0, cells := 0, slots := 0, locals := 0 }) (RO dC dI [(h0, .inr (4, [.int lCount, .ref lTi, .ref lAh, .long lExp])), (lTi, .inl (cAlTi, 60, .inr (.inl lTiA))), (lAh, .inl (cAlAh, 60, .inr (.inl lAhA)))] [(cAlTi, .long), (cAlAh, .long)] [.ref h0, .long p0, .int p1]) (SV (some (.int r0))) 0 0 (fun _ => False) :=
  met_S (plainFor_of_name (by decide)) (Nat.le_of_ble_eq_true rfl) (fun p e R s m args below meth c ls C0 hST hK hP hl => by
    obtain ⟨hx, hb, hr, hml, hown, hts, hlocks, hRf, hRl⟩ := id C0
    unfold f_LT_isBeforeNextRow at hf
    exact k_LT_isBeforeNextRow_0 C0 hST hK hP (fun pc ls hd hn => W.zret hx hb hr hn (fun t ht hW => ⟨rfl, ht⟩) (fun q h => by cases h) hd) hf (lv_sub hl [0, 1, 2] rfl))
-- ZoneFiles$LeapTable.atomicOf(J)J
def f_LT_atomicOf_27 (nf : Nat) : Option (Int64) :=
  some (-9223372036854775808)
def f_LT_atomicOf_131 (nf : Nat) (s0 : Int64) : Option (Int64) :=
  some s0
def f_LT_atomicOf_110 (nf : Nat) (lAhA : Nat → Int64) (x3 : Int32) (x1 : Int64) (s0 : Int32) : Option (Int64) :=
  if s0 = 0 then
  if x3 < 0 ∨ 60 ≤ x3.toNatClampNeg then none else
    f_LT_atomicOf_131 nf (x1 + (lAhA x3.toNatClampNeg))
  else
  f_LT_atomicOf_131 nf (-9223372036854775808)
def f_LT_atomicOf_109 (nf : Nat) (lAhA : Nat → Int64) (x3 : Int32) (x1 : Int64) : Option (Int64) :=
  f_LT_atomicOf_110 nf lAhA x3 x1 0
def f_LT_atomicOf_62 (nf : Nat) (lCount : Int32) (lTiA : Nat → Int64) (lAhA : Nat → Int64) (x3 : Int32) (x1 : Int64) : Option (Int64) :=
  if lCount ≤ (x3 + 1) then
  f_LT_atomicOf_109 nf lAhA x3 x1
  else
  if (x3 + 1) < 0 ∨ 60 ≤ (x3 + 1).toNatClampNeg then none else
    if x3 < 0 ∨ 60 ≤ x3.toNatClampNeg then none else
    if (lAhA x3.toNatClampNeg) ≤ (lAhA (x3 + 1).toNatClampNeg) then
    f_LT_atomicOf_109 nf lAhA x3 x1
    else
    if (x3 + 1) < 0 ∨ 60 ≤ (x3 + 1).toNatClampNeg then none else
      if x1 = ((lTiA (x3 + 1).toNatClampNeg) - 1) then
      f_LT_atomicOf_110 nf lAhA x3 x1 1
      else
      f_LT_atomicOf_109 nf lAhA x3 x1
def f_LT_atomicOf_33 (nf : Nat) (lCount : Int32) (lTiA : Nat → Int64) (lAhA : Nat → Int64) : Nat → Int32 → Int64 → Option (Int64)
  | 0, _, _ => none
  | n + 1, x3, x1 =>
    if lCount ≤ (x3 + 1) then
    f_LT_atomicOf_62 nf lCount lTiA lAhA x3 x1
    else
    if (x3 + 1) < 0 ∨ 60 ≤ (x3 + 1).toNatClampNeg then none else
      if x1 < (lTiA (x3 + 1).toNatClampNeg) then
      f_LT_atomicOf_62 nf lCount lTiA lAhA x3 x1
      else
      f_LT_atomicOf_33 nf lCount lTiA lAhA n (x3 + 1) x1
def f_LT_atomicOf_0 (nf : Nat) (lCount : Int32) (lExp : Int64) (lTiA : Nat → Int64) (lAhA : Nat → Int64) (x1 : Int64) : Option (Int64) :=
  if lCount = 0 then
  f_LT_atomicOf_27 nf
  else
  if (0 : Int32) < 0 ∨ 60 ≤ (0 : Int32).toNatClampNeg then none else
    if x1 < (lTiA (0 : Int32).toNatClampNeg) then
    f_LT_atomicOf_27 nf
    else
    if x1 < lExp then
      f_LT_atomicOf_33 nf lCount lTiA lAhA nf 0 x1
      else
      f_LT_atomicOf_27 nf
def f_LT_atomicOf (nf : Nat) (p0 : Int64) (lCount : Int32) (lExp : Int64) (lTiA : Nat → Int64) (lAhA : Nat → Int64) : Option (Int64) :=
  f_LT_atomicOf_0 nf lCount lExp lTiA lAhA p0
section
variable {p : Program} {l : Launch} {e : Env} {R : Room} {s : State} {m : MethodId} {args : Array Value} {below : List Frame} {meth : Method} {c : Code} {Q : State → Prop} {dC : Nat → ClassId} {dI : Nat → Nat → Nat} {nf : Nat}
variable {h0 : Nat} {lTi : Nat} {lAh : Nat} {cAlTi : ClassId} {cAlAh : ClassId} {lCount : Int32} {lExp : Int64} {lTiA : Nat → Int64} {lAhA : Nat → Int64} {r0 : Int64}
set_option maxHeartbeats 400000 in
set_option maxRecDepth 100000 in
theorem k_LT_atomicOf_27 (C0 : Cx p s m meth c args R b_LT_atomicOf "ZoneFiles$LeapTable" 5 (some .long) 0 0) (hST : ST (fun _ => False) s s.heap) (hK : va_K (dC, dI) classes [(cAlTi, .long), (cAlAh, .long)] s) (hP : va_P (dC, dI) classes [(h0, .inr (4, [.int lCount, .ref lTi, .ref lAh, .long lExp])), (lTi, .inl (cAlTi, 60, .inr (.inl lTiA))), (lAh, .inl (cAlAh, 60, .inr (.inl lAhA)))] s.heap) (hE : ∀ (pc : Nat) (ls : Array Slot), decode b_LT_atomicOf pc = .ok (.lreturn, 1) → W p l e R s m args below meth c s.heap [] 0 0 Q (F0 m pc ls [.long r0])) (hf : f_LT_atomicOf_27 nf = some r0) {ls : Array Slot} (hl : lv_has ls 5 []) : W p l e R s m args below meth c s.heap [] 0 0 Q (F0 m 27 ls []) := by
  obtain ⟨hx, hb, hr, hml, hown, hts, hlocks, hRf, hRl⟩ := id C0
  obtain ⟨tms, hZms, hTms, tmg, hZmg, hTmg, hNW⟩ := id hST
  unfold f_LT_atomicOf_27 at hf
  refine lv_ldc2 (v := (-9223372036854775808)) hx hb hown (hts (.constantLong "ZoneFiles$LeapTable" 26 (-9223372036854775808)) m_3_21) d_LT_atomicOf_27 ?_
  have e := rs hf
  subst e
  exact hE _ _ d_LT_atomicOf_30
set_option maxHeartbeats 400000 in
set_option maxRecDepth 100000 in
theorem k_LT_atomicOf_131 (C0 : Cx p s m meth c args R b_LT_atomicOf "ZoneFiles$LeapTable" 5 (some .long) 0 0) (hST : ST (fun _ => False) s s.heap) (hK : va_K (dC, dI) classes [(cAlTi, .long), (cAlAh, .long)] s) (hP : va_P (dC, dI) classes [(h0, .inr (4, [.int lCount, .ref lTi, .ref lAh, .long lExp])), (lTi, .inl (cAlTi, 60, .inr (.inl lTiA))), (lAh, .inl (cAlAh, 60, .inr (.inl lAhA)))] s.heap) (hE : ∀ (pc : Nat) (ls : Array Slot), decode b_LT_atomicOf pc = .ok (.lreturn, 1) → W p l e R s m args below meth c s.heap [] 0 0 Q (F0 m pc ls [.long r0])) {s0 : Int64} (hf : f_LT_atomicOf_131 nf s0 = some r0) {ls : Array Slot} (hl : lv_has ls 5 []) : W p l e R s m args below meth c s.heap [] 0 0 Q (F0 m 131 ls [.long s0]) := by
  obtain ⟨hx, hb, hr, hml, hown, hts, hlocks, hRf, hRl⟩ := id C0
  obtain ⟨tms, hZms, hTms, tmg, hZmg, hTmg, hNW⟩ := id hST
  unfold f_LT_atomicOf_131 at hf
  have e := rs hf
  subst e
  exact hE _ _ d_LT_atomicOf_131
set_option maxHeartbeats 400000 in
set_option maxRecDepth 100000 in
theorem k_LT_atomicOf_110 (C0 : Cx p s m meth c args R b_LT_atomicOf "ZoneFiles$LeapTable" 5 (some .long) 0 0) (hST : ST (fun _ => False) s s.heap) (hK : va_K (dC, dI) classes [(cAlTi, .long), (cAlAh, .long)] s) (hP : va_P (dC, dI) classes [(h0, .inr (4, [.int lCount, .ref lTi, .ref lAh, .long lExp])), (lTi, .inl (cAlTi, 60, .inr (.inl lTiA))), (lAh, .inl (cAlAh, 60, .inr (.inl lAhA)))] s.heap) (hE : ∀ (pc : Nat) (ls : Array Slot), decode b_LT_atomicOf pc = .ok (.lreturn, 1) → W p l e R s m args below meth c s.heap [] 0 0 Q (F0 m pc ls [.long r0])) {x3 : Int32} {x1 : Int64} {s0 : Int32} (hf : f_LT_atomicOf_110 nf lAhA x3 x1 s0 = some r0) {ls : Array Slot} (hl : lv_has ls 5 [(3, .int x3), (0, .ref h0), (1, .long x1)]) : W p l e R s m args below meth c s.heap [] 0 0 Q (F0 m 110 ls [.int s0]) := by
  obtain ⟨hx, hb, hr, hml, hown, hts, hlocks, hRf, hRl⟩ := id C0
  obtain ⟨tms, hZms, hTms, tmg, hZmg, hTmg, hNW⟩ := id hST
  unfold f_LT_atomicOf_110 at hf
  refine lv_istore (lv' := [(4, .int s0), (3, .int x3), (0, .ref h0), (1, .long x1)]) hx hb d_LT_atomicOf_110 hl (by decide) rfl (fun ls hl => ?_)
  refine lv_iload hx hb d_LT_atomicOf_112 (lv_at hl 0 rfl) ?_
  refine lv_if_eq (tgt := 123) hx hb d_LT_atomicOf_114 (by decide) (fun c_7 => ?_) (fun c_7 => ?_)
  · have hf := it_t c_7 hf
    refine lv_lload_n hx hb d_LT_atomicOf_123 rfl (lv_at hl 3 rfl) ?_
    refine lv_aload_n hx hb d_LT_atomicOf_124 rfl (lv_at hl 2 rfl) ?_
    refine va_get (D := (dC, dI)) (ci := 4) (v := .ref lAh) (C := RLeapTable) (T := TLeapTable) (N := 4) hx hb hts in_LeapTable hown hK hP 0 rfl rfl 2 (by decide) (hts (.fieldLink "ZoneFiles$LeapTable" 15 "ZoneFiles$LeapTable" "aheads" "[J") m_2_102) (fun _ h9 => h9) rfl d_LT_atomicOf_125 ?_
    refine lv_iload_n hx hb d_LT_atomicOf_128 rfl (lv_at hl 1 rfl) ?_
    obtain ⟨c_8, hf⟩ := it_n hf
    refine va_lald hx hb hK hP 2 1 rfl rfl c_8 d_LT_atomicOf_129 ?_
    refine lv_ladd hx hb d_LT_atomicOf_130 ?_
    exact k_LT_atomicOf_131 C0 hST hK hP hE hf (lv_sub hl [] rfl)
  · have hf := it_f c_7 hf
    refine lv_ldc2 (v := (-9223372036854775808)) hx hb hown (hts (.constantLong "ZoneFiles$LeapTable" 26 (-9223372036854775808)) m_3_21) d_LT_atomicOf_117 ?_
    refine lv_goto (tgt := 131) hx hb d_LT_atomicOf_120 (by decide) ?_
    exact k_LT_atomicOf_131 C0 hST hK hP hE hf (lv_sub hl [] rfl)
set_option maxHeartbeats 400000 in
set_option maxRecDepth 100000 in
theorem k_LT_atomicOf_109 (C0 : Cx p s m meth c args R b_LT_atomicOf "ZoneFiles$LeapTable" 5 (some .long) 0 0) (hST : ST (fun _ => False) s s.heap) (hK : va_K (dC, dI) classes [(cAlTi, .long), (cAlAh, .long)] s) (hP : va_P (dC, dI) classes [(h0, .inr (4, [.int lCount, .ref lTi, .ref lAh, .long lExp])), (lTi, .inl (cAlTi, 60, .inr (.inl lTiA))), (lAh, .inl (cAlAh, 60, .inr (.inl lAhA)))] s.heap) (hE : ∀ (pc : Nat) (ls : Array Slot), decode b_LT_atomicOf pc = .ok (.lreturn, 1) → W p l e R s m args below meth c s.heap [] 0 0 Q (F0 m pc ls [.long r0])) {x3 : Int32} {x1 : Int64} (hf : f_LT_atomicOf_109 nf lAhA x3 x1 = some r0) {ls : Array Slot} (hl : lv_has ls 5 [(3, .int x3), (0, .ref h0), (1, .long x1)]) : W p l e R s m args below meth c s.heap [] 0 0 Q (F0 m 109 ls []) := by
  obtain ⟨hx, hb, hr, hml, hown, hts, hlocks, hRf, hRl⟩ := id C0
  obtain ⟨tms, hZms, hTms, tmg, hZmg, hTmg, hNW⟩ := id hST
  unfold f_LT_atomicOf_109 at hf
  refine lv_iconst (v := 0) hx hb d_LT_atomicOf_109 (by decide) ?_
  exact k_LT_atomicOf_110 C0 hST hK hP hE hf (lv_sub hl [0, 1, 2] rfl)
set_option maxHeartbeats 400000 in
set_option maxRecDepth 100000 in
theorem k_LT_atomicOf_62 (C0 : Cx p s m meth c args R b_LT_atomicOf "ZoneFiles$LeapTable" 5 (some .long) 0 0) (hST : ST (fun _ => False) s s.heap) (hK : va_K (dC, dI) classes [(cAlTi, .long), (cAlAh, .long)] s) (hP : va_P (dC, dI) classes [(h0, .inr (4, [.int lCount, .ref lTi, .ref lAh, .long lExp])), (lTi, .inl (cAlTi, 60, .inr (.inl lTiA))), (lAh, .inl (cAlAh, 60, .inr (.inl lAhA)))] s.heap) (hE : ∀ (pc : Nat) (ls : Array Slot), decode b_LT_atomicOf pc = .ok (.lreturn, 1) → W p l e R s m args below meth c s.heap [] 0 0 Q (F0 m pc ls [.long r0])) {x3 : Int32} {x1 : Int64} (hf : f_LT_atomicOf_62 nf lCount lTiA lAhA x3 x1 = some r0) {ls : Array Slot} (hl : lv_has ls 5 [(3, .int x3), (0, .ref h0), (1, .long x1)]) : W p l e R s m args below meth c s.heap [] 0 0 Q (F0 m 62 ls []) := by
  obtain ⟨hx, hb, hr, hml, hown, hts, hlocks, hRf, hRl⟩ := id C0
  obtain ⟨tms, hZms, hTms, tmg, hZmg, hTmg, hNW⟩ := id hST
  unfold f_LT_atomicOf_62 at hf
  refine lv_iload_n hx hb d_LT_atomicOf_62 rfl (lv_at hl 0 rfl) ?_
  refine lv_iconst (v := 1) hx hb d_LT_atomicOf_63 (by decide) ?_
  refine lv_iadd hx hb d_LT_atomicOf_64 ?_
  refine lv_aload_n hx hb d_LT_atomicOf_65 rfl (lv_at hl 1 rfl) ?_
  refine va_get (D := (dC, dI)) (ci := 4) (v := .int lCount) (C := RLeapTable) (T := TLeapTable) (N := 4) hx hb hts in_LeapTable hown hK hP 0 rfl rfl 0 (by decide) (hts (.fieldLink "ZoneFiles$LeapTable" 18 "ZoneFiles$LeapTable" "count" "I") m_2_96) (fun _ h9 => h9) rfl d_LT_atomicOf_66 ?_
  refine lv_icmp_ge (tgt := 109) hx hb d_LT_atomicOf_69 (by decide) (fun c_6 => ?_) (fun c_6 => ?_)
  · have hf := it_t c_6 hf
    exact k_LT_atomicOf_109 C0 hST hK hP hE hf (lv_sub hl [0, 1, 2] rfl)
  · have hf := it_f c_6 hf
    refine lv_aload_n hx hb d_LT_atomicOf_72 rfl (lv_at hl 1 rfl) ?_
    refine va_get (D := (dC, dI)) (ci := 4) (v := .ref lAh) (C := RLeapTable) (T := TLeapTable) (N := 4) hx hb hts in_LeapTable hown hK hP 0 rfl rfl 2 (by decide) (hts (.fieldLink "ZoneFiles$LeapTable" 15 "ZoneFiles$LeapTable" "aheads" "[J") m_2_102) (fun _ h9 => h9) rfl d_LT_atomicOf_73 ?_
    refine lv_iload_n hx hb d_LT_atomicOf_76 rfl (lv_at hl 0 rfl) ?_
    refine lv_iconst (v := 1) hx hb d_LT_atomicOf_77 (by decide) ?_
    refine lv_iadd hx hb d_LT_atomicOf_78 ?_
    obtain ⟨c_9, hf⟩ := it_n hf
    refine va_lald hx hb hK hP 2 1 rfl rfl c_9 d_LT_atomicOf_79 ?_
    refine lv_aload_n hx hb d_LT_atomicOf_80 rfl (lv_at hl 1 rfl) ?_
    refine va_get (D := (dC, dI)) (ci := 4) (v := .ref lAh) (C := RLeapTable) (T := TLeapTable) (N := 4) hx hb hts in_LeapTable hown hK hP 0 rfl rfl 2 (by decide) (hts (.fieldLink "ZoneFiles$LeapTable" 15 "ZoneFiles$LeapTable" "aheads" "[J") m_2_102) (fun _ h9 => h9) rfl d_LT_atomicOf_81 ?_
    refine lv_iload_n hx hb d_LT_atomicOf_84 rfl (lv_at hl 0 rfl) ?_
    obtain ⟨c_10, hf⟩ := it_n hf
    refine va_lald hx hb hK hP 2 1 rfl rfl c_10 d_LT_atomicOf_85 ?_
    refine lc_ge (tgt := 109) hx hb d_LT_atomicOf_86 d_LT_atomicOf_87 (by decide) (fun c_11 => ?_) (fun c_11 => ?_)
    · have hf := it_t c_11 hf
      exact k_LT_atomicOf_109 C0 hST hK hP hE hf (lv_sub hl [0, 1, 2] rfl)
    · have hf := it_f c_11 hf
      refine lv_lload_n hx hb d_LT_atomicOf_90 rfl (lv_at hl 2 rfl) ?_
      refine lv_aload_n hx hb d_LT_atomicOf_91 rfl (lv_at hl 1 rfl) ?_
      refine va_get (D := (dC, dI)) (ci := 4) (v := .ref lTi) (C := RLeapTable) (T := TLeapTable) (N := 4) hx hb hts in_LeapTable hown hK hP 0 rfl rfl 1 (by decide) (hts (.fieldLink "ZoneFiles$LeapTable" 9 "ZoneFiles$LeapTable" "times" "[J") m_2_99) (fun _ h9 => h9) rfl d_LT_atomicOf_92 ?_
      refine lv_iload_n hx hb d_LT_atomicOf_95 rfl (lv_at hl 0 rfl) ?_
      refine lv_iconst (v := 1) hx hb d_LT_atomicOf_96 (by decide) ?_
      refine lv_iadd hx hb d_LT_atomicOf_97 ?_
      obtain ⟨c_12, hf⟩ := it_n hf
      refine va_lald hx hb hK hP 1 0 rfl rfl c_12 d_LT_atomicOf_98 ?_
      refine lv_lconst (v := 1) hx hb d_LT_atomicOf_99 (by decide) ?_
      refine lv_lsub hx hb d_LT_atomicOf_100 ?_
      refine lc_ne (tgt := 109) hx hb d_LT_atomicOf_101 d_LT_atomicOf_102 (by decide) (fun c_13 => ?_) (fun c_13 => ?_)
      · have hf := it_f c_13 hf
        exact k_LT_atomicOf_109 C0 hST hK hP hE hf (lv_sub hl [0, 1, 2] rfl)
      · have hf := it_t c_13 hf
        refine lv_iconst (v := 1) hx hb d_LT_atomicOf_105 (by decide) ?_
        refine lv_goto (tgt := 110) hx hb d_LT_atomicOf_106 (by decide) ?_
        exact k_LT_atomicOf_110 C0 hST hK hP hE hf (lv_sub hl [0, 1, 2] rfl)
set_option maxHeartbeats 400000 in
set_option maxRecDepth 100000 in
theorem k_LT_atomicOf_33 (C0 : Cx p s m meth c args R b_LT_atomicOf "ZoneFiles$LeapTable" 5 (some .long) 0 0) (hST : ST (fun _ => False) s s.heap) (hK : va_K (dC, dI) classes [(cAlTi, .long), (cAlAh, .long)] s) (hP : va_P (dC, dI) classes [(h0, .inr (4, [.int lCount, .ref lTi, .ref lAh, .long lExp])), (lTi, .inl (cAlTi, 60, .inr (.inl lTiA))), (lAh, .inl (cAlAh, 60, .inr (.inl lAhA)))] s.heap) (hE : ∀ (pc : Nat) (ls : Array Slot), decode b_LT_atomicOf pc = .ok (.lreturn, 1) → W p l e R s m args below meth c s.heap [] 0 0 Q (F0 m pc ls [.long r0])) : ∀ (n : Nat) {x3 : Int32} {x1 : Int64}, f_LT_atomicOf_33 nf lCount lTiA lAhA n x3 x1 = some r0 → ∀ {ls : Array Slot}, lv_has ls 5 [(3, .int x3), (0, .ref h0), (1, .long x1)] → W p l e R s m args below meth c s.heap [] 0 0 Q (F0 m 33 ls []) := by
  obtain ⟨hx, hb, hr, hml, hown, hts, hlocks, hRf, hRl⟩ := id C0
  obtain ⟨tms, hZms, hTms, tmg, hZmg, hTmg, hNW⟩ := id hST
  intro n
  induction n with
  | zero =>
    intro x3 x1 hf
    exact absurd hf (by simp [f_LT_atomicOf_33])
  | succ n ih =>
    intro x3 x1 hf ls hl
    unfold f_LT_atomicOf_33 at hf
    refine lv_iload_n hx hb d_LT_atomicOf_33 rfl (lv_at hl 0 rfl) ?_
    refine lv_iconst (v := 1) hx hb d_LT_atomicOf_34 (by decide) ?_
    refine lv_iadd hx hb d_LT_atomicOf_35 ?_
    refine lv_aload_n hx hb d_LT_atomicOf_36 rfl (lv_at hl 1 rfl) ?_
    refine va_get (D := (dC, dI)) (ci := 4) (v := .int lCount) (C := RLeapTable) (T := TLeapTable) (N := 4) hx hb hts in_LeapTable hown hK hP 0 rfl rfl 0 (by decide) (hts (.fieldLink "ZoneFiles$LeapTable" 18 "ZoneFiles$LeapTable" "count" "I") m_2_96) (fun _ h9 => h9) rfl d_LT_atomicOf_37 ?_
    refine lv_icmp_ge (tgt := 62) hx hb d_LT_atomicOf_40 (by decide) (fun c_5 => ?_) (fun c_5 => ?_)
    · have hf := it_t c_5 hf
      exact k_LT_atomicOf_62 C0 hST hK hP hE hf (lv_sub hl [0, 1, 2] rfl)
    · have hf := it_f c_5 hf
      refine lv_aload_n hx hb d_LT_atomicOf_43 rfl (lv_at hl 1 rfl) ?_
      refine va_get (D := (dC, dI)) (ci := 4) (v := .ref lTi) (C := RLeapTable) (T := TLeapTable) (N := 4) hx hb hts in_LeapTable hown hK hP 0 rfl rfl 1 (by decide) (hts (.fieldLink "ZoneFiles$LeapTable" 9 "ZoneFiles$LeapTable" "times" "[J") m_2_99) (fun _ h9 => h9) rfl d_LT_atomicOf_44 ?_
      refine lv_iload_n hx hb d_LT_atomicOf_47 rfl (lv_at hl 0 rfl) ?_
      refine lv_iconst (v := 1) hx hb d_LT_atomicOf_48 (by decide) ?_
      refine lv_iadd hx hb d_LT_atomicOf_49 ?_
      obtain ⟨c_14, hf⟩ := it_n hf
      refine va_lald hx hb hK hP 1 0 rfl rfl c_14 d_LT_atomicOf_50 ?_
      refine lv_lload_n hx hb d_LT_atomicOf_51 rfl (lv_at hl 2 rfl) ?_
      refine lc_gt (tgt := 62) hx hb d_LT_atomicOf_52 d_LT_atomicOf_53 (by decide) (fun c_15 => ?_) (fun c_15 => ?_)
      · have hf := it_t c_15 hf
        exact k_LT_atomicOf_62 C0 hST hK hP hE hf (lv_sub hl [0, 1, 2] rfl)
      · have hf := it_f c_15 hf
        refine lv_iinc (v := x3 + 1) (lv' := [(3, .int (x3 + 1)), (0, .ref h0), (1, .long x1)]) hx hb d_LT_atomicOf_56 hl (k := 0) rfl rfl (by decide) rfl (fun ls hl => ?_)
        refine lv_goto (tgt := 33) hx hb d_LT_atomicOf_59 (by decide) ?_
        exact ih hf (lv_sub hl [0, 1, 2] rfl)
set_option maxHeartbeats 400000 in
set_option maxRecDepth 100000 in
theorem k_LT_atomicOf_0 (C0 : Cx p s m meth c args R b_LT_atomicOf "ZoneFiles$LeapTable" 5 (some .long) 0 0) (hST : ST (fun _ => False) s s.heap) (hK : va_K (dC, dI) classes [(cAlTi, .long), (cAlAh, .long)] s) (hP : va_P (dC, dI) classes [(h0, .inr (4, [.int lCount, .ref lTi, .ref lAh, .long lExp])), (lTi, .inl (cAlTi, 60, .inr (.inl lTiA))), (lAh, .inl (cAlAh, 60, .inr (.inl lAhA)))] s.heap) (hE : ∀ (pc : Nat) (ls : Array Slot), decode b_LT_atomicOf pc = .ok (.lreturn, 1) → W p l e R s m args below meth c s.heap [] 0 0 Q (F0 m pc ls [.long r0])) {x1 : Int64} (hf : f_LT_atomicOf_0 nf lCount lExp lTiA lAhA x1 = some r0) {ls : Array Slot} (hl : lv_has ls 5 [(0, .ref h0), (1, .long x1)]) : W p l e R s m args below meth c s.heap [] 0 0 Q (F0 m 0 ls []) := by
  obtain ⟨hx, hb, hr, hml, hown, hts, hlocks, hRf, hRl⟩ := id C0
  obtain ⟨tms, hZms, hTms, tmg, hZmg, hTmg, hNW⟩ := id hST
  unfold f_LT_atomicOf_0 at hf
  refine lv_aload_n hx hb d_LT_atomicOf_0 rfl (lv_at hl 0 rfl) ?_
  refine va_get (D := (dC, dI)) (ci := 4) (v := .int lCount) (C := RLeapTable) (T := TLeapTable) (N := 4) hx hb hts in_LeapTable hown hK hP 0 rfl rfl 0 (by decide) (hts (.fieldLink "ZoneFiles$LeapTable" 18 "ZoneFiles$LeapTable" "count" "I") m_2_96) (fun _ h9 => h9) rfl d_LT_atomicOf_1 ?_
  refine lv_if_eq (tgt := 27) hx hb d_LT_atomicOf_4 (by decide) (fun c_1 => ?_) (fun c_1 => ?_)
  · have hf := it_t c_1 hf
    exact k_LT_atomicOf_27 C0 hST hK hP hE hf (lv_sub hl [] rfl)
  · have hf := it_f c_1 hf
    refine lv_lload_n hx hb d_LT_atomicOf_7 rfl (lv_at hl 1 rfl) ?_
    refine lv_aload_n hx hb d_LT_atomicOf_8 rfl (lv_at hl 0 rfl) ?_
    refine va_get (D := (dC, dI)) (ci := 4) (v := .ref lTi) (C := RLeapTable) (T := TLeapTable) (N := 4) hx hb hts in_LeapTable hown hK hP 0 rfl rfl 1 (by decide) (hts (.fieldLink "ZoneFiles$LeapTable" 9 "ZoneFiles$LeapTable" "times" "[J") m_2_99) (fun _ h9 => h9) rfl d_LT_atomicOf_9 ?_
    refine lv_iconst (v := 0) hx hb d_LT_atomicOf_12 (by decide) ?_
    obtain ⟨c_2, hf⟩ := it_n hf
    refine va_lald hx hb hK hP 1 0 rfl rfl c_2 d_LT_atomicOf_13 ?_
    refine lc_lt (tgt := 27) hx hb d_LT_atomicOf_14 d_LT_atomicOf_15 (by decide) (fun c_3 => ?_) (fun c_3 => ?_)
    · have hf := it_t c_3 hf
      exact k_LT_atomicOf_27 C0 hST hK hP hE hf (lv_sub hl [] rfl)
    · have hf := it_f c_3 hf
      refine lv_lload_n hx hb d_LT_atomicOf_18 rfl (lv_at hl 1 rfl) ?_
      refine lv_aload_n hx hb d_LT_atomicOf_19 rfl (lv_at hl 0 rfl) ?_
      refine va_get (D := (dC, dI)) (ci := 4) (v := .long lExp) (C := RLeapTable) (T := TLeapTable) (N := 4) hx hb hts in_LeapTable hown hK hP 0 rfl rfl 3 (by decide) (hts (.fieldLink "ZoneFiles$LeapTable" 22 "ZoneFiles$LeapTable" "expires" "J") m_2_105) (fun _ h9 => h9) rfl d_LT_atomicOf_20 ?_
      refine lc_lt (tgt := 31) hx hb d_LT_atomicOf_23 d_LT_atomicOf_24 (by decide) (fun c_4 => ?_) (fun c_4 => ?_)
      · have hf := it_t c_4 hf
        refine lv_iconst (v := 0) hx hb d_LT_atomicOf_31 (by decide) ?_
        refine lv_istore_n (lv' := [(3, .int 0), (0, .ref h0), (1, .long x1)]) hx hb d_LT_atomicOf_32 rfl hl (by decide) rfl (fun ls hl => ?_)
        exact k_LT_atomicOf_33 C0 hST hK hP hE nf hf (lv_sub hl [0, 1, 2] rfl)
      · have hf := it_f c_4 hf
        exact k_LT_atomicOf_27 C0 hST hK hP hE hf (lv_sub hl [] rfl)
end
set_option maxHeartbeats 400000 in
set_option maxRecDepth 100000 in
theorem c_LT_atomicOf (l : Launch) (dC : Nat → ClassId) (dI : Nat → Nat → Nat) (h0 : Nat) (lTi : Nat) (lAh : Nat) (cAlTi : ClassId) (cAlAh : ClassId) (nf : Nat) (p0 : Int64) (lCount : Int32) (lExp : Int64) (lTiA : Nat → Int64) (lAhA : Nat → Int64) {r0 : Int64} (hf : f_LT_atomicOf nf p0 lCount lExp lTiA lAhA = some r0) : Met l y_LT_atomicOf (wd y_LT_atomicOf b_LT_atomicOf 5 (some .long)) ({ frames := 0, cells := 0, slots := 0, locals := 0 }) (RO dC dI [(h0, .inr (4, [.int lCount, .ref lTi, .ref lAh, .long lExp])), (lTi, .inl (cAlTi, 60, .inr (.inl lTiA))), (lAh, .inl (cAlAh, 60, .inr (.inl lAhA)))] [(cAlTi, .long), (cAlAh, .long)] [.ref h0, .long p0]) (SV (some (.long r0))) 0 0 (fun _ => False) :=
  met_S (plainFor_of_name (by decide)) (Nat.le_of_ble_eq_true rfl) (fun p e R s m args below meth c ls C0 hST hK hP hl => by
    obtain ⟨hx, hb, hr, hml, hown, hts, hlocks, hRf, hRl⟩ := id C0
    unfold f_LT_atomicOf at hf
    exact k_LT_atomicOf_0 C0 hST hK hP (fun pc ls hd => W.lret hx hb hr (fun t ht hW => ⟨rfl, ht⟩) (fun q h => by cases h) hd) hf (lv_sub hl [0, 1] rfl))
-- ZoneFiles$LeapTable.instantOf(J)J
def f_LT_instantOf_62 (nf : Nat) (s0 : Int64) : Option (Int64) :=
  some s0
def f_LT_instantOf_0 (nf : Nat) (lCount : Int32) (lExp : Int64) (lTiA : Nat → Int64) (lAhA : Nat → Int64) (x1 : Int64) : Option (Int64) :=
  (f_LT_lastRowUpTo nf x1 lCount lTiA lAhA).bind fun r_1 =>
  if 0 ≤ r_1 then
  (f_LT_isBeforeNextRow nf x1 r_1 lCount lTiA lAhA).bind fun r_3 =>
    if r_3 = 0 then
    if r_1 < 0 ∨ 60 ≤ r_1.toNatClampNeg then none else
      if lExp ≤ (x1 - (lAhA r_1.toNatClampNeg)) then
      f_LT_instantOf_62 nf (-9223372036854775808)
      else
      f_LT_instantOf_62 nf (x1 - (lAhA r_1.toNatClampNeg))
    else
    if (r_1 + 1) < 0 ∨ 60 ≤ (r_1 + 1).toNatClampNeg then none else
      some ((lTiA (r_1 + 1).toNatClampNeg) - 1)
  else
  some (-9223372036854775808)
def f_LT_instantOf (nf : Nat) (p0 : Int64) (lCount : Int32) (lExp : Int64) (lTiA : Nat → Int64) (lAhA : Nat → Int64) : Option (Int64) :=
  f_LT_instantOf_0 nf lCount lExp lTiA lAhA p0
section
variable {p : Program} {l : Launch} {e : Env} {R : Room} {s : State} {m : MethodId} {args : Array Value} {below : List Frame} {meth : Method} {c : Code} {Q : State → Prop} {dC : Nat → ClassId} {dI : Nat → Nat → Nat} {nf : Nat}
variable {h0 : Nat} {lTi : Nat} {lAh : Nat} {cAlTi : ClassId} {cAlAh : ClassId} {lCount : Int32} {lExp : Int64} {lTiA : Nat → Int64} {lAhA : Nat → Int64} {r0 : Int64}
set_option maxHeartbeats 400000 in
set_option maxRecDepth 100000 in
theorem k_LT_instantOf_62 (C0 : Cx p s m meth c args R b_LT_instantOf "ZoneFiles$LeapTable" 6 (some .long) 1 23) (hST : ST (fun _ => False) s s.heap) (hK : va_K (dC, dI) classes [(cAlTi, .long), (cAlAh, .long)] s) (hP : va_P (dC, dI) classes [(h0, .inr (4, [.int lCount, .ref lTi, .ref lAh, .long lExp])), (lTi, .inl (cAlTi, 60, .inr (.inl lTiA))), (lAh, .inl (cAlAh, 60, .inr (.inl lAhA)))] s.heap) (hE : ∀ (pc : Nat) (ls : Array Slot), decode b_LT_instantOf pc = .ok (.lreturn, 1) → W p l e R s m args below meth c s.heap [] 0 0 Q (F0 m pc ls [.long r0])) {s0 : Int64} (hf : f_LT_instantOf_62 nf s0 = some r0) {ls : Array Slot} (hl : lv_has ls 6 []) : W p l e R s m args below meth c s.heap [] 0 0 Q (F0 m 62 ls [.long s0]) := by
  obtain ⟨hx, hb, hr, hml, hown, hts, hlocks, hRf, hRl⟩ := id C0
  obtain ⟨tms, hZms, hTms, tmg, hZmg, hTmg, hNW⟩ := id hST
  unfold f_LT_instantOf_62 at hf
  have e := rs hf
  subst e
  exact hE _ _ d_LT_instantOf_62
set_option maxHeartbeats 400000 in
set_option maxRecDepth 100000 in
theorem k_LT_instantOf_0 (C0 : Cx p s m meth c args R b_LT_instantOf "ZoneFiles$LeapTable" 6 (some .long) 1 23) (hST : ST (fun _ => False) s s.heap) (hK : va_K (dC, dI) classes [(cAlTi, .long), (cAlAh, .long)] s) (hP : va_P (dC, dI) classes [(h0, .inr (4, [.int lCount, .ref lTi, .ref lAh, .long lExp])), (lTi, .inl (cAlTi, 60, .inr (.inl lTiA))), (lAh, .inl (cAlAh, 60, .inr (.inl lAhA)))] s.heap) (hE : ∀ (pc : Nat) (ls : Array Slot), decode b_LT_instantOf pc = .ok (.lreturn, 1) → W p l e R s m args below meth c s.heap [] 0 0 Q (F0 m pc ls [.long r0])) {x1 : Int64} (hf : f_LT_instantOf_0 nf lCount lExp lTiA lAhA x1 = some r0) {ls : Array Slot} (hl : lv_has ls 6 [(0, .ref h0), (1, .long x1)]) : W p l e R s m args below meth c s.heap [] 0 0 Q (F0 m 0 ls []) := by
  obtain ⟨hx, hb, hr, hml, hown, hts, hlocks, hRf, hRl⟩ := id C0
  obtain ⟨tms, hZms, hTms, tmg, hZmg, hTmg, hNW⟩ := id hST
  unfold f_LT_instantOf_0 at hf
  refine lv_aload_n hx hb d_LT_instantOf_0 rfl (lv_at hl 0 rfl) ?_
  refine lv_lload_n hx hb d_LT_instantOf_1 rfl (lv_at hl 1 rfl) ?_
  obtain ⟨r_1, hc, hf⟩ := ob hf
  refine cl_S (v := (some (.int r_1))) (st1 := [.int r_1]) (va_runV (As := [.long x1]) (rest := []) ⟨hx, hb, hml, hown, hts⟩ (c_LT_lastRowUpTo l dC dI h0 lTi lAh cAlTi cAlAh nf x1 lCount lExp lTiA lAhA hc) (cwV 1 hts (gdV m_3_30 m_3_32 msel_12 m_1_9 m_3_33) rfl rfl rfl (by decide +kernel) ⟨Nat.le_trans (Nat.le_of_ble_eq_true rfl) hRf, Nat.le_trans (Nat.le_of_ble_eq_true rfl) hRl⟩) ((RO.pre (hP.sub (ws' := [(h0, .inr (4, [.int lCount, .ref lTi, .ref lAh, .long lExp])), (lTi, .inl (cAlTi, 60, .inr (.inl lTiA))), (lAh, .inl (cAlAh, 60, .inr (.inl lAhA)))]) [0, 1, 2] rfl) (hK.sub (tys' := [(cAlTi, .long), (cAlAh, .long)]) [0, 1] rfl) hST).vir (va_recv (hK.sub (tys' := [(cAlTi, .long), (cAlAh, .long)]) [0, 1] rfl) (hP.sub (ws' := [(h0, .inr (4, [.int lCount, .ref lTi, .ref lAh, .long lExp])), (lTi, .inl (cAlTi, 60, .inr (.inl lTiA))), (lAh, .inl (cAlAh, 60, .inr (.inl lAhA)))]) [0, 1, 2] rfl) (ci := 4) (q0 := 0) rfl rfl)) rfl rfl hl.1 rfl (lv_room (Nat.le_of_ble_eq_true rfl)) d_LT_instantOf_2 ⟨Nat.zero_le _, Nat.zero_le _⟩) rfl ?_
  refine lv_istore_n (lv' := [(3, .int r_1), (0, .ref h0), (1, .long x1)]) hx hb d_LT_instantOf_5 rfl hl (by decide) rfl (fun ls hl => ?_)
  refine lv_iload_n hx hb d_LT_instantOf_6 rfl (lv_at hl 0 rfl) ?_
  refine lv_if_ge (tgt := 14) hx hb d_LT_instantOf_7 (by decide) (fun c_2 => ?_) (fun c_2 => ?_)
  · have hf := it_t c_2 hf
    refine lv_aload_n hx hb d_LT_instantOf_14 rfl (lv_at hl 1 rfl) ?_
    refine lv_lload_n hx hb d_LT_instantOf_15 rfl (lv_at hl 2 rfl) ?_
    refine lv_iload_n hx hb d_LT_instantOf_16 rfl (lv_at hl 0 rfl) ?_
    obtain ⟨r_3, hc, hf⟩ := ob hf
    refine cl_S (v := (some (.int r_3))) (st1 := [.int r_3]) (va_runV (As := [.long x1, .int r_1]) (rest := []) ⟨hx, hb, hml, hown, hts⟩ (c_LT_isBeforeNextRow l dC dI h0 lTi lAh cAlTi cAlAh nf x1 r_1 lCount lExp lTiA lAhA hc) (cwV 2 hts (gdV m_3_34 m_3_36 msel_13 m_1_9 m_3_37) rfl rfl rfl (by decide +kernel) ⟨Nat.le_trans (Nat.le_of_ble_eq_true rfl) hRf, Nat.le_trans (Nat.le_of_ble_eq_true rfl) hRl⟩) ((RO.pre (hP.sub (ws' := [(h0, .inr (4, [.int lCount, .ref lTi, .ref lAh, .long lExp])), (lTi, .inl (cAlTi, 60, .inr (.inl lTiA))), (lAh, .inl (cAlAh, 60, .inr (.inl lAhA)))]) [0, 1, 2] rfl) (hK.sub (tys' := [(cAlTi, .long), (cAlAh, .long)]) [0, 1] rfl) hST).vir (va_recv (hK.sub (tys' := [(cAlTi, .long), (cAlAh, .long)]) [0, 1] rfl) (hP.sub (ws' := [(h0, .inr (4, [.int lCount, .ref lTi, .ref lAh, .long lExp])), (lTi, .inl (cAlTi, 60, .inr (.inl lTiA))), (lAh, .inl (cAlAh, 60, .inr (.inl lAhA)))]) [0, 1, 2] rfl) (ci := 4) (q0 := 0) rfl rfl)) rfl rfl hl.1 rfl (lv_room (Nat.le_of_ble_eq_true rfl)) d_LT_instantOf_17 ⟨Nat.zero_le _, Nat.zero_le _⟩) rfl ?_
    refine lv_if_eq (tgt := 34) hx hb d_LT_instantOf_20 (by decide) (fun c_4 => ?_) (fun c_4 => ?_)
    · have hf := it_t c_4 hf
      refine lv_lload_n hx hb d_LT_instantOf_34 rfl (lv_at hl 2 rfl) ?_
      refine lv_aload_n hx hb d_LT_instantOf_35 rfl (lv_at hl 1 rfl) ?_
      refine va_get (D := (dC, dI)) (ci := 4) (v := .ref lAh) (C := RLeapTable) (T := TLeapTable) (N := 4) hx hb hts in_LeapTable hown hK hP 0 rfl rfl 2 (by decide) (hts (.fieldLink "ZoneFiles$LeapTable" 15 "ZoneFiles$LeapTable" "aheads" "[J") m_2_102) (fun _ h9 => h9) rfl d_LT_instantOf_36 ?_
      refine lv_iload_n hx hb d_LT_instantOf_39 rfl (lv_at hl 0 rfl) ?_
      obtain ⟨c_5, hf⟩ := it_n hf
      refine va_lald hx hb hK hP 2 1 rfl rfl c_5 d_LT_instantOf_40 ?_
      refine lv_lsub hx hb d_LT_instantOf_41 ?_
      refine lv_lstore (lv' := [(4, .long (x1 - (lAhA r_1.toNatClampNeg))), (3, .int r_1), (0, .ref h0), (1, .long x1)]) hx hb d_LT_instantOf_42 hl (by decide) rfl (fun ls hl => ?_)
      refine lv_lload hx hb d_LT_instantOf_44 (lv_at hl 0 rfl) ?_
      refine lv_aload_n hx hb d_LT_instantOf_46 rfl (lv_at hl 2 rfl) ?_
      refine va_get (D := (dC, dI)) (ci := 4) (v := .long lExp) (C := RLeapTable) (T := TLeapTable) (N := 4) hx hb hts in_LeapTable hown hK hP 0 rfl rfl 3 (by decide) (hts (.fieldLink "ZoneFiles$LeapTable" 22 "ZoneFiles$LeapTable" "expires" "J") m_2_105) (fun _ h9 => h9) rfl d_LT_instantOf_47 ?_
      refine lc_ge (tgt := 59) hx hb d_LT_instantOf_50 d_LT_instantOf_51 (by decide) (fun c_6 => ?_) (fun c_6 => ?_)
      · have hf := it_t c_6 hf
        refine lv_ldc2 (v := (-9223372036854775808)) hx hb hown (hts (.constantLong "ZoneFiles$LeapTable" 26 (-9223372036854775808)) m_3_21) d_LT_instantOf_59 ?_
        exact k_LT_instantOf_62 C0 hST hK hP hE hf (lv_sub hl [] rfl)
      · have hf := it_f c_6 hf
        refine lv_lload hx hb d_LT_instantOf_54 (lv_at hl 0 rfl) ?_
        refine lv_goto (tgt := 62) hx hb d_LT_instantOf_56 (by decide) ?_
        exact k_LT_instantOf_62 C0 hST hK hP hE hf (lv_sub hl [] rfl)
    · have hf := it_f c_4 hf
      refine lv_aload_n hx hb d_LT_instantOf_23 rfl (lv_at hl 1 rfl) ?_
      refine va_get (D := (dC, dI)) (ci := 4) (v := .ref lTi) (C := RLeapTable) (T := TLeapTable) (N := 4) hx hb hts in_LeapTable hown hK hP 0 rfl rfl 1 (by decide) (hts (.fieldLink "ZoneFiles$LeapTable" 9 "ZoneFiles$LeapTable" "times" "[J") m_2_99) (fun _ h9 => h9) rfl d_LT_instantOf_24 ?_
      refine lv_iload_n hx hb d_LT_instantOf_27 rfl (lv_at hl 0 rfl) ?_
      refine lv_iconst (v := 1) hx hb d_LT_instantOf_28 (by decide) ?_
      refine lv_iadd hx hb d_LT_instantOf_29 ?_
      obtain ⟨c_7, hf⟩ := it_n hf
      refine va_lald hx hb hK hP 1 0 rfl rfl c_7 d_LT_instantOf_30 ?_
      refine lv_lconst (v := 1) hx hb d_LT_instantOf_31 (by decide) ?_
      refine lv_lsub hx hb d_LT_instantOf_32 ?_
      have e := rs hf
      subst e
      exact hE _ _ d_LT_instantOf_33
  · have hf := it_f c_2 hf
    refine lv_ldc2 (v := (-9223372036854775808)) hx hb hown (hts (.constantLong "ZoneFiles$LeapTable" 26 (-9223372036854775808)) m_3_21) d_LT_instantOf_10 ?_
    have e := rs hf
    subst e
    exact hE _ _ d_LT_instantOf_13
end
set_option maxHeartbeats 400000 in
set_option maxRecDepth 100000 in
theorem c_LT_instantOf (l : Launch) (dC : Nat → ClassId) (dI : Nat → Nat → Nat) (h0 : Nat) (lTi : Nat) (lAh : Nat) (cAlTi : ClassId) (cAlAh : ClassId) (nf : Nat) (p0 : Int64) (lCount : Int32) (lExp : Int64) (lTiA : Nat → Int64) (lAhA : Nat → Int64) {r0 : Int64} (hf : f_LT_instantOf nf p0 lCount lExp lTiA lAhA = some r0) : Met l y_LT_instantOf (wd y_LT_instantOf b_LT_instantOf 6 (some .long)) ({ frames := 1, cells := 0, slots := 0, locals := 23 }) (RO dC dI [(h0, .inr (4, [.int lCount, .ref lTi, .ref lAh, .long lExp])), (lTi, .inl (cAlTi, 60, .inr (.inl lTiA))), (lAh, .inl (cAlAh, 60, .inr (.inl lAhA)))] [(cAlTi, .long), (cAlAh, .long)] [.ref h0, .long p0]) (SV (some (.long r0))) 0 0 (fun _ => False) :=
  met_S (plainFor_of_name (by decide)) (Nat.le_of_ble_eq_true rfl) (fun p e R s m args below meth c ls C0 hST hK hP hl => by
    obtain ⟨hx, hb, hr, hml, hown, hts, hlocks, hRf, hRl⟩ := id C0
    unfold f_LT_instantOf at hf
    exact k_LT_instantOf_0 C0 hST hK hP (fun pc ls hd => W.lret hx hb hr (fun t ht hW => ⟨rfl, ht⟩) (fun q h => by cases h) hd) hf (lv_sub hl [0, 1] rfl))
-- ZoneFiles$LeapTable.hasLeapSecond(J)Z
def f_LT_hasLeapSecond_24 (nf : Nat) (s0 : Int32) : Option (Int32) :=
  if s0 = 0 ∨ s0 = 1 then some s0 else none
def f_LT_hasLeapSecond_23 (nf : Nat) : Option (Int32) :=
  f_LT_hasLeapSecond_24 nf 0
def f_LT_hasLeapSecond_0 (nf : Nat) (lCount : Int32) (lTiA : Nat → Int64) (lAhA : Nat → Int64) (x1 : Int64) : Option (Int32) :=
  (f_LT_lastRowUpTo nf x1 lCount lTiA lAhA).bind fun r_1 =>
  if r_1 < 0 then
  f_LT_hasLeapSecond_23 nf
  else
  (f_LT_isBeforeNextRow nf x1 r_1 lCount lTiA lAhA).bind fun r_4 =>
    if r_4 = 0 then
    f_LT_hasLeapSecond_23 nf
    else
    f_LT_hasLeapSecond_24 nf 1
def f_LT_hasLeapSecond (nf : Nat) (p0 : Int64) (lCount : Int32) (lTiA : Nat → Int64) (lAhA : Nat → Int64) : Option (Int32) :=
  f_LT_hasLeapSecond_0 nf lCount lTiA lAhA p0
section
variable {p : Program} {l : Launch} {e : Env} {R : Room} {s : State} {m : MethodId} {args : Array Value} {below : List Frame} {meth : Method} {c : Code} {Q : State → Prop} {dC : Nat → ClassId} {dI : Nat → Nat → Nat} {nf : Nat}
variable {h0 : Nat} {lTi : Nat} {lAh : Nat} {cAlTi : ClassId} {cAlAh : ClassId} {lCount : Int32} {lExp : Int64} {lTiA : Nat → Int64} {lAhA : Nat → Int64} {r0 : Int32}
set_option maxHeartbeats 400000 in
set_option maxRecDepth 100000 in
theorem k_LT_hasLeapSecond_24 (C0 : Cx p s m meth c args R b_LT_hasLeapSecond "ZoneFiles$LeapTable" 4 (some .boolean) 1 23) (hST : ST (fun _ => False) s s.heap) (hK : va_K (dC, dI) classes [(cAlTi, .long), (cAlAh, .long)] s) (hP : va_P (dC, dI) classes [(h0, .inr (4, [.int lCount, .ref lTi, .ref lAh, .long lExp])), (lTi, .inl (cAlTi, 60, .inr (.inl lTiA))), (lAh, .inl (cAlAh, 60, .inr (.inl lAhA)))] s.heap) (hE : ∀ (pc : Nat) (ls : Array Slot), decode b_LT_hasLeapSecond pc = .ok (.ireturn, 1) → narrow .boolean (.int r0) = .int r0 → W p l e R s m args below meth c s.heap [] 0 0 Q (F0 m pc ls [.int r0])) {s0 : Int32} (hf : f_LT_hasLeapSecond_24 nf s0 = some r0) {ls : Array Slot} (hl : lv_has ls 4 []) : W p l e R s m args below meth c s.heap [] 0 0 Q (F0 m 24 ls [.int s0]) := by
  obtain ⟨hx, hb, hr, hml, hown, hts, hlocks, hRf, hRl⟩ := id C0
  obtain ⟨tms, hZms, hTms, tmg, hZmg, hTmg, hNW⟩ := id hST
  unfold f_LT_hasLeapSecond_24 at hf
  obtain ⟨c_3, hf⟩ := it_g hf
  have e := rs hf
  subst e
  exact hE _ _ d_LT_hasLeapSecond_24 (nb_of c_3)
set_option maxHeartbeats 400000 in
set_option maxRecDepth 100000 in
theorem k_LT_hasLeapSecond_23 (C0 : Cx p s m meth c args R b_LT_hasLeapSecond "ZoneFiles$LeapTable" 4 (some .boolean) 1 23) (hST : ST (fun _ => False) s s.heap) (hK : va_K (dC, dI) classes [(cAlTi, .long), (cAlAh, .long)] s) (hP : va_P (dC, dI) classes [(h0, .inr (4, [.int lCount, .ref lTi, .ref lAh, .long lExp])), (lTi, .inl (cAlTi, 60, .inr (.inl lTiA))), (lAh, .inl (cAlAh, 60, .inr (.inl lAhA)))] s.heap) (hE : ∀ (pc : Nat) (ls : Array Slot), decode b_LT_hasLeapSecond pc = .ok (.ireturn, 1) → narrow .boolean (.int r0) = .int r0 → W p l e R s m args below meth c s.heap [] 0 0 Q (F0 m pc ls [.int r0])) (hf : f_LT_hasLeapSecond_23 nf = some r0) {ls : Array Slot} (hl : lv_has ls 4 []) : W p l e R s m args below meth c s.heap [] 0 0 Q (F0 m 23 ls []) := by
  obtain ⟨hx, hb, hr, hml, hown, hts, hlocks, hRf, hRl⟩ := id C0
  obtain ⟨tms, hZms, hTms, tmg, hZmg, hTmg, hNW⟩ := id hST
  unfold f_LT_hasLeapSecond_23 at hf
  refine lv_iconst (v := 0) hx hb d_LT_hasLeapSecond_23 (by decide) ?_
  exact k_LT_hasLeapSecond_24 C0 hST hK hP hE hf (lv_sub hl [] rfl)
set_option maxHeartbeats 400000 in
set_option maxRecDepth 100000 in
theorem k_LT_hasLeapSecond_0 (C0 : Cx p s m meth c args R b_LT_hasLeapSecond "ZoneFiles$LeapTable" 4 (some .boolean) 1 23) (hST : ST (fun _ => False) s s.heap) (hK : va_K (dC, dI) classes [(cAlTi, .long), (cAlAh, .long)] s) (hP : va_P (dC, dI) classes [(h0, .inr (4, [.int lCount, .ref lTi, .ref lAh, .long lExp])), (lTi, .inl (cAlTi, 60, .inr (.inl lTiA))), (lAh, .inl (cAlAh, 60, .inr (.inl lAhA)))] s.heap) (hE : ∀ (pc : Nat) (ls : Array Slot), decode b_LT_hasLeapSecond pc = .ok (.ireturn, 1) → narrow .boolean (.int r0) = .int r0 → W p l e R s m args below meth c s.heap [] 0 0 Q (F0 m pc ls [.int r0])) {x1 : Int64} (hf : f_LT_hasLeapSecond_0 nf lCount lTiA lAhA x1 = some r0) {ls : Array Slot} (hl : lv_has ls 4 [(0, .ref h0), (1, .long x1)]) : W p l e R s m args below meth c s.heap [] 0 0 Q (F0 m 0 ls []) := by
  obtain ⟨hx, hb, hr, hml, hown, hts, hlocks, hRf, hRl⟩ := id C0
  obtain ⟨tms, hZms, hTms, tmg, hZmg, hTmg, hNW⟩ := id hST
  unfold f_LT_hasLeapSecond_0 at hf
  refine lv_aload_n hx hb d_LT_hasLeapSecond_0 rfl (lv_at hl 0 rfl) ?_
  refine lv_lload_n hx hb d_LT_hasLeapSecond_1 rfl (lv_at hl 1 rfl) ?_
  obtain ⟨r_1, hc, hf⟩ := ob hf
  refine cl_S (v := (some (.int r_1))) (st1 := [.int r_1]) (va_runV (As := [.long x1]) (rest := []) ⟨hx, hb, hml, hown, hts⟩ (c_LT_lastRowUpTo l dC dI h0 lTi lAh cAlTi cAlAh nf x1 lCount lExp lTiA lAhA hc) (cwV 1 hts (gdV m_3_30 m_3_32 msel_12 m_1_9 m_3_33) rfl rfl rfl (by decide +kernel) ⟨Nat.le_trans (Nat.le_of_ble_eq_true rfl) hRf, Nat.le_trans (Nat.le_of_ble_eq_true rfl) hRl⟩) ((RO.pre (hP.sub (ws' := [(h0, .inr (4, [.int lCount, .ref lTi, .ref lAh, .long lExp])), (lTi, .inl (cAlTi, 60, .inr (.inl lTiA))), (lAh, .inl (cAlAh, 60, .inr (.inl lAhA)))]) [0, 1, 2] rfl) (hK.sub (tys' := [(cAlTi, .long), (cAlAh, .long)]) [0, 1] rfl) hST).vir (va_recv (hK.sub (tys' := [(cAlTi, .long), (cAlAh, .long)]) [0, 1] rfl) (hP.sub (ws' := [(h0, .inr (4, [.int lCount, .ref lTi, .ref lAh, .long lExp])), (lTi, .inl (cAlTi, 60, .inr (.inl lTiA))), (lAh, .inl (cAlAh, 60, .inr (.inl lAhA)))]) [0, 1, 2] rfl) (ci := 4) (q0 := 0) rfl rfl)) rfl rfl hl.1 rfl (lv_room (Nat.le_of_ble_eq_true rfl)) d_LT_hasLeapSecond_2 ⟨Nat.zero_le _, Nat.zero_le _⟩) rfl ?_
  refine lv_istore_n (lv' := [(3, .int r_1), (0, .ref h0), (1, .long x1)]) hx hb d_LT_hasLeapSecond_5 rfl hl (by decide) rfl (fun ls hl => ?_)
  refine lv_iload_n hx hb d_LT_hasLeapSecond_6 rfl (lv_at hl 0 rfl) ?_
  refine lv_if_lt (tgt := 23) hx hb d_LT_hasLeapSecond_7 (by decide) (fun c_2 => ?_) (fun c_2 => ?_)
  · have hf := it_t c_2 hf
    exact k_LT_hasLeapSecond_23 C0 hST hK hP hE hf (lv_sub hl [] rfl)
  · have hf := it_f c_2 hf
    refine lv_aload_n hx hb d_LT_hasLeapSecond_10 rfl (lv_at hl 1 rfl) ?_
    refine lv_lload_n hx hb d_LT_hasLeapSecond_11 rfl (lv_at hl 2 rfl) ?_
    refine lv_iload_n hx hb d_LT_hasLeapSecond_12 rfl (lv_at hl 0 rfl) ?_
    obtain ⟨r_4, hc, hf⟩ := ob hf
    refine cl_S (v := (some (.int r_4))) (st1 := [.int r_4]) (va_runV (As := [.long x1, .int r_1]) (rest := []) ⟨hx, hb, hml, hown, hts⟩ (c_LT_isBeforeNextRow l dC dI h0 lTi lAh cAlTi cAlAh nf x1 r_1 lCount lExp lTiA lAhA hc) (cwV 2 hts (gdV m_3_34 m_3_36 msel_13 m_1_9 m_3_37) rfl rfl rfl (by decide +kernel) ⟨Nat.le_trans (Nat.le_of_ble_eq_true rfl) hRf, Nat.le_trans (Nat.le_of_ble_eq_true rfl) hRl⟩) ((RO.pre (hP.sub (ws' := [(h0, .inr (4, [.int lCount, .ref lTi, .ref lAh, .long lExp])), (lTi, .inl (cAlTi, 60, .inr (.inl lTiA))), (lAh, .inl (cAlAh, 60, .inr (.inl lAhA)))]) [0, 1, 2] rfl) (hK.sub (tys' := [(cAlTi, .long), (cAlAh, .long)]) [0, 1] rfl) hST).vir (va_recv (hK.sub (tys' := [(cAlTi, .long), (cAlAh, .long)]) [0, 1] rfl) (hP.sub (ws' := [(h0, .inr (4, [.int lCount, .ref lTi, .ref lAh, .long lExp])), (lTi, .inl (cAlTi, 60, .inr (.inl lTiA))), (lAh, .inl (cAlAh, 60, .inr (.inl lAhA)))]) [0, 1, 2] rfl) (ci := 4) (q0 := 0) rfl rfl)) rfl rfl hl.1 rfl (lv_room (Nat.le_of_ble_eq_true rfl)) d_LT_hasLeapSecond_13 ⟨Nat.zero_le _, Nat.zero_le _⟩) rfl ?_
    refine lv_if_eq (tgt := 23) hx hb d_LT_hasLeapSecond_16 (by decide) (fun c_5 => ?_) (fun c_5 => ?_)
    · have hf := it_t c_5 hf
      exact k_LT_hasLeapSecond_23 C0 hST hK hP hE hf (lv_sub hl [] rfl)
    · have hf := it_f c_5 hf
      refine lv_iconst (v := 1) hx hb d_LT_hasLeapSecond_19 (by decide) ?_
      refine lv_goto (tgt := 24) hx hb d_LT_hasLeapSecond_20 (by decide) ?_
      exact k_LT_hasLeapSecond_24 C0 hST hK hP hE hf (lv_sub hl [] rfl)
end
set_option maxHeartbeats 400000 in
set_option maxRecDepth 100000 in
theorem c_LT_hasLeapSecond (l : Launch) (dC : Nat → ClassId) (dI : Nat → Nat → Nat) (h0 : Nat) (lTi : Nat) (lAh : Nat) (cAlTi : ClassId) (cAlAh : ClassId) (nf : Nat) (p0 : Int64) (lCount : Int32) (lExp : Int64) (lTiA : Nat → Int64) (lAhA : Nat → Int64) {r0 : Int32} (hf : f_LT_hasLeapSecond nf p0 lCount lTiA lAhA = some r0) : Met l y_LT_hasLeapSecond (wd y_LT_hasLeapSecond b_LT_hasLeapSecond 4 (some .boolean)) ({ frames := 1, cells := 0, slots := 0, locals := 23 }) (RO dC dI [(h0, .inr (4, [.int lCount, .ref lTi, .ref lAh, .long lExp])), (lTi, .inl (cAlTi, 60, .inr (.inl lTiA))), (lAh, .inl (cAlAh, 60, .inr (.inl lAhA)))] [(cAlTi, .long), (cAlAh, .long)] [.ref h0, .long p0]) (SV (some (.int r0))) 0 0 (fun _ => False) :=
  met_S (plainFor_of_name (by decide)) (Nat.le_of_ble_eq_true rfl) (fun p e R s m args below meth c ls C0 hST hK hP hl => by
    obtain ⟨hx, hb, hr, hml, hown, hts, hlocks, hRf, hRl⟩ := id C0
    unfold f_LT_hasLeapSecond at hf
    exact k_LT_hasLeapSecond_0 C0 hST hK hP (fun pc ls hd hn => W.zret hx hb hr hn (fun t ht hW => ⟨rfl, ht⟩) (fun q h => by cases h) hd) hf (lv_sub hl [0, 1] rfl))
