theorem m_1_5 : Cond.initialized "ZoneFiles$Edge" ∈ T0 := tb_1 5 rfl rfl
theorem m_1_74 : Cond.fieldLink "ZoneFiles$Edge" 30 "ZoneFiles$Edge" "kind" "I" ∈ T0 := tb_1 74 rfl rfl
theorem m_1_76 : Cond.fieldLink "ZoneFiles$Edge" 40 "ZoneFiles$Edge" "month" "I" ∈ T0 := tb_1 76 rfl rfl
theorem m_1_78 : Cond.fieldLink "ZoneFiles$Edge" 57 "ZoneFiles$Edge" "week" "I" ∈ T0 := tb_1 78 rfl rfl
theorem m_1_80 : Cond.fieldLink "ZoneFiles$Edge" 33 "ZoneFiles$Edge" "day" "I" ∈ T0 := tb_1 80 rfl rfl
theorem m_1_82 : Cond.fieldLink "ZoneFiles$Edge" 23 "ZoneFiles$Edge" "timeOfDay" "I" ∈ T0 := tb_1 82 rfl rfl
theorem m_1_84 : Cond.fieldLink "ZoneFiles$Edge" 27 "ZoneFiles$Edge" "clockOffset" "I" ∈ T0 := tb_1 84 rfl rfl
theorem m_4_158 : Cond.constantLong "ZoneFiles$Edge" 21 86400 ∈ T0 := tb_4 158 rfl rfl
theorem m_4_159 : Cond.methodLink "ZoneFiles$Edge" 60 ⟨"java/lang/Math", "floorDiv", "(JJ)J"⟩ ∈ T0 := tb_4 159 rfl rfl
theorem m_4_162 : Cond.methodLink "ZoneFiles$Edge" 63 ⟨"ZoneFiles$Calendar", "yearOf", "(J)J"⟩ ∈ T0 := tb_4 162 rfl rfl
theorem m_4_177 : Cond.methodLink "ZoneFiles$Edge" 66 ⟨"ZoneFiles$Edge", "momentIn", "(J)J"⟩ ∈ T0 := tb_4 177 rfl rfl
theorem m_4_178 : Cond.instanceMethod ⟨"ZoneFiles$Edge", "momentIn", "(J)J"⟩ ∈ T0 := tb_4 178 rfl rfl
theorem m_4_179 : Cond.selects "ZoneFiles$Edge" ⟨"ZoneFiles$Edge", "momentIn", "(J)J"⟩ ⟨"ZoneFiles$Edge", "momentIn", "(J)J"⟩ ∈ T0 := tb_4 179 rfl rfl
theorem m_4_180 : Cond.code ⟨"ZoneFiles$Edge", "momentIn", "(J)J"⟩ prog_4_method_2_code 5 (some .long) ∈ T0 := tb_4 180 rfl rfl
theorem m_4_181 : Cond.methodLink "ZoneFiles$Edge" 9 ⟨"ZoneFiles$Calendar", "yearStart", "(J)J"⟩ ∈ T0 := tb_4 181 rfl rfl
theorem m_4_182 : Cond.methodLink "ZoneFiles$Edge" 15 ⟨"ZoneFiles$Edge", "dayIn", "(JJ)I"⟩ ∈ T0 := tb_4 182 rfl rfl
theorem m_4_184 : Cond.instanceMethod ⟨"ZoneFiles$Edge", "dayIn", "(JJ)I"⟩ ∈ T0 := tb_4 184 rfl rfl
theorem m_4_185 : Cond.code ⟨"ZoneFiles$Edge", "dayIn", "(JJ)I"⟩ prog_4_method_3_code 10 (some .int) ∈ T0 := tb_4 185 rfl rfl
theorem m_4_186 : Cond.methodLink "ZoneFiles$Edge" 36 ⟨"ZoneFiles$Calendar", "isLongYear", "(J)Z"⟩ ∈ T0 := tb_4 186 rfl rfl
theorem m_4_189 : Cond.methodLink "ZoneFiles$Edge" 43 ⟨"ZoneFiles$Calendar", "monthStart", "(IZ)I"⟩ ∈ T0 := tb_4 189 rfl rfl
theorem m_4_194 : Cond.constantLong "ZoneFiles$Edge" 47 4 ∈ T0 := tb_4 194 rfl rfl
theorem m_4_195 : Cond.constantLong "ZoneFiles$Edge" 49 7 ∈ T0 := tb_4 195 rfl rfl
theorem m_4_196 : Cond.methodLink "ZoneFiles$Edge" 51 ⟨"java/lang/Math", "floorMod", "(JJ)J"⟩ ∈ T0 := tb_4 196 rfl rfl
theorem msel_40 : Cond.selects "ZoneFiles$Edge" ⟨"ZoneFiles$Edge", "dayIn", "(JJ)I"⟩ ⟨"ZoneFiles$Edge", "dayIn", "(JJ)I"⟩ ∈ T0 := ps_3 (q := (⟨"ZoneFiles$Edge", "dayIn", "(JJ)I"⟩, 6)) 8 rfl
abbrev b_Edge_dayIn : ByteArray := prog_4_method_3_code
def y_Edge_dayIn : MethodName := ⟨"ZoneFiles$Edge", "dayIn", "(JJ)I"⟩
theorem d_Edge_dayIn_0 : decode b_Edge_dayIn 0 = .ok (.aload_n 0, 1) := by decide +kernel
theorem d_Edge_dayIn_1 : decode b_Edge_dayIn 1 = .ok (.getfield 30, 3) := by decide +kernel
theorem d_Edge_dayIn_4 : decode b_Edge_dayIn 4 = .ok (.iconst 1, 1) := by decide +kernel
theorem d_Edge_dayIn_5 : decode b_Edge_dayIn 5 = .ok (.if_icmp .ne 8, 3) := by decide +kernel
theorem d_Edge_dayIn_8 : decode b_Edge_dayIn 8 = .ok (.aload_n 0, 1) := by decide +kernel
theorem d_Edge_dayIn_9 : decode b_Edge_dayIn 9 = .ok (.getfield 33, 3) := by decide +kernel
theorem d_Edge_dayIn_12 : decode b_Edge_dayIn 12 = .ok (.ireturn, 1) := by decide +kernel
theorem d_Edge_dayIn_13 : decode b_Edge_dayIn 13 = .ok (.lload_n 1, 1) := by decide +kernel
theorem d_Edge_dayIn_14 : decode b_Edge_dayIn 14 = .ok (.invokestatic 36, 3) := by decide +kernel
theorem d_Edge_dayIn_17 : decode b_Edge_dayIn 17 = .ok (.istore 5, 2) := by decide +kernel
theorem d_Edge_dayIn_19 : decode b_Edge_dayIn 19 = .ok (.aload_n 0, 1) := by decide +kernel
theorem d_Edge_dayIn_20 : decode b_Edge_dayIn 20 = .ok (.getfield 30, 3) := by decide +kernel
theorem d_Edge_dayIn_23 : decode b_Edge_dayIn 23 = .ok (.ifCond .ne 31, 3) := by decide +kernel
theorem d_Edge_dayIn_26 : decode b_Edge_dayIn 26 = .ok (.iload 5, 2) := by decide +kernel
theorem d_Edge_dayIn_28 : decode b_Edge_dayIn 28 = .ok (.ifCond .eq 19, 3) := by decide +kernel
theorem d_Edge_dayIn_31 : decode b_Edge_dayIn 31 = .ok (.aload_n 0, 1) := by decide +kernel
theorem d_Edge_dayIn_32 : decode b_Edge_dayIn 32 = .ok (.getfield 33, 3) := by decide +kernel
theorem d_Edge_dayIn_35 : decode b_Edge_dayIn 35 = .ok (.bipush 59, 2) := by decide +kernel
theorem d_Edge_dayIn_37 : decode b_Edge_dayIn 37 = .ok (.if_icmp .le 10, 3) := by decide +kernel
theorem d_Edge_dayIn_40 : decode b_Edge_dayIn 40 = .ok (.aload_n 0, 1) := by decide +kernel
theorem d_Edge_dayIn_41 : decode b_Edge_dayIn 41 = .ok (.getfield 33, 3) := by decide +kernel
theorem d_Edge_dayIn_44 : decode b_Edge_dayIn 44 = .ok (.goto 9, 3) := by decide +kernel
theorem d_Edge_dayIn_47 : decode b_Edge_dayIn 47 = .ok (.aload_n 0, 1) := by decide +kernel
theorem d_Edge_dayIn_48 : decode b_Edge_dayIn 48 = .ok (.getfield 33, 3) := by decide +kernel
theorem d_Edge_dayIn_51 : decode b_Edge_dayIn 51 = .ok (.iconst 1, 1) := by decide +kernel
theorem d_Edge_dayIn_52 : decode b_Edge_dayIn 52 = .ok (.isub, 1) := by decide +kernel
theorem d_Edge_dayIn_53 : decode b_Edge_dayIn 53 = .ok (.ireturn, 1) := by decide +kernel
theorem d_Edge_dayIn_54 : decode b_Edge_dayIn 54 = .ok (.aload_n 0, 1) := by decide +kernel
theorem d_Edge_dayIn_55 : decode b_Edge_dayIn 55 = .ok (.getfield 40, 3) := by decide +kernel
theorem d_Edge_dayIn_58 : decode b_Edge_dayIn 58 = .ok (.iload 5, 2) := by decide +kernel
theorem d_Edge_dayIn_60 : decode b_Edge_dayIn 60 = .ok (.invokestatic 43, 3) := by decide +kernel
theorem d_Edge_dayIn_63 : decode b_Edge_dayIn 63 = .ok (.istore 6, 2) := by decide +kernel
theorem d_Edge_dayIn_65 : decode b_Edge_dayIn 65 = .ok (.aload_n 0, 1) := by decide +kernel
theorem d_Edge_dayIn_66 : decode b_Edge_dayIn 66 = .ok (.getfield 40, 3) := by decide +kernel
theorem d_Edge_dayIn_69 : decode b_Edge_dayIn 69 = .ok (.iconst 1, 1) := by decide +kernel
theorem d_Edge_dayIn_70 : decode b_Edge_dayIn 70 = .ok (.iadd, 1) := by decide +kernel
theorem d_Edge_dayIn_71 : decode b_Edge_dayIn 71 = .ok (.iload 5, 2) := by decide +kernel
theorem d_Edge_dayIn_73 : decode b_Edge_dayIn 73 = .ok (.invokestatic 43, 3) := by decide +kernel
theorem d_Edge_dayIn_76 : decode b_Edge_dayIn 76 = .ok (.iload 6, 2) := by decide +kernel
theorem d_Edge_dayIn_78 : decode b_Edge_dayIn 78 = .ok (.isub, 1) := by decide +kernel
theorem d_Edge_dayIn_79 : decode b_Edge_dayIn 79 = .ok (.istore 7, 2) := by decide +kernel
theorem d_Edge_dayIn_81 : decode b_Edge_dayIn 81 = .ok (.lload_n 3, 1) := by decide +kernel
theorem d_Edge_dayIn_82 : decode b_Edge_dayIn 82 = .ok (.iload 6, 2) := by decide +kernel
theorem d_Edge_dayIn_84 : decode b_Edge_dayIn 84 = .ok (.i2l, 1) := by decide +kernel
theorem d_Edge_dayIn_85 : decode b_Edge_dayIn 85 = .ok (.ladd, 1) := by decide +kernel
theorem d_Edge_dayIn_86 : decode b_Edge_dayIn 86 = .ok (.ldc2_w 47, 3) := by decide +kernel
theorem d_Edge_dayIn_89 : decode b_Edge_dayIn 89 = .ok (.ladd, 1) := by decide +kernel
theorem d_Edge_dayIn_90 : decode b_Edge_dayIn 90 = .ok (.ldc2_w 49, 3) := by decide +kernel
theorem d_Edge_dayIn_93 : decode b_Edge_dayIn 93 = .ok (.invokestatic 51, 3) := by decide +kernel
theorem d_Edge_dayIn_96 : decode b_Edge_dayIn 96 = .ok (.l2i, 1) := by decide +kernel
theorem d_Edge_dayIn_97 : decode b_Edge_dayIn 97 = .ok (.istore 8, 2) := by decide +kernel
theorem d_Edge_dayIn_99 : decode b_Edge_dayIn 99 = .ok (.aload_n 0, 1) := by decide +kernel
theorem d_Edge_dayIn_100 : decode b_Edge_dayIn 100 = .ok (.getfield 33, 3) := by decide +kernel
theorem d_Edge_dayIn_103 : decode b_Edge_dayIn 103 = .ok (.iload 8, 2) := by decide +kernel
theorem d_Edge_dayIn_105 : decode b_Edge_dayIn 105 = .ok (.isub, 1) := by decide +kernel
theorem d_Edge_dayIn_106 : decode b_Edge_dayIn 106 = .ok (.bipush 7, 2) := by decide +kernel
theorem d_Edge_dayIn_108 : decode b_Edge_dayIn 108 = .ok (.iadd, 1) := by decide +kernel
theorem d_Edge_dayIn_109 : decode b_Edge_dayIn 109 = .ok (.bipush 7, 2) := by decide +kernel
theorem d_Edge_dayIn_111 : decode b_Edge_dayIn 111 = .ok (.irem, 1) := by decide +kernel
theorem d_Edge_dayIn_112 : decode b_Edge_dayIn 112 = .ok (.bipush 7, 2) := by decide +kernel
theorem d_Edge_dayIn_114 : decode b_Edge_dayIn 114 = .ok (.aload_n 0, 1) := by decide +kernel
theorem d_Edge_dayIn_115 : decode b_Edge_dayIn 115 = .ok (.getfield 57, 3) := by decide +kernel
theorem d_Edge_dayIn_118 : decode b_Edge_dayIn 118 = .ok (.iconst 1, 1) := by decide +kernel
theorem d_Edge_dayIn_119 : decode b_Edge_dayIn 119 = .ok (.isub, 1) := by decide +kernel
theorem d_Edge_dayIn_120 : decode b_Edge_dayIn 120 = .ok (.imul, 1) := by decide +kernel
theorem d_Edge_dayIn_121 : decode b_Edge_dayIn 121 = .ok (.iadd, 1) := by decide +kernel
theorem d_Edge_dayIn_122 : decode b_Edge_dayIn 122 = .ok (.istore 9, 2) := by decide +kernel
theorem d_Edge_dayIn_124 : decode b_Edge_dayIn 124 = .ok (.iload 6, 2) := by decide +kernel
theorem d_Edge_dayIn_126 : decode b_Edge_dayIn 126 = .ok (.iload 9, 2) := by decide +kernel
theorem d_Edge_dayIn_128 : decode b_Edge_dayIn 128 = .ok (.iload 7, 2) := by decide +kernel
theorem d_Edge_dayIn_130 : decode b_Edge_dayIn 130 = .ok (.if_icmp .ge 8, 3) := by decide +kernel
theorem d_Edge_dayIn_133 : decode b_Edge_dayIn 133 = .ok (.iload 9, 2) := by decide +kernel
theorem d_Edge_dayIn_135 : decode b_Edge_dayIn 135 = .ok (.goto 8, 3) := by decide +kernel
theorem d_Edge_dayIn_138 : decode b_Edge_dayIn 138 = .ok (.iload 9, 2) := by decide +kernel
theorem d_Edge_dayIn_140 : decode b_Edge_dayIn 140 = .ok (.bipush 7, 2) := by decide +kernel
theorem d_Edge_dayIn_142 : decode b_Edge_dayIn 142 = .ok (.isub, 1) := by decide +kernel
theorem d_Edge_dayIn_143 : decode b_Edge_dayIn 143 = .ok (.iadd, 1) := by decide +kernel
theorem d_Edge_dayIn_144 : decode b_Edge_dayIn 144 = .ok (.ireturn, 1) := by decide +kernel
abbrev b_Edge_momentIn : ByteArray := prog_4_method_2_code
def y_Edge_momentIn : MethodName := ⟨"ZoneFiles$Edge", "momentIn", "(J)J"⟩
theorem d_Edge_momentIn_0 : decode b_Edge_momentIn 0 = .ok (.lload_n 1, 1) := by decide +kernel
theorem d_Edge_momentIn_1 : decode b_Edge_momentIn 1 = .ok (.invokestatic 9, 3) := by decide +kernel
theorem d_Edge_momentIn_4 : decode b_Edge_momentIn 4 = .ok (.lstore_n 3, 1) := by decide +kernel
theorem d_Edge_momentIn_5 : decode b_Edge_momentIn 5 = .ok (.lload_n 3, 1) := by decide +kernel
theorem d_Edge_momentIn_6 : decode b_Edge_momentIn 6 = .ok (.aload_n 0, 1) := by decide +kernel
theorem d_Edge_momentIn_7 : decode b_Edge_momentIn 7 = .ok (.lload_n 1, 1) := by decide +kernel
theorem d_Edge_momentIn_8 : decode b_Edge_momentIn 8 = .ok (.lload_n 3, 1) := by decide +kernel
theorem d_Edge_momentIn_9 : decode b_Edge_momentIn 9 = .ok (.invokevirtual 15, 3) := by decide +kernel
theorem d_Edge_momentIn_12 : decode b_Edge_momentIn 12 = .ok (.i2l, 1) := by decide +kernel
theorem d_Edge_momentIn_13 : decode b_Edge_momentIn 13 = .ok (.ladd, 1) := by decide +kernel
theorem d_Edge_momentIn_14 : decode b_Edge_momentIn 14 = .ok (.ldc2_w 21, 3) := by decide +kernel
theorem d_Edge_momentIn_17 : decode b_Edge_momentIn 17 = .ok (.lmul, 1) := by decide +kernel
theorem d_Edge_momentIn_18 : decode b_Edge_momentIn 18 = .ok (.aload_n 0, 1) := by decide +kernel
theorem d_Edge_momentIn_19 : decode b_Edge_momentIn 19 = .ok (.getfield 23, 3) := by decide +kernel
theorem d_Edge_momentIn_22 : decode b_Edge_momentIn 22 = .ok (.i2l, 1) := by decide +kernel
theorem d_Edge_momentIn_23 : decode b_Edge_momentIn 23 = .ok (.ladd, 1) := by decide +kernel
theorem d_Edge_momentIn_24 : decode b_Edge_momentIn 24 = .ok (.aload_n 0, 1) := by decide +kernel
theorem d_Edge_momentIn_25 : decode b_Edge_momentIn 25 = .ok (.getfield 27, 3) := by decide +kernel
theorem d_Edge_momentIn_28 : decode b_Edge_momentIn 28 = .ok (.i2l, 1) := by decide +kernel
theorem d_Edge_momentIn_29 : decode b_Edge_momentIn 29 = .ok (.lsub, 1) := by decide +kernel
theorem d_Edge_momentIn_30 : decode b_Edge_momentIn 30 = .ok (.lreturn, 1) := by decide +kernel
abbrev b_Edge_lastYear : ByteArray := prog_4_method_4_code
def y_Edge_lastYear : MethodName := ⟨"ZoneFiles$Edge", "lastYear", "(J)J"⟩
theorem d_Edge_lastYear_0 : decode b_Edge_lastYear 0 = .ok (.lload_n 1, 1) := by decide +kernel
theorem d_Edge_lastYear_1 : decode b_Edge_lastYear 1 = .ok (.ldc2_w 21, 3) := by decide +kernel
theorem d_Edge_lastYear_4 : decode b_Edge_lastYear 4 = .ok (.invokestatic 60, 3) := by decide +kernel
theorem d_Edge_lastYear_7 : decode b_Edge_lastYear 7 = .ok (.invokestatic 63, 3) := by decide +kernel
theorem d_Edge_lastYear_10 : decode b_Edge_lastYear 10 = .ok (.lconst 1, 1) := by decide +kernel
theorem d_Edge_lastYear_11 : decode b_Edge_lastYear 11 = .ok (.ladd, 1) := by decide +kernel
theorem d_Edge_lastYear_12 : decode b_Edge_lastYear 12 = .ok (.lstore_n 3, 1) := by decide +kernel
theorem d_Edge_lastYear_13 : decode b_Edge_lastYear 13 = .ok (.iconst 0, 1) := by decide +kernel
theorem d_Edge_lastYear_14 : decode b_Edge_lastYear 14 = .ok (.istore 5, 2) := by decide +kernel
theorem d_Edge_lastYear_16 : decode b_Edge_lastYear 16 = .ok (.iload 5, 2) := by decide +kernel
theorem d_Edge_lastYear_18 : decode b_Edge_lastYear 18 = .ok (.iconst 3, 1) := by decide +kernel
theorem d_Edge_lastYear_19 : decode b_Edge_lastYear 19 = .ok (.if_icmp .ge 23, 3) := by decide +kernel
theorem d_Edge_lastYear_22 : decode b_Edge_lastYear 22 = .ok (.aload_n 0, 1) := by decide +kernel
theorem d_Edge_lastYear_23 : decode b_Edge_lastYear 23 = .ok (.lload_n 3, 1) := by decide +kernel
theorem d_Edge_lastYear_24 : decode b_Edge_lastYear 24 = .ok (.invokevirtual 66, 3) := by decide +kernel
theorem d_Edge_lastYear_27 : decode b_Edge_lastYear 27 = .ok (.lload_n 1, 1) := by decide +kernel
theorem d_Edge_lastYear_28 : decode b_Edge_lastYear 28 = .ok (.lcmp, 1) := by decide +kernel
theorem d_Edge_lastYear_29 : decode b_Edge_lastYear 29 = .ok (.ifCond .le 13, 3) := by decide +kernel
theorem d_Edge_lastYear_32 : decode b_Edge_lastYear 32 = .ok (.lload_n 3, 1) := by decide +kernel
theorem d_Edge_lastYear_33 : decode b_Edge_lastYear 33 = .ok (.lconst 1, 1) := by decide +kernel
theorem d_Edge_lastYear_34 : decode b_Edge_lastYear 34 = .ok (.lsub, 1) := by decide +kernel
theorem d_Edge_lastYear_35 : decode b_Edge_lastYear 35 = .ok (.lstore_n 3, 1) := by decide +kernel
theorem d_Edge_lastYear_36 : decode b_Edge_lastYear 36 = .ok (.iinc 5 1, 3) := by decide +kernel
theorem d_Edge_lastYear_39 : decode b_Edge_lastYear 39 = .ok (.goto (-23), 3) := by decide +kernel
theorem d_Edge_lastYear_42 : decode b_Edge_lastYear 42 = .ok (.lload_n 3, 1) := by decide +kernel
theorem d_Edge_lastYear_43 : decode b_Edge_lastYear 43 = .ok (.lreturn, 1) := by decide +kernel
-- ZoneFiles$Edge.dayIn(JJ)I
def f_Edge_dayIn_143 (nf : Nat) (s0 : Int32) (s1 : Int32) : Option (Int32) :=
  some (s1 + s0)
def f_Edge_dayIn_53 (nf : Nat) (s0 : Int32) : Option (Int32) :=
  some s0
def f_Edge_dayIn_47 (nf : Nat) (eDay : Int32) : Option (Int32) :=
  f_Edge_dayIn_53 nf (eDay - 1)
def f_Edge_dayIn_0 (nf : Nat) (eKind : Int32) (eMonth : Int32) (eWeek : Int32) (eDay : Int32) (x1 : Int64) (x3 : Int64) : Option (Int32) :=
  if eKind = (1 : Int32) then
  some eDay
  else
  (f_Cal_isLongYear nf x1).bind fun r_2 =>
    if eKind = 0 then
    if r_2 = 0 then
      f_Edge_dayIn_47 nf eDay
      else
      if eDay ≤ (59 : Int32) then
        f_Edge_dayIn_47 nf eDay
        else
        f_Edge_dayIn_53 nf eDay
    else
    (f_Cal_monthStart nf eMonth r_2).bind fun r_4 =>
      (f_Cal_monthStart nf (eMonth + 1) r_2).bind fun r_5 =>
      (f_Math_floorMod nf ((x3 + r_4.toInt64) + 4) 7).bind fun r_6 =>
      if (r_5 - r_4) ≤ ((((eDay - r_6.toInt32) + 7) - ((eDay - r_6.toInt32) + 7) / 7 * 7) + (7 * (eWeek - 1))) then
      f_Edge_dayIn_143 nf (((((eDay - r_6.toInt32) + 7) - ((eDay - r_6.toInt32) + 7) / 7 * 7) + (7 * (eWeek - 1))) - 7) r_4
      else
      f_Edge_dayIn_143 nf ((((eDay - r_6.toInt32) + 7) - ((eDay - r_6.toInt32) + 7) / 7 * 7) + (7 * (eWeek - 1))) r_4
def f_Edge_dayIn (nf : Nat) (p0 : Int64) (p1 : Int64) (eKind : Int32) (eMonth : Int32) (eWeek : Int32) (eDay : Int32) : Option (Int32) :=
  f_Edge_dayIn_0 nf eKind eMonth eWeek eDay p0 p1
section
variable {p : Program} {l : Launch} {e : Env} {R : Room} {s : State} {m : MethodId} {args : Array Value} {below : List Frame} {meth : Method} {c : Code} {Q : State → Prop} {dC : Nat → ClassId} {dI : Nat → Nat → Nat} {nf : Nat}
variable {h0 : Nat} {eKind : Int32} {eMonth : Int32} {eWeek : Int32} {eDay : Int32} {eTime : Int32} {eClock : Int32} {r0 : Int32}
set_option maxHeartbeats 400000 in
set_option maxRecDepth 100000 in
theorem k_Edge_dayIn_143 (C0 : Cx p s m meth c args R b_Edge_dayIn "ZoneFiles$Edge" 10 (some .int) 1 25) (hST : ST (fun _ => False) s s.heap) (hK : va_K (dC, dI) classes [] s) (hP : va_P (dC, dI) classes [(h0, .inr (1, [.int eKind, .int eMonth, .int eWeek, .int eDay, .int eTime, .int eClock]))] s.heap) (hE : ∀ (pc : Nat) (ls : Array Slot), decode b_Edge_dayIn pc = .ok (.ireturn, 1) → narrow .int (.int r0) = .int r0 → W p l e R s m args below meth c s.heap [] 0 0 Q (F0 m pc ls [.int r0])) {s0 : Int32} {s1 : Int32} (hf : f_Edge_dayIn_143 nf s0 s1 = some r0) {ls : Array Slot} (hl : lv_has ls 10 []) : W p l e R s m args below meth c s.heap [] 0 0 Q (F0 m 143 ls [.int s0, .int s1]) := by
  obtain ⟨hx, hb, hr, hml, hown, hts, hlocks, hRf, hRl⟩ := id C0
  obtain ⟨tms, hZms, hTms, tmg, hZmg, hTmg, hNW⟩ := id hST
  unfold f_Edge_dayIn_143 at hf
  refine lv_iadd hx hb d_Edge_dayIn_143 ?_
  have e := rs hf
  subst e
  exact hE _ _ d_Edge_dayIn_144 rfl
set_option maxHeartbeats 400000 in
set_option maxRecDepth 100000 in
theorem k_Edge_dayIn_53 (C0 : Cx p s m meth c args R b_Edge_dayIn "ZoneFiles$Edge" 10 (some .int) 1 25) (hST : ST (fun _ => False) s s.heap) (hK : va_K (dC, dI) classes [] s) (hP : va_P (dC, dI) classes [(h0, .inr (1, [.int eKind, .int eMonth, .int eWeek, .int eDay, .int eTime, .int eClock]))] s.heap) (hE : ∀ (pc : Nat) (ls : Array Slot), decode b_Edge_dayIn pc = .ok (.ireturn, 1) → narrow .int (.int r0) = .int r0 → W p l e R s m args below meth c s.heap [] 0 0 Q (F0 m pc ls [.int r0])) {s0 : Int32} (hf : f_Edge_dayIn_53 nf s0 = some r0) {ls : Array Slot} (hl : lv_has ls 10 []) : W p l e R s m args below meth c s.heap [] 0 0 Q (F0 m 53 ls [.int s0]) := by
  obtain ⟨hx, hb, hr, hml, hown, hts, hlocks, hRf, hRl⟩ := id C0
  obtain ⟨tms, hZms, hTms, tmg, hZmg, hTmg, hNW⟩ := id hST
  unfold f_Edge_dayIn_53 at hf
  have e := rs hf
  subst e
  exact hE _ _ d_Edge_dayIn_53 rfl
set_option maxHeartbeats 400000 in
set_option maxRecDepth 100000 in
theorem k_Edge_dayIn_47 (C0 : Cx p s m meth c args R b_Edge_dayIn "ZoneFiles$Edge" 10 (some .int) 1 25) (hST : ST (fun _ => False) s s.heap) (hK : va_K (dC, dI) classes [] s) (hP : va_P (dC, dI) classes [(h0, .inr (1, [.int eKind, .int eMonth, .int eWeek, .int eDay, .int eTime, .int eClock]))] s.heap) (hE : ∀ (pc : Nat) (ls : Array Slot), decode b_Edge_dayIn pc = .ok (.ireturn, 1) → narrow .int (.int r0) = .int r0 → W p l e R s m args below meth c s.heap [] 0 0 Q (F0 m pc ls [.int r0])) (hf : f_Edge_dayIn_47 nf eDay = some r0) {ls : Array Slot} (hl : lv_has ls 10 [(0, .ref h0)]) : W p l e R s m args below meth c s.heap [] 0 0 Q (F0 m 47 ls []) := by
  obtain ⟨hx, hb, hr, hml, hown, hts, hlocks, hRf, hRl⟩ := id C0
  obtain ⟨tms, hZms, hTms, tmg, hZmg, hTmg, hNW⟩ := id hST
  unfold f_Edge_dayIn_47 at hf
  refine lv_aload_n hx hb d_Edge_dayIn_47 rfl (lv_at hl 0 rfl) ?_
  refine va_get (D := (dC, dI)) (ci := 1) (v := .int eDay) (C := REdge) (T := TEdge) (N := 6) hx hb hts in_Edge hown hK hP 0 rfl rfl 3 (by decide) (hts (.fieldLink "ZoneFiles$Edge" 33 "ZoneFiles$Edge" "day" "I") m_1_80) (fun _ h9 => h9) rfl d_Edge_dayIn_48 ?_
  refine lv_iconst (v := 1) hx hb d_Edge_dayIn_51 (by decide) ?_
  refine lv_isub hx hb d_Edge_dayIn_52 ?_
  exact k_Edge_dayIn_53 C0 hST hK hP hE hf (lv_sub hl [] rfl)
set_option maxHeartbeats 400000 in
set_option maxRecDepth 100000 in
theorem k_Edge_dayIn_0 (C0 : Cx p s m meth c args R b_Edge_dayIn "ZoneFiles$Edge" 10 (some .int) 1 25) (hST : ST (fun _ => False) s s.heap) (hK : va_K (dC, dI) classes [] s) (hP : va_P (dC, dI) classes [(h0, .inr (1, [.int eKind, .int eMonth, .int eWeek, .int eDay, .int eTime, .int eClock]))] s.heap) (hE : ∀ (pc : Nat) (ls : Array Slot), decode b_Edge_dayIn pc = .ok (.ireturn, 1) → narrow .int (.int r0) = .int r0 → W p l e R s m args below meth c s.heap [] 0 0 Q (F0 m pc ls [.int r0])) {x1 : Int64} {x3 : Int64} (hf : f_Edge_dayIn_0 nf eKind eMonth eWeek eDay x1 x3 = some r0) {ls : Array Slot} (hl : lv_has ls 10 [(0, .ref h0), (1, .long x1), (3, .long x3)]) : W p l e R s m args below meth c s.heap [] 0 0 Q (F0 m 0 ls []) := by
  obtain ⟨hx, hb, hr, hml, hown, hts, hlocks, hRf, hRl⟩ := id C0
  obtain ⟨tms, hZms, hTms, tmg, hZmg, hTmg, hNW⟩ := id hST
  unfold f_Edge_dayIn_0 at hf
  refine lv_aload_n hx hb d_Edge_dayIn_0 rfl (lv_at hl 0 rfl) ?_
  refine va_get (D := (dC, dI)) (ci := 1) (v := .int eKind) (C := REdge) (T := TEdge) (N := 6) hx hb hts in_Edge hown hK hP 0 rfl rfl 0 (by decide) (hts (.fieldLink "ZoneFiles$Edge" 30 "ZoneFiles$Edge" "kind" "I") m_1_74) (fun _ h9 => h9) rfl d_Edge_dayIn_1 ?_
  refine lv_iconst (v := 1) hx hb d_Edge_dayIn_4 (by decide) ?_
  refine lv_icmp_ne (tgt := 13) hx hb d_Edge_dayIn_5 (by decide) (fun c_1 => ?_) (fun c_1 => ?_)
  · have hf := it_f c_1 hf
    refine lv_lload_n hx hb d_Edge_dayIn_13 rfl (lv_at hl 1 rfl) ?_
    obtain ⟨r_2, hc, hf⟩ := ob hf
    refine cl_S (v := (some (.int r_2))) (st1 := [.int r_2]) (va_runS (As := [.long x1]) (rest := []) ⟨hx, hb, hml, hown, hts⟩ (c_Cal_isLongYear l dC dI nf x1 hc) (va_cwS 1 hts (gdS m_4_186 m_4_187 m_1_18 m_4_188) rfl rfl rfl (by decide +kernel) ⟨Nat.le_trans (Nat.le_of_ble_eq_true rfl) hRf, Nat.le_trans (Nat.le_of_ble_eq_true rfl) hRl⟩) (RO.pre0 hK hST).sta rfl rfl hl.1 rfl (lv_room (Nat.le_of_ble_eq_true rfl)) d_Edge_dayIn_14 ⟨Nat.zero_le _, Nat.zero_le _⟩) rfl ?_
    refine lv_istore (lv' := [(5, .int r_2), (0, .ref h0), (1, .long x1), (3, .long x3)]) hx hb d_Edge_dayIn_17 hl (by decide) rfl (fun ls hl => ?_)
    refine lv_aload_n hx hb d_Edge_dayIn_19 rfl (lv_at hl 1 rfl) ?_
    refine va_get (D := (dC, dI)) (ci := 1) (v := .int eKind) (C := REdge) (T := TEdge) (N := 6) hx hb hts in_Edge hown hK hP 0 rfl rfl 0 (by decide) (hts (.fieldLink "ZoneFiles$Edge" 30 "ZoneFiles$Edge" "kind" "I") m_1_74) (fun _ h9 => h9) rfl d_Edge_dayIn_20 ?_
    refine lv_if_ne (tgt := 54) hx hb d_Edge_dayIn_23 (by decide) (fun c_3 => ?_) (fun c_3 => ?_)
    · have hf := it_f c_3 hf
      refine lv_aload_n hx hb d_Edge_dayIn_54 rfl (lv_at hl 1 rfl) ?_
      refine va_get (D := (dC, dI)) (ci := 1) (v := .int eMonth) (C := REdge) (T := TEdge) (N := 6) hx hb hts in_Edge hown hK hP 0 rfl rfl 1 (by decide) (hts (.fieldLink "ZoneFiles$Edge" 40 "ZoneFiles$Edge" "month" "I") m_1_76) (fun _ h9 => h9) rfl d_Edge_dayIn_55 ?_
      refine lv_iload hx hb d_Edge_dayIn_58 (lv_at hl 0 rfl) ?_
      obtain ⟨r_4, hc, hf⟩ := ob hf
      refine cl_S (v := (some (.int r_4))) (st1 := [.int r_4]) (va_runS (As := [.int eMonth, .int r_2]) (rest := []) ⟨hx, hb, hml, hown, hts⟩ (c_Cal_monthStart l dC dI nf eMonth r_2 hc) (va_cwS 2 hts (gdS m_4_189 m_4_190 m_1_18 m_4_191) rfl rfl rfl (by decide +kernel) ⟨Nat.le_trans (Nat.le_of_ble_eq_true rfl) hRf, Nat.le_trans (Nat.le_of_ble_eq_true rfl) hRl⟩) (RO.pre0 hK hST).sta rfl rfl hl.1 rfl (lv_room (Nat.le_of_ble_eq_true rfl)) d_Edge_dayIn_60 ⟨Nat.zero_le _, Nat.zero_le _⟩) rfl ?_
      refine lv_istore (lv' := [(6, .int r_4), (5, .int r_2), (0, .ref h0), (1, .long x1), (3, .long x3)]) hx hb d_Edge_dayIn_63 hl (by decide) rfl (fun ls hl => ?_)
      refine lv_aload_n hx hb d_Edge_dayIn_65 rfl (lv_at hl 2 rfl) ?_
      refine va_get (D := (dC, dI)) (ci := 1) (v := .int eMonth) (C := REdge) (T := TEdge) (N := 6) hx hb hts in_Edge hown hK hP 0 rfl rfl 1 (by decide) (hts (.fieldLink "ZoneFiles$Edge" 40 "ZoneFiles$Edge" "month" "I") m_1_76) (fun _ h9 => h9) rfl d_Edge_dayIn_66 ?_
      refine lv_iconst (v := 1) hx hb d_Edge_dayIn_69 (by decide) ?_
      refine lv_iadd hx hb d_Edge_dayIn_70 ?_
      refine lv_iload hx hb d_Edge_dayIn_71 (lv_at hl 1 rfl) ?_
      obtain ⟨r_5, hc, hf⟩ := ob hf
      refine cl_S (v := (some (.int r_5))) (st1 := [.int r_5]) (va_runS (As := [.int (eMonth + 1), .int r_2]) (rest := []) ⟨hx, hb, hml, hown, hts⟩ (c_Cal_monthStart l dC dI nf (eMonth + 1) r_2 hc) (va_cwS 2 hts (gdS m_4_189 m_4_190 m_1_18 m_4_191) rfl rfl rfl (by decide +kernel) ⟨Nat.le_trans (Nat.le_of_ble_eq_true rfl) hRf, Nat.le_trans (Nat.le_of_ble_eq_true rfl) hRl⟩) (RO.pre0 hK hST).sta rfl rfl hl.1 rfl (lv_room (Nat.le_of_ble_eq_true rfl)) d_Edge_dayIn_73 ⟨Nat.zero_le _, Nat.zero_le _⟩) rfl ?_
      refine lv_iload hx hb d_Edge_dayIn_76 (lv_at hl 0 rfl) ?_
      refine lv_isub hx hb d_Edge_dayIn_78 ?_
      refine lv_istore (lv' := [(7, .int (r_5 - r_4)), (6, .int r_4), (5, .int r_2), (0, .ref h0), (1, .long x1), (3, .long x3)]) hx hb d_Edge_dayIn_79 hl (by decide) rfl (fun ls hl => ?_)
      refine lv_lload_n hx hb d_Edge_dayIn_81 rfl (lv_at hl 5 rfl) ?_
      refine lv_iload hx hb d_Edge_dayIn_82 (lv_at hl 1 rfl) ?_
      refine lv_i2l hx hb d_Edge_dayIn_84 rfl ?_
      refine lv_ladd hx hb d_Edge_dayIn_85 ?_
      refine lv_ldc2 (v := 4) hx hb hown (hts (.constantLong "ZoneFiles$Edge" 47 4) m_4_194) d_Edge_dayIn_86 ?_
      refine lv_ladd hx hb d_Edge_dayIn_89 ?_
      refine lv_ldc2 (v := 7) hx hb hown (hts (.constantLong "ZoneFiles$Edge" 49 7) m_4_195) d_Edge_dayIn_90 ?_
      obtain ⟨r_6, hc, hf⟩ := ob hf
      refine cl_S (v := (some (.long r_6))) (st1 := [.long r_6]) (va_runS (As := [.long ((x3 + r_4.toInt64) + 4), .long 7]) (rest := []) ⟨hx, hb, hml, hown, hts⟩ (c_Math_floorMod l dC dI nf ((x3 + r_4.toInt64) + 4) 7 hc) (va_cwS 2 hts (gdS m_4_196 m_4_197 m_1_7 m_4_198) rfl rfl rfl (by decide +kernel) ⟨Nat.le_trans (Nat.le_of_ble_eq_true rfl) hRf, Nat.le_trans (Nat.le_of_ble_eq_true rfl) hRl⟩) (RO.pre0 hK hST).sta rfl rfl hl.1 rfl (lv_room (Nat.le_of_ble_eq_true rfl)) d_Edge_dayIn_93 ⟨Nat.zero_le _, Nat.zero_le _⟩) rfl ?_
      refine lv_l2i hx hb d_Edge_dayIn_96 rfl ?_
      refine lv_istore (lv' := [(8, .int r_6.toInt32), (7, .int (r_5 - r_4)), (6, .int r_4), (5, .int r_2), (0, .ref h0), (1, .long x1), (3, .long x3)]) hx hb d_Edge_dayIn_97 hl (by decide) rfl (fun ls hl => ?_)
      refine lv_aload_n hx hb d_Edge_dayIn_99 rfl (lv_at hl 4 rfl) ?_
      refine va_get (D := (dC, dI)) (ci := 1) (v := .int eDay) (C := REdge) (T := TEdge) (N := 6) hx hb hts in_Edge hown hK hP 0 rfl rfl 3 (by decide) (hts (.fieldLink "ZoneFiles$Edge" 33 "ZoneFiles$Edge" "day" "I") m_1_80) (fun _ h9 => h9) rfl d_Edge_dayIn_100 ?_
      refine lv_iload hx hb d_Edge_dayIn_103 (lv_at hl 0 rfl) ?_
      refine lv_isub hx hb d_Edge_dayIn_105 ?_
      refine lv_bipush (v := 7) hx hb d_Edge_dayIn_106 (by decide) ?_
      refine lv_iadd hx hb d_Edge_dayIn_108 ?_
      refine lv_bipush (v := 7) hx hb d_Edge_dayIn_109 (by decide) ?_
      refine lv_irem hx hb d_Edge_dayIn_111 (by decide) ?_
      refine lv_bipush (v := 7) hx hb d_Edge_dayIn_112 (by decide) ?_
      refine lv_aload_n hx hb d_Edge_dayIn_114 rfl (lv_at hl 4 rfl) ?_
      refine va_get (D := (dC, dI)) (ci := 1) (v := .int eWeek) (C := REdge) (T := TEdge) (N := 6) hx hb hts in_Edge hown hK hP 0 rfl rfl 2 (by decide) (hts (.fieldLink "ZoneFiles$Edge" 57 "ZoneFiles$Edge" "week" "I") m_1_78) (fun _ h9 => h9) rfl d_Edge_dayIn_115 ?_
      refine lv_iconst (v := 1) hx hb d_Edge_dayIn_118 (by decide) ?_
      refine lv_isub hx hb d_Edge_dayIn_119 ?_
      refine lv_imul hx hb d_Edge_dayIn_120 ?_
      refine lv_iadd hx hb d_Edge_dayIn_121 ?_
      refine lv_istore (lv' := [(9, .int ((((eDay - r_6.toInt32) + 7) - ((eDay - r_6.toInt32) + 7) / 7 * 7) + (7 * (eWeek - 1)))), (8, .int r_6.toInt32), (7, .int (r_5 - r_4)), (6, .int r_4), (5, .int r_2), (0, .ref h0), (1, .long x1), (3, .long x3)]) hx hb d_Edge_dayIn_122 hl (by decide) rfl (fun ls hl => ?_)
      refine lv_iload hx hb d_Edge_dayIn_124 (lv_at hl 3 rfl) ?_
      refine lv_iload hx hb d_Edge_dayIn_126 (lv_at hl 0 rfl) ?_
      refine lv_iload hx hb d_Edge_dayIn_128 (lv_at hl 2 rfl) ?_
      refine lv_icmp_ge (tgt := 138) hx hb d_Edge_dayIn_130 (by decide) (fun c_7 => ?_) (fun c_7 => ?_)
      · have hf := it_t c_7 hf
        refine lv_iload hx hb d_Edge_dayIn_138 (lv_at hl 0 rfl) ?_
        refine lv_bipush (v := 7) hx hb d_Edge_dayIn_140 (by decide) ?_
        refine lv_isub hx hb d_Edge_dayIn_142 ?_
        exact k_Edge_dayIn_143 C0 hST hK hP hE hf (lv_sub hl [] rfl)
      · have hf := it_f c_7 hf
        refine lv_iload hx hb d_Edge_dayIn_133 (lv_at hl 0 rfl) ?_
        refine lv_goto (tgt := 143) hx hb d_Edge_dayIn_135 (by decide) ?_
        exact k_Edge_dayIn_143 C0 hST hK hP hE hf (lv_sub hl [] rfl)
    · have hf := it_t c_3 hf
      refine lv_iload hx hb d_Edge_dayIn_26 (lv_at hl 0 rfl) ?_
      refine lv_if_eq (tgt := 47) hx hb d_Edge_dayIn_28 (by decide) (fun c_8 => ?_) (fun c_8 => ?_)
      · have hf := it_t c_8 hf
        exact k_Edge_dayIn_47 C0 hST hK hP hE hf (lv_sub hl [1] rfl)
      · have hf := it_f c_8 hf
        refine lv_aload_n hx hb d_Edge_dayIn_31 rfl (lv_at hl 1 rfl) ?_
        refine va_get (D := (dC, dI)) (ci := 1) (v := .int eDay) (C := REdge) (T := TEdge) (N := 6) hx hb hts in_Edge hown hK hP 0 rfl rfl 3 (by decide) (hts (.fieldLink "ZoneFiles$Edge" 33 "ZoneFiles$Edge" "day" "I") m_1_80) (fun _ h9 => h9) rfl d_Edge_dayIn_32 ?_
        refine lv_bipush (v := 59) hx hb d_Edge_dayIn_35 (by decide) ?_
        refine lv_icmp_le (tgt := 47) hx hb d_Edge_dayIn_37 (by decide) (fun c_9 => ?_) (fun c_9 => ?_)
        · have hf := it_t c_9 hf
          exact k_Edge_dayIn_47 C0 hST hK hP hE hf (lv_sub hl [1] rfl)
        · have hf := it_f c_9 hf
          refine lv_aload_n hx hb d_Edge_dayIn_40 rfl (lv_at hl 1 rfl) ?_
          refine va_get (D := (dC, dI)) (ci := 1) (v := .int eDay) (C := REdge) (T := TEdge) (N := 6) hx hb hts in_Edge hown hK hP 0 rfl rfl 3 (by decide) (hts (.fieldLink "ZoneFiles$Edge" 33 "ZoneFiles$Edge" "day" "I") m_1_80) (fun _ h9 => h9) rfl d_Edge_dayIn_41 ?_
          refine lv_goto (tgt := 53) hx hb d_Edge_dayIn_44 (by decide) ?_
          exact k_Edge_dayIn_53 C0 hST hK hP hE hf (lv_sub hl [] rfl)
  · have hf := it_t c_1 hf
    refine lv_aload_n hx hb d_Edge_dayIn_8 rfl (lv_at hl 0 rfl) ?_
    refine va_get (D := (dC, dI)) (ci := 1) (v := .int eDay) (C := REdge) (T := TEdge) (N := 6) hx hb hts in_Edge hown hK hP 0 rfl rfl 3 (by decide) (hts (.fieldLink "ZoneFiles$Edge" 33 "ZoneFiles$Edge" "day" "I") m_1_80) (fun _ h9 => h9) rfl d_Edge_dayIn_9 ?_
    have e := rs hf
    subst e
    exact hE _ _ d_Edge_dayIn_12 rfl
end
set_option maxHeartbeats 400000 in
set_option maxRecDepth 100000 in
theorem c_Edge_dayIn (l : Launch) (dC : Nat → ClassId) (dI : Nat → Nat → Nat) (h0 : Nat) (nf : Nat) (p0 : Int64) (p1 : Int64) (eKind : Int32) (eMonth : Int32) (eWeek : Int32) (eDay : Int32) (eTime : Int32) (eClock : Int32) {r0 : Int32} (hf : f_Edge_dayIn nf p0 p1 eKind eMonth eWeek eDay = some r0) : Met l y_Edge_dayIn (wd y_Edge_dayIn b_Edge_dayIn 10 (some .int)) ({ frames := 1, cells := 0, slots := 0, locals := 25 }) (RO dC dI [(h0, .inr (1, [.int eKind, .int eMonth, .int eWeek, .int eDay, .int eTime, .int eClock]))] [] [.ref h0, .long p0, .long p1]) (SV (some (.int r0))) 0 0 (fun _ => False) :=
  met_S (plainFor_of_name (by decide)) (Nat.le_of_ble_eq_true rfl) (fun p e R s m args below meth c ls C0 hST hK hP hl => by
    obtain ⟨hx, hb, hr, hml, hown, hts, hlocks, hRf, hRl⟩ := id C0
    unfold f_Edge_dayIn at hf
    exact k_Edge_dayIn_0 C0 hST hK hP (fun pc ls hd hn => W.zret hx hb hr hn (fun t ht hW => ⟨rfl, ht⟩) (fun q h => by cases h) hd) hf (lv_sub hl [0, 1, 2] rfl))
-- ZoneFiles$Edge.momentIn(J)J
def f_Edge_momentIn_0 (nf : Nat) (eKind : Int32) (eMonth : Int32) (eWeek : Int32) (eDay : Int32) (eTime : Int32) (eClock : Int32) (x1 : Int64) : Option (Int64) :=
  (f_Cal_yearStart nf x1).bind fun r_1 =>
  (f_Edge_dayIn nf x1 r_1 eKind eMonth eWeek eDay).bind fun r_2 =>
  some ((((r_1 + r_2.toInt64) * 86400) + eTime.toInt64) - eClock.toInt64)
def f_Edge_momentIn (nf : Nat) (p0 : Int64) (eKind : Int32) (eMonth : Int32) (eWeek : Int32) (eDay : Int32) (eTime : Int32) (eClock : Int32) : Option (Int64) :=
  f_Edge_momentIn_0 nf eKind eMonth eWeek eDay eTime eClock p0
section
variable {p : Program} {l : Launch} {e : Env} {R : Room} {s : State} {m : MethodId} {args : Array Value} {below : List Frame} {meth : Method} {c : Code} {Q : State → Prop} {dC : Nat → ClassId} {dI : Nat → Nat → Nat} {nf : Nat}
variable {h0 : Nat} {eKind : Int32} {eMonth : Int32} {eWeek : Int32} {eDay : Int32} {eTime : Int32} {eClock : Int32} {r0 : Int64}
set_option maxHeartbeats 400000 in
set_option maxRecDepth 100000 in
theorem k_Edge_momentIn_0 (C0 : Cx p s m meth c args R b_Edge_momentIn "ZoneFiles$Edge" 5 (some .long) 2 54) (hST : ST (fun _ => False) s s.heap) (hK : va_K (dC, dI) classes [] s) (hP : va_P (dC, dI) classes [(h0, .inr (1, [.int eKind, .int eMonth, .int eWeek, .int eDay, .int eTime, .int eClock]))] s.heap) (hE : ∀ (pc : Nat) (ls : Array Slot), decode b_Edge_momentIn pc = .ok (.lreturn, 1) → W p l e R s m args below meth c s.heap [] 0 0 Q (F0 m pc ls [.long r0])) {x1 : Int64} (hf : f_Edge_momentIn_0 nf eKind eMonth eWeek eDay eTime eClock x1 = some r0) {ls : Array Slot} (hl : lv_has ls 5 [(0, .ref h0), (1, .long x1)]) : W p l e R s m args below meth c s.heap [] 0 0 Q (F0 m 0 ls []) := by
  obtain ⟨hx, hb, hr, hml, hown, hts, hlocks, hRf, hRl⟩ := id C0
  obtain ⟨tms, hZms, hTms, tmg, hZmg, hTmg, hNW⟩ := id hST
  unfold f_Edge_momentIn_0 at hf
  refine lv_lload_n hx hb d_Edge_momentIn_0 rfl (lv_at hl 1 rfl) ?_
  obtain ⟨r_1, hc, hf⟩ := ob hf
  refine cl_S (v := (some (.long r_1))) (st1 := [.long r_1]) (va_runS (As := [.long x1]) (rest := []) ⟨hx, hb, hml, hown, hts⟩ (c_Cal_yearStart l dC dI nf x1 hc) (va_cwS 1 hts (gdS m_4_181 m_4_171 m_1_18 m_4_172) rfl rfl rfl (by decide +kernel) ⟨Nat.le_trans (Nat.le_of_ble_eq_true rfl) hRf, Nat.le_trans (Nat.le_of_ble_eq_true rfl) hRl⟩) (RO.pre0 hK hST).sta rfl rfl hl.1 rfl (lv_room (Nat.le_of_ble_eq_true rfl)) d_Edge_momentIn_1 ⟨Nat.zero_le _, Nat.zero_le _⟩) rfl ?_
  refine lv_lstore_n (lv' := [(3, .long r_1), (0, .ref h0), (1, .long x1)]) hx hb d_Edge_momentIn_4 rfl hl (by decide) rfl (fun ls hl => ?_)
  refine lv_lload_n hx hb d_Edge_momentIn_5 rfl (lv_at hl 0 rfl) ?_
  refine lv_aload_n hx hb d_Edge_momentIn_6 rfl (lv_at hl 1 rfl) ?_
  refine lv_lload_n hx hb d_Edge_momentIn_7 rfl (lv_at hl 2 rfl) ?_
  refine lv_lload_n hx hb d_Edge_momentIn_8 rfl (lv_at hl 0 rfl) ?_
  obtain ⟨r_2, hc, hf⟩ := ob hf
  refine cl_S (v := (some (.int r_2))) (st1 := [.int r_2, .long r_1]) (va_runV (As := [.long x1, .long r_1]) (rest := [.long r_1]) ⟨hx, hb, hml, hown, hts⟩ (c_Edge_dayIn l dC dI h0 nf x1 r_1 eKind eMonth eWeek eDay eTime eClock hc) (cwV 2 hts (gdV m_4_182 m_4_184 msel_40 m_1_5 m_4_185) rfl rfl rfl (by decide +kernel) ⟨Nat.le_trans (Nat.le_of_ble_eq_true rfl) hRf, Nat.le_trans (Nat.le_of_ble_eq_true rfl) hRl⟩) ((RO.pre (hP.sub (ws' := [(h0, .inr (1, [.int eKind, .int eMonth, .int eWeek, .int eDay, .int eTime, .int eClock]))]) [0] rfl) (hK.sub (tys' := []) [] rfl) hST).vir (va_recv (hK.sub (tys' := []) [] rfl) (hP.sub (ws' := [(h0, .inr (1, [.int eKind, .int eMonth, .int eWeek, .int eDay, .int eTime, .int eClock]))]) [0] rfl) (ci := 1) (q0 := 0) rfl rfl)) rfl rfl hl.1 rfl (lv_room (Nat.le_of_ble_eq_true rfl)) d_Edge_momentIn_9 ⟨Nat.zero_le _, Nat.zero_le _⟩) rfl ?_
  refine lv_i2l hx hb d_Edge_momentIn_12 rfl ?_
  refine lv_ladd hx hb d_Edge_momentIn_13 ?_
  refine lv_ldc2 (v := 86400) hx hb hown (hts (.constantLong "ZoneFiles$Edge" 21 86400) m_4_158) d_Edge_momentIn_14 ?_
  refine lv_lmul hx hb d_Edge_momentIn_17 ?_
  refine lv_aload_n hx hb d_Edge_momentIn_18 rfl (lv_at hl 1 rfl) ?_
  refine va_get (D := (dC, dI)) (ci := 1) (v := .int eTime) (C := REdge) (T := TEdge) (N := 6) hx hb hts in_Edge hown hK hP 0 rfl rfl 4 (by decide) (hts (.fieldLink "ZoneFiles$Edge" 23 "ZoneFiles$Edge" "timeOfDay" "I") m_1_82) (fun _ h9 => h9) rfl d_Edge_momentIn_19 ?_
  refine lv_i2l hx hb d_Edge_momentIn_22 rfl ?_
  refine lv_ladd hx hb d_Edge_momentIn_23 ?_
  refine lv_aload_n hx hb d_Edge_momentIn_24 rfl (lv_at hl 1 rfl) ?_
  refine va_get (D := (dC, dI)) (ci := 1) (v := .int eClock) (C := REdge) (T := TEdge) (N := 6) hx hb hts in_Edge hown hK hP 0 rfl rfl 5 (by decide) (hts (.fieldLink "ZoneFiles$Edge" 27 "ZoneFiles$Edge" "clockOffset" "I") m_1_84) (fun _ h9 => h9) rfl d_Edge_momentIn_25 ?_
  refine lv_i2l hx hb d_Edge_momentIn_28 rfl ?_
  refine lv_lsub hx hb d_Edge_momentIn_29 ?_
  have e := rs hf
  subst e
  exact hE _ _ d_Edge_momentIn_30
end
set_option maxHeartbeats 400000 in
set_option maxRecDepth 100000 in
theorem c_Edge_momentIn (l : Launch) (dC : Nat → ClassId) (dI : Nat → Nat → Nat) (h0 : Nat) (nf : Nat) (p0 : Int64) (eKind : Int32) (eMonth : Int32) (eWeek : Int32) (eDay : Int32) (eTime : Int32) (eClock : Int32) {r0 : Int64} (hf : f_Edge_momentIn nf p0 eKind eMonth eWeek eDay eTime eClock = some r0) : Met l y_Edge_momentIn (wd y_Edge_momentIn b_Edge_momentIn 5 (some .long)) ({ frames := 2, cells := 0, slots := 0, locals := 54 }) (RO dC dI [(h0, .inr (1, [.int eKind, .int eMonth, .int eWeek, .int eDay, .int eTime, .int eClock]))] [] [.ref h0, .long p0]) (SV (some (.long r0))) 0 0 (fun _ => False) :=
  met_S (plainFor_of_name (by decide)) (Nat.le_of_ble_eq_true rfl) (fun p e R s m args below meth c ls C0 hST hK hP hl => by
    obtain ⟨hx, hb, hr, hml, hown, hts, hlocks, hRf, hRl⟩ := id C0
    unfold f_Edge_momentIn at hf
    exact k_Edge_momentIn_0 C0 hST hK hP (fun pc ls hd => W.lret hx hb hr (fun t ht hW => ⟨rfl, ht⟩) (fun q h => by cases h) hd) hf (lv_sub hl [0, 1] rfl))
-- ZoneFiles$Edge.lastYear(J)J
def f_Edge_lastYear_42 (nf : Nat) (x3 : Int64) : Option (Int64) :=
  some x3
def f_Edge_lastYear_16 (nf : Nat) (eKind : Int32) (eMonth : Int32) (eWeek : Int32) (eDay : Int32) (eTime : Int32) (eClock : Int32) : Nat → Int32 → Int64 → Int64 → Option (Int64)
  | 0, _, _, _ => none
  | n + 1, x5, x3, x1 =>
    if (3 : Int32) ≤ x5 then
    f_Edge_lastYear_42 nf x3
    else
    (f_Edge_momentIn nf x3 eKind eMonth eWeek eDay eTime eClock).bind fun r_4 =>
      if r_4 ≤ x1 then
      f_Edge_lastYear_42 nf x3
      else
      f_Edge_lastYear_16 nf eKind eMonth eWeek eDay eTime eClock n (x5 + 1) (x3 - 1) x1
def f_Edge_lastYear_0 (nf : Nat) (eKind : Int32) (eMonth : Int32) (eWeek : Int32) (eDay : Int32) (eTime : Int32) (eClock : Int32) (x1 : Int64) : Option (Int64) :=
  (f_Math_floorDiv nf x1 86400).bind fun r_1 =>
  (f_Cal_yearOf nf r_1).bind fun r_2 =>
  f_Edge_lastYear_16 nf eKind eMonth eWeek eDay eTime eClock nf 0 (r_2 + 1) x1
def f_Edge_lastYear (nf : Nat) (p0 : Int64) (eKind : Int32) (eMonth : Int32) (eWeek : Int32) (eDay : Int32) (eTime : Int32) (eClock : Int32) : Option (Int64) :=
  f_Edge_lastYear_0 nf eKind eMonth eWeek eDay eTime eClock p0
section
variable {p : Program} {l : Launch} {e : Env} {R : Room} {s : State} {m : MethodId} {args : Array Value} {below : List Frame} {meth : Method} {c : Code} {Q : State → Prop} {dC : Nat → ClassId} {dI : Nat → Nat → Nat} {nf : Nat}
variable {h0 : Nat} {eKind : Int32} {eMonth : Int32} {eWeek : Int32} {eDay : Int32} {eTime : Int32} {eClock : Int32} {r0 : Int64}
set_option maxHeartbeats 400000 in
set_option maxRecDepth 100000 in
theorem k_Edge_lastYear_42 (C0 : Cx p s m meth c args R b_Edge_lastYear "ZoneFiles$Edge" 6 (some .long) 3 78) (hST : ST (fun _ => False) s s.heap) (hK : va_K (dC, dI) classes [] s) (hP : va_P (dC, dI) classes [(h0, .inr (1, [.int eKind, .int eMonth, .int eWeek, .int eDay, .int eTime, .int eClock]))] s.heap) (hE : ∀ (pc : Nat) (ls : Array Slot), decode b_Edge_lastYear pc = .ok (.lreturn, 1) → W p l e R s m args below meth c s.heap [] 0 0 Q (F0 m pc ls [.long r0])) {x3 : Int64} (hf : f_Edge_lastYear_42 nf x3 = some r0) {ls : Array Slot} (hl : lv_has ls 6 [(3, .long x3)]) : W p l e R s m args below meth c s.heap [] 0 0 Q (F0 m 42 ls []) := by
  obtain ⟨hx, hb, hr, hml, hown, hts, hlocks, hRf, hRl⟩ := id C0
  obtain ⟨tms, hZms, hTms, tmg, hZmg, hTmg, hNW⟩ := id hST
  unfold f_Edge_lastYear_42 at hf
  refine lv_lload_n hx hb d_Edge_lastYear_42 rfl (lv_at hl 0 rfl) ?_
  have e := rs hf
  subst e
  exact hE _ _ d_Edge_lastYear_43
set_option maxHeartbeats 400000 in
set_option maxRecDepth 100000 in
theorem k_Edge_lastYear_16 (C0 : Cx p s m meth c args R b_Edge_lastYear "ZoneFiles$Edge" 6 (some .long) 3 78) (hST : ST (fun _ => False) s s.heap) (hK : va_K (dC, dI) classes [] s) (hP : va_P (dC, dI) classes [(h0, .inr (1, [.int eKind, .int eMonth, .int eWeek, .int eDay, .int eTime, .int eClock]))] s.heap) (hE : ∀ (pc : Nat) (ls : Array Slot), decode b_Edge_lastYear pc = .ok (.lreturn, 1) → W p l e R s m args below meth c s.heap [] 0 0 Q (F0 m pc ls [.long r0])) : ∀ (n : Nat) {x5 : Int32} {x3 : Int64} {x1 : Int64}, f_Edge_lastYear_16 nf eKind eMonth eWeek eDay eTime eClock n x5 x3 x1 = some r0 → ∀ {ls : Array Slot}, lv_has ls 6 [(5, .int x5), (3, .long x3), (0, .ref h0), (1, .long x1)] → W p l e R s m args below meth c s.heap [] 0 0 Q (F0 m 16 ls []) := by
  obtain ⟨hx, hb, hr, hml, hown, hts, hlocks, hRf, hRl⟩ := id C0
  obtain ⟨tms, hZms, hTms, tmg, hZmg, hTmg, hNW⟩ := id hST
  intro n
  induction n with
  | zero =>
    intro x5 x3 x1 hf
    exact absurd hf (by simp [f_Edge_lastYear_16])
  | succ n ih =>
    intro x5 x3 x1 hf ls hl
    unfold f_Edge_lastYear_16 at hf
    refine lv_iload hx hb d_Edge_lastYear_16 (lv_at hl 0 rfl) ?_
    refine lv_iconst (v := 3) hx hb d_Edge_lastYear_18 (by decide) ?_
    refine lv_icmp_ge (tgt := 42) hx hb d_Edge_lastYear_19 (by decide) (fun c_3 => ?_) (fun c_3 => ?_)
    · have hf := it_t c_3 hf
      exact k_Edge_lastYear_42 C0 hST hK hP hE hf (lv_sub hl [1] rfl)
    · have hf := it_f c_3 hf
      refine lv_aload_n hx hb d_Edge_lastYear_22 rfl (lv_at hl 2 rfl) ?_
      refine lv_lload_n hx hb d_Edge_lastYear_23 rfl (lv_at hl 1 rfl) ?_
      obtain ⟨r_4, hc, hf⟩ := ob hf
      refine cl_S (v := (some (.long r_4))) (st1 := [.long r_4]) (va_runV (As := [.long x3]) (rest := []) ⟨hx, hb, hml, hown, hts⟩ (c_Edge_momentIn l dC dI h0 nf x3 eKind eMonth eWeek eDay eTime eClock hc) (cwV 1 hts (gdV m_4_177 m_4_178 m_4_179 m_1_5 m_4_180) rfl rfl rfl (by decide +kernel) ⟨Nat.le_trans (Nat.le_of_ble_eq_true rfl) hRf, Nat.le_trans (Nat.le_of_ble_eq_true rfl) hRl⟩) ((RO.pre (hP.sub (ws' := [(h0, .inr (1, [.int eKind, .int eMonth, .int eWeek, .int eDay, .int eTime, .int eClock]))]) [0] rfl) (hK.sub (tys' := []) [] rfl) hST).vir (va_recv (hK.sub (tys' := []) [] rfl) (hP.sub (ws' := [(h0, .inr (1, [.int eKind, .int eMonth, .int eWeek, .int eDay, .int eTime, .int eClock]))]) [0] rfl) (ci := 1) (q0 := 0) rfl rfl)) rfl rfl hl.1 rfl (lv_room (Nat.le_of_ble_eq_true rfl)) d_Edge_lastYear_24 ⟨Nat.zero_le _, Nat.zero_le _⟩) rfl ?_
      refine lv_lload_n hx hb d_Edge_lastYear_27 rfl (lv_at hl 3 rfl) ?_
      refine lc_le (tgt := 42) hx hb d_Edge_lastYear_28 d_Edge_lastYear_29 (by decide) (fun c_5 => ?_) (fun c_5 => ?_)
      · have hf := it_t c_5 hf
        exact k_Edge_lastYear_42 C0 hST hK hP hE hf (lv_sub hl [1] rfl)
      · have hf := it_f c_5 hf
        refine lv_lload_n hx hb d_Edge_lastYear_32 rfl (lv_at hl 1 rfl) ?_
        refine lv_lconst (v := 1) hx hb d_Edge_lastYear_33 (by decide) ?_
        refine lv_lsub hx hb d_Edge_lastYear_34 ?_
        refine lv_lstore_n (lv' := [(3, .long (x3 - 1)), (5, .int x5), (0, .ref h0), (1, .long x1)]) hx hb d_Edge_lastYear_35 rfl hl (by decide) rfl (fun ls hl => ?_)
        refine lv_iinc (v := x5 + 1) (lv' := [(5, .int (x5 + 1)), (3, .long (x3 - 1)), (0, .ref h0), (1, .long x1)]) hx hb d_Edge_lastYear_36 hl (k := 1) rfl rfl (by decide) rfl (fun ls hl => ?_)
        refine lv_goto (tgt := 16) hx hb d_Edge_lastYear_39 (by decide) ?_
        exact ih hf (lv_sub hl [0, 1, 2, 3] rfl)
set_option maxHeartbeats 400000 in
set_option maxRecDepth 100000 in
theorem k_Edge_lastYear_0 (C0 : Cx p s m meth c args R b_Edge_lastYear "ZoneFiles$Edge" 6 (some .long) 3 78) (hST : ST (fun _ => False) s s.heap) (hK : va_K (dC, dI) classes [] s) (hP : va_P (dC, dI) classes [(h0, .inr (1, [.int eKind, .int eMonth, .int eWeek, .int eDay, .int eTime, .int eClock]))] s.heap) (hE : ∀ (pc : Nat) (ls : Array Slot), decode b_Edge_lastYear pc = .ok (.lreturn, 1) → W p l e R s m args below meth c s.heap [] 0 0 Q (F0 m pc ls [.long r0])) {x1 : Int64} (hf : f_Edge_lastYear_0 nf eKind eMonth eWeek eDay eTime eClock x1 = some r0) {ls : Array Slot} (hl : lv_has ls 6 [(0, .ref h0), (1, .long x1)]) : W p l e R s m args below meth c s.heap [] 0 0 Q (F0 m 0 ls []) := by
  obtain ⟨hx, hb, hr, hml, hown, hts, hlocks, hRf, hRl⟩ := id C0
  obtain ⟨tms, hZms, hTms, tmg, hZmg, hTmg, hNW⟩ := id hST
  unfold f_Edge_lastYear_0 at hf
  refine lv_lload_n hx hb d_Edge_lastYear_0 rfl (lv_at hl 1 rfl) ?_
  refine lv_ldc2 (v := 86400) hx hb hown (hts (.constantLong "ZoneFiles$Edge" 21 86400) m_4_158) d_Edge_lastYear_1 ?_
  obtain ⟨r_1, hc, hf⟩ := ob hf
  refine cl_S (v := (some (.long r_1))) (st1 := [.long r_1]) (va_runS (As := [.long x1, .long 86400]) (rest := []) ⟨hx, hb, hml, hown, hts⟩ (c_Math_floorDiv l dC dI nf x1 86400 hc) (va_cwS 2 hts (gdS m_4_159 m_4_160 m_1_7 m_4_161) rfl rfl rfl (by decide +kernel) ⟨Nat.le_trans (Nat.le_of_ble_eq_true rfl) hRf, Nat.le_trans (Nat.le_of_ble_eq_true rfl) hRl⟩) (RO.pre0 hK hST).sta rfl rfl hl.1 rfl (lv_room (Nat.le_of_ble_eq_true rfl)) d_Edge_lastYear_4 ⟨Nat.zero_le _, Nat.zero_le _⟩) rfl ?_
  obtain ⟨r_2, hc, hf⟩ := ob hf
  refine cl_S (v := (some (.long r_2))) (st1 := [.long r_2]) (va_runS (As := [.long r_1]) (rest := []) ⟨hx, hb, hml, hown, hts⟩ (c_Cal_yearOf l dC dI nf r_1 hc) (va_cwS 1 hts (gdS m_4_162 m_4_163 m_1_18 m_4_164) rfl rfl rfl (by decide +kernel) ⟨Nat.le_trans (Nat.le_of_ble_eq_true rfl) hRf, Nat.le_trans (Nat.le_of_ble_eq_true rfl) hRl⟩) (RO.pre0 hK hST).sta rfl rfl hl.1 rfl (lv_room (Nat.le_of_ble_eq_true rfl)) d_Edge_lastYear_7 ⟨Nat.zero_le _, Nat.zero_le _⟩) rfl ?_
  refine lv_lconst (v := 1) hx hb d_Edge_lastYear_10 (by decide) ?_
  refine lv_ladd hx hb d_Edge_lastYear_11 ?_
  refine lv_lstore_n (lv' := [(3, .long (r_2 + 1)), (0, .ref h0), (1, .long x1)]) hx hb d_Edge_lastYear_12 rfl hl (by decide) rfl (fun ls hl => ?_)
  refine lv_iconst (v := 0) hx hb d_Edge_lastYear_13 (by decide) ?_
  refine lv_istore (lv' := [(5, .int 0), (3, .long (r_2 + 1)), (0, .ref h0), (1, .long x1)]) hx hb d_Edge_lastYear_14 hl (by decide) rfl (fun ls hl => ?_)
  exact k_Edge_lastYear_16 C0 hST hK hP hE nf hf (lv_sub hl [0, 1, 2, 3] rfl)
end
set_option maxHeartbeats 400000 in
set_option maxRecDepth 100000 in
theorem c_Edge_lastYear (l : Launch) (dC : Nat → ClassId) (dI : Nat → Nat → Nat) (h0 : Nat) (nf : Nat) (p0 : Int64) (eKind : Int32) (eMonth : Int32) (eWeek : Int32) (eDay : Int32) (eTime : Int32) (eClock : Int32) {r0 : Int64} (hf : f_Edge_lastYear nf p0 eKind eMonth eWeek eDay eTime eClock = some r0) : Met l y_Edge_lastYear (wd y_Edge_lastYear b_Edge_lastYear 6 (some .long)) ({ frames := 3, cells := 0, slots := 0, locals := 78 }) (RO dC dI [(h0, .inr (1, [.int eKind, .int eMonth, .int eWeek, .int eDay, .int eTime, .int eClock]))] [] [.ref h0, .long p0]) (SV (some (.long r0))) 0 0 (fun _ => False) :=
  met_S (plainFor_of_name (by decide)) (Nat.le_of_ble_eq_true rfl) (fun p e R s m args below meth c ls C0 hST hK hP hl => by
    obtain ⟨hx, hb, hr, hml, hown, hts, hlocks, hRf, hRl⟩ := id C0
    unfold f_Edge_lastYear at hf
    exact k_Edge_lastYear_0 C0 hST hK hP (fun pc ls hd => W.lret hx hb hr (fun t ht hW => ⟨rfl, ht⟩) (fun q h => by cases h) hd) hf (lv_sub hl [0, 1] rfl))
