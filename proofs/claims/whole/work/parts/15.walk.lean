theorem m_1_29 : Cond.instanceMethod ⟨"java/lang/Object", "<init>", "()V"⟩ ∈ T0 := tb_1 29 rfl rfl
theorem m_1_30 : Cond.code ⟨"java/lang/Object", "<init>", "()V"⟩ object_method_1_code 1 none ∈ T0 := tb_1 30 rfl rfl
theorem m_1_106 : Cond.fieldLink "ZoneFiles$EdgeWalk" 13 "ZoneFiles$Rule" "begin" "LZoneFiles$Edge;" ∈ T0 := tb_1 106 rfl rfl
theorem m_1_109 : Cond.fieldLink "ZoneFiles$EdgeWalk" 29 "ZoneFiles$Rule" "end" "LZoneFiles$Edge;" ∈ T0 := tb_1 109 rfl rfl
theorem m_4_155 : Cond.instanceMethod ⟨"ZoneFiles$Edge", "lastYear", "(J)J"⟩ ∈ T0 := tb_4 155 rfl rfl
theorem m_4_156 : Cond.selects "ZoneFiles$Edge" ⟨"ZoneFiles$Edge", "lastYear", "(J)J"⟩ ⟨"ZoneFiles$Edge", "lastYear", "(J)J"⟩ ∈ T0 := tb_4 156 rfl rfl
theorem m_4_157 : Cond.code ⟨"ZoneFiles$Edge", "lastYear", "(J)J"⟩ prog_4_method_4_code 6 (some .long) ∈ T0 := tb_4 157 rfl rfl
theorem m_5_148 : Cond.static ⟨"java/lang/Math", "max", "(JJ)J"⟩ ∈ T0 := tb_5 148 rfl rfl
theorem m_5_149 : Cond.code ⟨"java/lang/Math", "max", "(JJ)J"⟩ prog_20_method_66_code 4 (some .long) ∈ T0 := tb_5 149 rfl rfl
theorem m_5_160 : Cond.methodLink "ZoneFiles$EdgeWalk" 1 ⟨"java/lang/Object", "<init>", "()V"⟩ ∈ T0 := tb_5 160 rfl rfl
theorem m_5_161 : Cond.methodLink "ZoneFiles$EdgeWalk" 19 ⟨"ZoneFiles$Edge", "lastYear", "(J)J"⟩ ∈ T0 := tb_5 161 rfl rfl
theorem m_5_162 : Cond.methodLink "ZoneFiles$EdgeWalk" 35 ⟨"ZoneFiles$Edge", "momentIn", "(J)J"⟩ ∈ T0 := tb_5 162 rfl rfl
theorem m_5_163 : Cond.fieldLink "ZoneFiles$EdgeWalk" 7 "ZoneFiles$EdgeWalk" "rule" "LZoneFiles$Rule;" ∈ T0 := tb_5 163 rfl rfl
theorem m_5_164 : Cond.fieldLink "ZoneFiles$EdgeWalk" 25 "ZoneFiles$EdgeWalk" "beginYear" "J" ∈ T0 := tb_5 164 rfl rfl
theorem m_5_165 : Cond.fieldLink "ZoneFiles$EdgeWalk" 32 "ZoneFiles$EdgeWalk" "endYear" "J" ∈ T0 := tb_5 165 rfl rfl
theorem m_5_166 : Cond.fieldLink "ZoneFiles$EdgeWalk" 38 "ZoneFiles$EdgeWalk" "begin" "J" ∈ T0 := tb_5 166 rfl rfl
theorem m_5_167 : Cond.fieldLink "ZoneFiles$EdgeWalk" 40 "ZoneFiles$EdgeWalk" "end" "J" ∈ T0 := tb_5 167 rfl rfl
theorem m_5_191 : Cond.methodLink "ZoneFiles$EdgeWalk" 42 ⟨"java/lang/Math", "max", "(JJ)J"⟩ ∈ T0 := tb_5 191 rfl rfl
abbrev b_By_putAll : ByteArray := prog_2_method_4_code
def y_By_putAll : MethodName := ⟨"ZoneFiles$Bytes", "putAll", "(LZoneFiles$Bytes;II)V"⟩
theorem d_By_putAll_0 : decode b_By_putAll 0 = .ok (.iload_n 2, 1) := by decide +kernel
theorem d_By_putAll_1 : decode b_By_putAll 1 = .ok (.istore 4, 2) := by decide +kernel
theorem d_By_putAll_3 : decode b_By_putAll 3 = .ok (.iload 4, 2) := by decide +kernel
theorem d_By_putAll_5 : decode b_By_putAll 5 = .ok (.iload_n 3, 1) := by decide +kernel
theorem d_By_putAll_6 : decode b_By_putAll 6 = .ok (.if_icmp .ge 19, 3) := by decide +kernel
theorem d_By_putAll_9 : decode b_By_putAll 9 = .ok (.aload_n 0, 1) := by decide +kernel
theorem d_By_putAll_10 : decode b_By_putAll 10 = .ok (.aload_n 1, 1) := by decide +kernel
theorem d_By_putAll_11 : decode b_By_putAll 11 = .ok (.iload 4, 2) := by decide +kernel
theorem d_By_putAll_13 : decode b_By_putAll 13 = .ok (.invokevirtual 23, 3) := by decide +kernel
theorem d_By_putAll_16 : decode b_By_putAll 16 = .ok (.invokevirtual 27, 3) := by decide +kernel
theorem d_By_putAll_19 : decode b_By_putAll 19 = .ok (.iinc 4 1, 3) := by decide +kernel
theorem d_By_putAll_22 : decode b_By_putAll 22 = .ok (.goto (-19), 3) := by decide +kernel
theorem d_By_putAll_25 : decode b_By_putAll 25 = .ok (.return_, 1) := by decide +kernel
abbrev b_Walk_init : ByteArray := prog_5_method_1_code
def y_Walk_init : MethodName := ⟨"ZoneFiles$EdgeWalk", "<init>", "(LZoneFiles$Rule;J)V"⟩
theorem d_Walk_init_0 : decode b_Walk_init 0 = .ok (.aload_n 0, 1) := by decide +kernel
theorem d_Walk_init_1 : decode b_Walk_init 1 = .ok (.invokespecial 1, 3) := by decide +kernel
theorem d_Walk_init_4 : decode b_Walk_init 4 = .ok (.aload_n 0, 1) := by decide +kernel
theorem d_Walk_init_5 : decode b_Walk_init 5 = .ok (.aload_n 1, 1) := by decide +kernel
theorem d_Walk_init_6 : decode b_Walk_init 6 = .ok (.putfield 7, 3) := by decide +kernel
theorem d_Walk_init_9 : decode b_Walk_init 9 = .ok (.aload_n 0, 1) := by decide +kernel
theorem d_Walk_init_10 : decode b_Walk_init 10 = .ok (.aload_n 1, 1) := by decide +kernel
theorem d_Walk_init_11 : decode b_Walk_init 11 = .ok (.getfield 13, 3) := by decide +kernel
theorem d_Walk_init_14 : decode b_Walk_init 14 = .ok (.lload_n 2, 1) := by decide +kernel
theorem d_Walk_init_15 : decode b_Walk_init 15 = .ok (.invokevirtual 19, 3) := by decide +kernel
theorem d_Walk_init_18 : decode b_Walk_init 18 = .ok (.putfield 25, 3) := by decide +kernel
theorem d_Walk_init_21 : decode b_Walk_init 21 = .ok (.aload_n 0, 1) := by decide +kernel
theorem d_Walk_init_22 : decode b_Walk_init 22 = .ok (.aload_n 1, 1) := by decide +kernel
theorem d_Walk_init_23 : decode b_Walk_init 23 = .ok (.getfield 29, 3) := by decide +kernel
theorem d_Walk_init_26 : decode b_Walk_init 26 = .ok (.lload_n 2, 1) := by decide +kernel
theorem d_Walk_init_27 : decode b_Walk_init 27 = .ok (.invokevirtual 19, 3) := by decide +kernel
theorem d_Walk_init_30 : decode b_Walk_init 30 = .ok (.putfield 32, 3) := by decide +kernel
theorem d_Walk_init_33 : decode b_Walk_init 33 = .ok (.aload_n 0, 1) := by decide +kernel
theorem d_Walk_init_34 : decode b_Walk_init 34 = .ok (.aload_n 1, 1) := by decide +kernel
theorem d_Walk_init_35 : decode b_Walk_init 35 = .ok (.getfield 13, 3) := by decide +kernel
theorem d_Walk_init_38 : decode b_Walk_init 38 = .ok (.aload_n 0, 1) := by decide +kernel
theorem d_Walk_init_39 : decode b_Walk_init 39 = .ok (.getfield 25, 3) := by decide +kernel
theorem d_Walk_init_42 : decode b_Walk_init 42 = .ok (.invokevirtual 35, 3) := by decide +kernel
theorem d_Walk_init_45 : decode b_Walk_init 45 = .ok (.putfield 38, 3) := by decide +kernel
theorem d_Walk_init_48 : decode b_Walk_init 48 = .ok (.aload_n 0, 1) := by decide +kernel
theorem d_Walk_init_49 : decode b_Walk_init 49 = .ok (.aload_n 1, 1) := by decide +kernel
theorem d_Walk_init_50 : decode b_Walk_init 50 = .ok (.getfield 29, 3) := by decide +kernel
theorem d_Walk_init_53 : decode b_Walk_init 53 = .ok (.aload_n 0, 1) := by decide +kernel
theorem d_Walk_init_54 : decode b_Walk_init 54 = .ok (.getfield 32, 3) := by decide +kernel
theorem d_Walk_init_57 : decode b_Walk_init 57 = .ok (.invokevirtual 35, 3) := by decide +kernel
theorem d_Walk_init_60 : decode b_Walk_init 60 = .ok (.putfield 40, 3) := by decide +kernel
theorem d_Walk_init_63 : decode b_Walk_init 63 = .ok (.return_, 1) := by decide +kernel
abbrev b_Walk_isSummer : ByteArray := prog_5_method_2_code
def y_Walk_isSummer : MethodName := ⟨"ZoneFiles$EdgeWalk", "isSummer", "()Z"⟩
theorem d_Walk_isSummer_0 : decode b_Walk_isSummer 0 = .ok (.aload_n 0, 1) := by decide +kernel
theorem d_Walk_isSummer_1 : decode b_Walk_isSummer 1 = .ok (.getfield 38, 3) := by decide +kernel
theorem d_Walk_isSummer_4 : decode b_Walk_isSummer 4 = .ok (.aload_n 0, 1) := by decide +kernel
theorem d_Walk_isSummer_5 : decode b_Walk_isSummer 5 = .ok (.getfield 40, 3) := by decide +kernel
theorem d_Walk_isSummer_8 : decode b_Walk_isSummer 8 = .ok (.lcmp, 1) := by decide +kernel
theorem d_Walk_isSummer_9 : decode b_Walk_isSummer 9 = .ok (.ifCond .lt 7, 3) := by decide +kernel
theorem d_Walk_isSummer_12 : decode b_Walk_isSummer 12 = .ok (.iconst 1, 1) := by decide +kernel
theorem d_Walk_isSummer_13 : decode b_Walk_isSummer 13 = .ok (.goto 4, 3) := by decide +kernel
theorem d_Walk_isSummer_16 : decode b_Walk_isSummer 16 = .ok (.iconst 0, 1) := by decide +kernel
theorem d_Walk_isSummer_17 : decode b_Walk_isSummer 17 = .ok (.ireturn, 1) := by decide +kernel
abbrev b_Walk_moment : ByteArray := prog_5_method_3_code
def y_Walk_moment : MethodName := ⟨"ZoneFiles$EdgeWalk", "moment", "()J"⟩
theorem d_Walk_moment_0 : decode b_Walk_moment 0 = .ok (.aload_n 0, 1) := by decide +kernel
theorem d_Walk_moment_1 : decode b_Walk_moment 1 = .ok (.getfield 38, 3) := by decide +kernel
theorem d_Walk_moment_4 : decode b_Walk_moment 4 = .ok (.aload_n 0, 1) := by decide +kernel
theorem d_Walk_moment_5 : decode b_Walk_moment 5 = .ok (.getfield 40, 3) := by decide +kernel
theorem d_Walk_moment_8 : decode b_Walk_moment 8 = .ok (.invokestatic 42, 3) := by decide +kernel
theorem d_Walk_moment_11 : decode b_Walk_moment 11 = .ok (.lreturn, 1) := by decide +kernel
abbrev b_Walk_goForward : ByteArray := prog_5_method_4_code
def y_Walk_goForward : MethodName := ⟨"ZoneFiles$EdgeWalk", "goForward", "()V"⟩
theorem d_Walk_goForward_0 : decode b_Walk_goForward 0 = .ok (.aload_n 0, 1) := by decide +kernel
theorem d_Walk_goForward_1 : decode b_Walk_goForward 1 = .ok (.getfield 7, 3) := by decide +kernel
theorem d_Walk_goForward_4 : decode b_Walk_goForward 4 = .ok (.getfield 13, 3) := by decide +kernel
theorem d_Walk_goForward_7 : decode b_Walk_goForward 7 = .ok (.aload_n 0, 1) := by decide +kernel
theorem d_Walk_goForward_8 : decode b_Walk_goForward 8 = .ok (.getfield 25, 3) := by decide +kernel
theorem d_Walk_goForward_11 : decode b_Walk_goForward 11 = .ok (.lconst 1, 1) := by decide +kernel
theorem d_Walk_goForward_12 : decode b_Walk_goForward 12 = .ok (.ladd, 1) := by decide +kernel
theorem d_Walk_goForward_13 : decode b_Walk_goForward 13 = .ok (.invokevirtual 35, 3) := by decide +kernel
theorem d_Walk_goForward_16 : decode b_Walk_goForward 16 = .ok (.lstore_n 1, 1) := by decide +kernel
theorem d_Walk_goForward_17 : decode b_Walk_goForward 17 = .ok (.aload_n 0, 1) := by decide +kernel
theorem d_Walk_goForward_18 : decode b_Walk_goForward 18 = .ok (.getfield 7, 3) := by decide +kernel
theorem d_Walk_goForward_21 : decode b_Walk_goForward 21 = .ok (.getfield 29, 3) := by decide +kernel
theorem d_Walk_goForward_24 : decode b_Walk_goForward 24 = .ok (.aload_n 0, 1) := by decide +kernel
theorem d_Walk_goForward_25 : decode b_Walk_goForward 25 = .ok (.getfield 32, 3) := by decide +kernel
theorem d_Walk_goForward_28 : decode b_Walk_goForward 28 = .ok (.lconst 1, 1) := by decide +kernel
theorem d_Walk_goForward_29 : decode b_Walk_goForward 29 = .ok (.ladd, 1) := by decide +kernel
theorem d_Walk_goForward_30 : decode b_Walk_goForward 30 = .ok (.invokevirtual 35, 3) := by decide +kernel
theorem d_Walk_goForward_33 : decode b_Walk_goForward 33 = .ok (.lstore_n 3, 1) := by decide +kernel
theorem d_Walk_goForward_34 : decode b_Walk_goForward 34 = .ok (.lload_n 1, 1) := by decide +kernel
theorem d_Walk_goForward_35 : decode b_Walk_goForward 35 = .ok (.lload_n 3, 1) := by decide +kernel
theorem d_Walk_goForward_36 : decode b_Walk_goForward 36 = .ok (.lcmp, 1) := by decide +kernel
theorem d_Walk_goForward_37 : decode b_Walk_goForward 37 = .ok (.ifCond .gt 18, 3) := by decide +kernel
theorem d_Walk_goForward_40 : decode b_Walk_goForward 40 = .ok (.aload_n 0, 1) := by decide +kernel
theorem d_Walk_goForward_41 : decode b_Walk_goForward 41 = .ok (.dup, 1) := by decide +kernel
theorem d_Walk_goForward_42 : decode b_Walk_goForward 42 = .ok (.getfield 25, 3) := by decide +kernel
theorem d_Walk_goForward_45 : decode b_Walk_goForward 45 = .ok (.lconst 1, 1) := by decide +kernel
theorem d_Walk_goForward_46 : decode b_Walk_goForward 46 = .ok (.ladd, 1) := by decide +kernel
theorem d_Walk_goForward_47 : decode b_Walk_goForward 47 = .ok (.putfield 25, 3) := by decide +kernel
theorem d_Walk_goForward_50 : decode b_Walk_goForward 50 = .ok (.aload_n 0, 1) := by decide +kernel
theorem d_Walk_goForward_51 : decode b_Walk_goForward 51 = .ok (.lload_n 1, 1) := by decide +kernel
theorem d_Walk_goForward_52 : decode b_Walk_goForward 52 = .ok (.putfield 38, 3) := by decide +kernel
theorem d_Walk_goForward_55 : decode b_Walk_goForward 55 = .ok (.lload_n 3, 1) := by decide +kernel
theorem d_Walk_goForward_56 : decode b_Walk_goForward 56 = .ok (.lload_n 1, 1) := by decide +kernel
theorem d_Walk_goForward_57 : decode b_Walk_goForward 57 = .ok (.lcmp, 1) := by decide +kernel
theorem d_Walk_goForward_58 : decode b_Walk_goForward 58 = .ok (.ifCond .gt 18, 3) := by decide +kernel
theorem d_Walk_goForward_61 : decode b_Walk_goForward 61 = .ok (.aload_n 0, 1) := by decide +kernel
theorem d_Walk_goForward_62 : decode b_Walk_goForward 62 = .ok (.dup, 1) := by decide +kernel
theorem d_Walk_goForward_63 : decode b_Walk_goForward 63 = .ok (.getfield 32, 3) := by decide +kernel
theorem d_Walk_goForward_66 : decode b_Walk_goForward 66 = .ok (.lconst 1, 1) := by decide +kernel
theorem d_Walk_goForward_67 : decode b_Walk_goForward 67 = .ok (.ladd, 1) := by decide +kernel
theorem d_Walk_goForward_68 : decode b_Walk_goForward 68 = .ok (.putfield 32, 3) := by decide +kernel
theorem d_Walk_goForward_71 : decode b_Walk_goForward 71 = .ok (.aload_n 0, 1) := by decide +kernel
theorem d_Walk_goForward_72 : decode b_Walk_goForward 72 = .ok (.lload_n 3, 1) := by decide +kernel
theorem d_Walk_goForward_73 : decode b_Walk_goForward 73 = .ok (.putfield 40, 3) := by decide +kernel
theorem d_Walk_goForward_76 : decode b_Walk_goForward 76 = .ok (.return_, 1) := by decide +kernel
abbrev b_Walk_goBack : ByteArray := prog_5_method_5_code
def y_Walk_goBack : MethodName := ⟨"ZoneFiles$EdgeWalk", "goBack", "()V"⟩
theorem d_Walk_goBack_0 : decode b_Walk_goBack 0 = .ok (.aload_n 0, 1) := by decide +kernel
theorem d_Walk_goBack_1 : decode b_Walk_goBack 1 = .ok (.getfield 38, 3) := by decide +kernel
theorem d_Walk_goBack_4 : decode b_Walk_goBack 4 = .ok (.aload_n 0, 1) := by decide +kernel
theorem d_Walk_goBack_5 : decode b_Walk_goBack 5 = .ok (.getfield 40, 3) := by decide +kernel
theorem d_Walk_goBack_8 : decode b_Walk_goBack 8 = .ok (.lcmp, 1) := by decide +kernel
theorem d_Walk_goBack_9 : decode b_Walk_goBack 9 = .ok (.ifCond .lt 7, 3) := by decide +kernel
theorem d_Walk_goBack_12 : decode b_Walk_goBack 12 = .ok (.iconst 1, 1) := by decide +kernel
theorem d_Walk_goBack_13 : decode b_Walk_goBack 13 = .ok (.goto 4, 3) := by decide +kernel
theorem d_Walk_goBack_16 : decode b_Walk_goBack 16 = .ok (.iconst 0, 1) := by decide +kernel
theorem d_Walk_goBack_17 : decode b_Walk_goBack 17 = .ok (.istore_n 1, 1) := by decide +kernel
theorem d_Walk_goBack_18 : decode b_Walk_goBack 18 = .ok (.aload_n 0, 1) := by decide +kernel
theorem d_Walk_goBack_19 : decode b_Walk_goBack 19 = .ok (.getfield 40, 3) := by decide +kernel
theorem d_Walk_goBack_22 : decode b_Walk_goBack 22 = .ok (.aload_n 0, 1) := by decide +kernel
theorem d_Walk_goBack_23 : decode b_Walk_goBack 23 = .ok (.getfield 38, 3) := by decide +kernel
theorem d_Walk_goBack_26 : decode b_Walk_goBack 26 = .ok (.lcmp, 1) := by decide +kernel
theorem d_Walk_goBack_27 : decode b_Walk_goBack 27 = .ok (.ifCond .lt 7, 3) := by decide +kernel
theorem d_Walk_goBack_30 : decode b_Walk_goBack 30 = .ok (.iconst 1, 1) := by decide +kernel
theorem d_Walk_goBack_31 : decode b_Walk_goBack 31 = .ok (.goto 4, 3) := by decide +kernel
theorem d_Walk_goBack_34 : decode b_Walk_goBack 34 = .ok (.iconst 0, 1) := by decide +kernel
theorem d_Walk_goBack_35 : decode b_Walk_goBack 35 = .ok (.istore_n 2, 1) := by decide +kernel
theorem d_Walk_goBack_36 : decode b_Walk_goBack 36 = .ok (.iload_n 1, 1) := by decide +kernel
theorem d_Walk_goBack_37 : decode b_Walk_goBack 37 = .ok (.ifCond .eq 31, 3) := by decide +kernel
theorem d_Walk_goBack_40 : decode b_Walk_goBack 40 = .ok (.aload_n 0, 1) := by decide +kernel
theorem d_Walk_goBack_41 : decode b_Walk_goBack 41 = .ok (.dup, 1) := by decide +kernel
theorem d_Walk_goBack_42 : decode b_Walk_goBack 42 = .ok (.getfield 25, 3) := by decide +kernel
theorem d_Walk_goBack_45 : decode b_Walk_goBack 45 = .ok (.lconst 1, 1) := by decide +kernel
theorem d_Walk_goBack_46 : decode b_Walk_goBack 46 = .ok (.lsub, 1) := by decide +kernel
theorem d_Walk_goBack_47 : decode b_Walk_goBack 47 = .ok (.putfield 25, 3) := by decide +kernel
theorem d_Walk_goBack_50 : decode b_Walk_goBack 50 = .ok (.aload_n 0, 1) := by decide +kernel
theorem d_Walk_goBack_51 : decode b_Walk_goBack 51 = .ok (.aload_n 0, 1) := by decide +kernel
theorem d_Walk_goBack_52 : decode b_Walk_goBack 52 = .ok (.getfield 7, 3) := by decide +kernel
theorem d_Walk_goBack_55 : decode b_Walk_goBack 55 = .ok (.getfield 13, 3) := by decide +kernel
theorem d_Walk_goBack_58 : decode b_Walk_goBack 58 = .ok (.aload_n 0, 1) := by decide +kernel
theorem d_Walk_goBack_59 : decode b_Walk_goBack 59 = .ok (.getfield 25, 3) := by decide +kernel
theorem d_Walk_goBack_62 : decode b_Walk_goBack 62 = .ok (.invokevirtual 35, 3) := by decide +kernel
theorem d_Walk_goBack_65 : decode b_Walk_goBack 65 = .ok (.putfield 38, 3) := by decide +kernel
theorem d_Walk_goBack_68 : decode b_Walk_goBack 68 = .ok (.iload_n 2, 1) := by decide +kernel
theorem d_Walk_goBack_69 : decode b_Walk_goBack 69 = .ok (.ifCond .eq 31, 3) := by decide +kernel
theorem d_Walk_goBack_72 : decode b_Walk_goBack 72 = .ok (.aload_n 0, 1) := by decide +kernel
theorem d_Walk_goBack_73 : decode b_Walk_goBack 73 = .ok (.dup, 1) := by decide +kernel
theorem d_Walk_goBack_74 : decode b_Walk_goBack 74 = .ok (.getfield 32, 3) := by decide +kernel
theorem d_Walk_goBack_77 : decode b_Walk_goBack 77 = .ok (.lconst 1, 1) := by decide +kernel
theorem d_Walk_goBack_78 : decode b_Walk_goBack 78 = .ok (.lsub, 1) := by decide +kernel
theorem d_Walk_goBack_79 : decode b_Walk_goBack 79 = .ok (.putfield 32, 3) := by decide +kernel
theorem d_Walk_goBack_82 : decode b_Walk_goBack 82 = .ok (.aload_n 0, 1) := by decide +kernel
theorem d_Walk_goBack_83 : decode b_Walk_goBack 83 = .ok (.aload_n 0, 1) := by decide +kernel
theorem d_Walk_goBack_84 : decode b_Walk_goBack 84 = .ok (.getfield 7, 3) := by decide +kernel
theorem d_Walk_goBack_87 : decode b_Walk_goBack 87 = .ok (.getfield 29, 3) := by decide +kernel
theorem d_Walk_goBack_90 : decode b_Walk_goBack 90 = .ok (.aload_n 0, 1) := by decide +kernel
theorem d_Walk_goBack_91 : decode b_Walk_goBack 91 = .ok (.getfield 32, 3) := by decide +kernel
theorem d_Walk_goBack_94 : decode b_Walk_goBack 94 = .ok (.invokevirtual 35, 3) := by decide +kernel
theorem d_Walk_goBack_97 : decode b_Walk_goBack 97 = .ok (.putfield 40, 3) := by decide +kernel
theorem d_Walk_goBack_100 : decode b_Walk_goBack 100 = .ok (.return_, 1) := by decide +kernel
-- ZoneFiles$Bytes.putAll(LZoneFiles$Bytes;II)V
def f_By_putAll_3 (nf : Nat) (obS : Int32) (obN : Nat) (obA : Nat → Int32) : Nat → Int32 → Int32 → Int32 → Nat → (Nat → Int32) → Option ((Int32 × Nat × (Nat → Int32)) × Nat × Nat)
  | 0, _, _, _, _, _ => none
  | n + 1, x4, x3, w0_1, w1_n, w1_a =>
    if x3 ≤ x4 then
    some ((w0_1, w1_n, w1_a), 0, 0)
    else
    (f_By_get nf x4 obS obN obA).bind fun r_2 =>
      (f_By_put nf r_2 w0_1 w1_n w1_a).bind fun ((z_3, z_4, z_5), kc_8, ks_9) =>
      ad kc_8 ks_9 (f_By_putAll_3 nf obS obN obA n (x4 + 1) x3 z_3 z_4 z_5)
def f_By_putAll_0 (nf : Nat) (obS : Int32) (obN : Nat) (obA : Nat → Int32) (x2 : Int32) (x3 : Int32) (w0_1 : Int32) (w1_n : Nat) (w1_a : Nat → Int32) : Option ((Int32 × Nat × (Nat → Int32)) × Nat × Nat) :=
  f_By_putAll_3 nf obS obN obA nf x2 x3 w0_1 w1_n w1_a
def f_By_putAll (nf : Nat) (p1 : Int32) (p2 : Int32) (byS : Int32) (byN : Nat) (byA : Nat → Int32) (obS : Int32) (obN : Nat) (obA : Nat → Int32) : Option ((Int32 × Nat × (Nat → Int32)) × Nat × Nat) :=
  f_By_putAll_0 nf obS obN obA p1 p2 byS byN byA
section
variable {p : Program} {l : Launch} {e : Env} {R : Room} {s : State} {m : MethodId} {args : Array Value} {below : List Frame} {meth : Method} {c : Code} {Q : State → Prop} {dC : Nat → ClassId} {dI : Nat → Nat → Nat} {nf : Nat} {A : Nat → Prop}
variable {h0 : Nat} {ot : Nat} {byR : Nat} {obR : Nat} {cAbyR : ClassId} {cAobR : ClassId} {byS : Int32} {byN : Nat} {byA : Nat → Int32} {obS : Int32} {obN : Nat} {obA : Nat → Int32} {v0_1 : Int32} {v1_n : Nat} {v1_a : Nat → Int32}
set_option maxHeartbeats 400000 in
set_option maxRecDepth 100000 in
theorem k_By_putAll_3 (C0 : Cx p s m meth c args R b_By_putAll "ZoneFiles$Bytes" 5 none 3 62) (hST : ST A s s.heap) (hA : ∀ q, s.heap.size ≤ q → A q) (hE : ∀ (pc : Nat) (ls : Array Slot) {q1 : Nat} {q3 : Nat} {nA1 : ClassId} {nA3 : ClassId} (H : Heap) (locs : List Loc), decode b_By_putAll pc = .ok (.return_, 1) → va_P (dC, dI) classes [(h0, .inr (0, [.ref q1, .int v0_1])), (q1, .inl (nA1, v1_n, .inl v1_a)), (ot, .inr (0, [.ref q3, .int obS])), (q3, .inl (nA3, obN, .inl obA))] H → va_D A [(h0, .inr (0, [.ref q1, .int v0_1])), (q1, .inl (nA1, v1_n, .inl v1_a)), (ot, .inr (0, [.ref q3, .int obS])), (q3, .inl (nA3, obN, .inl obA))] → va_S A s.heap H locs → va_K (dC, dI) classes [(nA1, .byte), (nA3, .byte)] s → W p l e R s m args below meth c H locs R.cells R.slots Q (F0 m pc ls [])) : ∀ (n : Nat) {x4 : Int32} {x3 : Int32} {w0_1 : Int32} {w1_n : Nat} {w1_a : Nat → Int32} {kc ks : Nat}, f_By_putAll_3 nf obS obN obA n x4 x3 w0_1 w1_n w1_a = some ((v0_1, v1_n, v1_a), kc, ks) → ∀ {q1 : Nat} {nA1 : ClassId} {q3 : Nat} {nA3 : ClassId} {cells slots : Nat} {H : Heap} {locs : List Loc} {ls : Array Slot}, va_K (dC, dI) classes [(nA1, .byte), (nA3, .byte)] s → va_P (dC, dI) classes [(h0, .inr (0, [.ref q1, .int w0_1])), (q1, .inl (nA1, w1_n, .inl w1_a)), (ot, .inr (0, [.ref q3, .int obS])), (q3, .inl (nA3, obN, .inl obA))] H → va_D A [(h0, .inr (0, [.ref q1, .int w0_1])), (q1, .inl (nA1, w1_n, .inl w1_a)), (ot, .inr (0, [.ref q3, .int obS])), (q3, .inl (nA3, obN, .inl obA))] → va_S A s.heap H locs → cells + kc = R.cells → slots + ks = R.slots → lv_has ls 5 [(4, .int x4), (0, .ref h0), (1, .ref ot), (3, .int x3)] → W p l e R s m args below meth c H locs cells slots Q (F0 m 3 ls []) := by
  obtain ⟨hx, hb, hr, hml, hown, hts, hlocks, hRf, hRl⟩ := id C0
  obtain ⟨tms, hZms, hTms, tmg, hZmg, hTmg, hNW⟩ := id hST
  intro n
  induction n with
  | zero =>
    intro x4 x3 w0_1 w1_n w1_a kc ks hf
    exact absurd hf (by simp [f_By_putAll_3])
  | succ n ih =>
    intro x4 x3 w0_1 w1_n w1_a kc ks hf q1 nA1 q3 nA3 cells slots H locs ls hK hP hD hS hkc hks hl
    unfold f_By_putAll_3 at hf
    refine lv_iload hx hb d_By_putAll_3 (lv_at hl 0 rfl) ?_
    refine lv_iload_n hx hb d_By_putAll_5 rfl (lv_at hl 3 rfl) ?_
    refine lv_icmp_ge (tgt := 25) hx hb d_By_putAll_6 (by decide) (fun c_1 => ?_) (fun c_1 => ?_)
    · have hf := it_t c_1 hf
      cases rs hf
      have hkc : cells = R.cells := hkc
      have hks : slots = R.slots := hks
      subst hkc; subst hks
      exact hE _ _ _ _ d_By_putAll_25 hP hD hS hK
    · have hf := it_f c_1 hf
      refine lv_aload_n hx hb d_By_putAll_9 rfl (lv_at hl 1 rfl) ?_
      refine lv_aload_n hx hb d_By_putAll_10 rfl (lv_at hl 2 rfl) ?_
      refine lv_iload hx hb d_By_putAll_11 (lv_at hl 0 rfl) ?_
      obtain ⟨r_2, hc, hf⟩ := ob hf
      refine cl_S (v := (some (.int r_2))) (st1 := [.int r_2, .ref h0]) (va_runV (As := [.int x4]) (rest := [.ref h0]) ⟨hx, hb, hml, hown, hts⟩ (c_By_get l dC dI ot q3 nA3 nf x4 obS obN obA hc) (cwV 1 hts (gdV m_3_11 m_2_71 m_2_72 m_1_2 m_2_73) rfl rfl rfl (by decide +kernel) ⟨Nat.le_trans (Nat.le_of_ble_eq_true rfl) hRf, Nat.le_trans (Nat.le_of_ble_eq_true rfl) hRl⟩) ((RO.pre (hP.sub (ws' := [(ot, .inr (0, [.ref q3, .int obS])), (q3, .inl (nA3, obN, .inl obA))]) [2, 3] rfl) (hK.sub (tys' := [(nA3, .byte)]) [1] rfl) (hST.ro hS)).vir (va_recv (hK.sub (tys' := [(nA3, .byte)]) [1] rfl) (hP.sub (ws' := [(ot, .inr (0, [.ref q3, .int obS])), (q3, .inl (nA3, obN, .inl obA))]) [2, 3] rfl) (ci := 0) (q0 := 0) rfl rfl)) rfl rfl hl.1 rfl (lv_room (Nat.le_of_ble_eq_true rfl)) d_By_putAll_13 ⟨c0 hkc, c0 hks⟩) rfl ?_
      obtain ⟨⟨⟨z_3, z_4, z_5⟩, kc_8, ks_9⟩, hc, hf⟩ := ob hf
      obtain ⟨kc, ks, hf, ekc, eks⟩ := oa hf
      have hPc := hP.sub (ws' := [(h0, .inr (0, [.ref q1, .int w0_1])), (q1, .inl (nA1, w1_n, .inl w1_a))]) [0, 1] rfl
      have hDc := hD.sub (ws' := [(h0, .inr (0, [.ref q1, .int w0_1])), (q1, .inl (nA1, w1_n, .inl w1_a))]) [0, 1] (by decide) rfl
      have hKc := hK.sub (tys' := [(nA1, .byte)]) [0] rfl
      have hFc := va_free (wc := [(h0, .inr (0, [.ref q1, .int w0_1])), (q1, .inl (nA1, w1_n, .inl w1_a))]) hD hS hA [0, 1] rfl
      refine cl_M (v := none) (st1 := []) (va_runV (As := [.int r_2]) (rest := []) ⟨hx, hb, hml, hown, hts⟩ (c_By_put l dC dI h0 q1 nA1 H.size nf r_2 w0_1 w1_n w1_a hc) (cwV 1 hts (gdV m_3_12 m_2_38 m_2_39 m_1_2 m_2_40) rfl rfl rfl (by decide +kernel) ⟨Nat.le_trans (Nat.le_of_ble_eq_true rfl) hRf, Nat.le_trans (Nat.le_of_ble_eq_true rfl) hRl⟩) ((MU.pre hPc hKc hDc (hST.mu hS hFc)).vir (va_recv hKc hPc (ci := 0) (q0 := 0) rfl rfl)) rfl rfl hl.1 rfl (lv_room (Nat.le_of_ble_eq_true rfl)) d_By_putAll_16 ⟨cb hkc ekc, cb hks eks⟩) rfl hS (fun q _ h => hFc q h) hFc (fun t H1 locs ht hvm hB hz1 hk1 hS => ?_)
      obtain ⟨q_6, cq_7, hP1, hK1, hD1⟩ := hB
      rw [ht] at hP1
      have hK1 := va_K.moved hvm.symm hK1
      obtain ⟨hP, hD⟩ := va_join (wr := [(ot, .inr (0, [.ref q3, .int obS])), (q3, .inl (nA3, obN, .inl obA))]) (w1 := [(h0, .inr (0, [.ref q_6, .int z_3])), (q_6, .inl (cq_7, z_4, .inl z_5))]) hP hD [0, 1] [2, 3] rfl rfl (by decide) (by decide) hk1 hFc hP1 hD1
      have hK := (hK.sub (tys' := [(nA3, .byte)]) [1] rfl).app hK1
      generalize H1 = H at hP hS ⊢
      have hP := hP.sub (ws' := [(h0, .inr (0, [.ref q_6, .int z_3])), (q_6, .inl (cq_7, z_4, .inl z_5)), (ot, .inr (0, [.ref q3, .int obS])), (q3, .inl (nA3, obN, .inl obA))]) [2, 3, 0, 1] rfl
      have hD := hD.sub (ws' := [(h0, .inr (0, [.ref q_6, .int z_3])), (q_6, .inl (cq_7, z_4, .inl z_5)), (ot, .inr (0, [.ref q3, .int obS])), (q3, .inl (nA3, obN, .inl obA))]) [2, 3, 0, 1] (by decide) rfl
      have hK := hK.sub (tys' := [(cq_7, .byte), (nA3, .byte)]) [1, 0] rfl
      have hkc := ck hkc ekc
      have hks := ck hks eks
      generalize cells + kc_8 = cells at hkc ⊢
      generalize slots + ks_9 = slots at hks ⊢
      refine lv_iinc (v := x4 + 1) (lv' := [(4, .int (x4 + 1)), (0, .ref h0), (1, .ref ot), (3, .int x3)]) hx hb d_By_putAll_19 hl (k := 0) rfl rfl (by decide) rfl (fun ls hl => ?_)
      refine lv_goto (tgt := 3) hx hb d_By_putAll_22 (by decide) ?_
      exact ih hf hK hP hD hS hkc hks (lv_sub hl [0, 1, 2, 3] rfl)
set_option maxHeartbeats 400000 in
set_option maxRecDepth 100000 in
theorem k_By_putAll_0 (C0 : Cx p s m meth c args R b_By_putAll "ZoneFiles$Bytes" 5 none 3 62) (hST : ST A s s.heap) (hA : ∀ q, s.heap.size ≤ q → A q) (hE : ∀ (pc : Nat) (ls : Array Slot) {q1 : Nat} {q3 : Nat} {nA1 : ClassId} {nA3 : ClassId} (H : Heap) (locs : List Loc), decode b_By_putAll pc = .ok (.return_, 1) → va_P (dC, dI) classes [(h0, .inr (0, [.ref q1, .int v0_1])), (q1, .inl (nA1, v1_n, .inl v1_a)), (ot, .inr (0, [.ref q3, .int obS])), (q3, .inl (nA3, obN, .inl obA))] H → va_D A [(h0, .inr (0, [.ref q1, .int v0_1])), (q1, .inl (nA1, v1_n, .inl v1_a)), (ot, .inr (0, [.ref q3, .int obS])), (q3, .inl (nA3, obN, .inl obA))] → va_S A s.heap H locs → va_K (dC, dI) classes [(nA1, .byte), (nA3, .byte)] s → W p l e R s m args below meth c H locs R.cells R.slots Q (F0 m pc ls [])) {x2 : Int32} {x3 : Int32} {w0_1 : Int32} {w1_n : Nat} {w1_a : Nat → Int32} {kc ks : Nat} (hf : f_By_putAll_0 nf obS obN obA x2 x3 w0_1 w1_n w1_a = some ((v0_1, v1_n, v1_a), kc, ks)) {q1 : Nat} {nA1 : ClassId} {q3 : Nat} {nA3 : ClassId} {cells slots : Nat} {H : Heap} {locs : List Loc} {ls : Array Slot} (hK : va_K (dC, dI) classes [(nA1, .byte), (nA3, .byte)] s) (hP : va_P (dC, dI) classes [(h0, .inr (0, [.ref q1, .int w0_1])), (q1, .inl (nA1, w1_n, .inl w1_a)), (ot, .inr (0, [.ref q3, .int obS])), (q3, .inl (nA3, obN, .inl obA))] H) (hD : va_D A [(h0, .inr (0, [.ref q1, .int w0_1])), (q1, .inl (nA1, w1_n, .inl w1_a)), (ot, .inr (0, [.ref q3, .int obS])), (q3, .inl (nA3, obN, .inl obA))]) (hS : va_S A s.heap H locs) (hkc : cells + kc = R.cells) (hks : slots + ks = R.slots) (hl : lv_has ls 5 [(0, .ref h0), (1, .ref ot), (2, .int x2), (3, .int x3)]) : W p l e R s m args below meth c H locs cells slots Q (F0 m 0 ls []) := by
  obtain ⟨hx, hb, hr, hml, hown, hts, hlocks, hRf, hRl⟩ := id C0
  obtain ⟨tms, hZms, hTms, tmg, hZmg, hTmg, hNW⟩ := id hST
  unfold f_By_putAll_0 at hf
  refine lv_iload_n hx hb d_By_putAll_0 rfl (lv_at hl 2 rfl) ?_
  refine lv_istore (lv' := [(4, .int x2), (0, .ref h0), (1, .ref ot), (2, .int x2), (3, .int x3)]) hx hb d_By_putAll_1 hl (by decide) rfl (fun ls hl => ?_)
  exact k_By_putAll_3 C0 hST hA hE nf hf hK hP hD hS hkc hks (lv_sub hl [0, 1, 2, 4] rfl)
end
set_option maxHeartbeats 400000 in
set_option maxRecDepth 100000 in
theorem c_By_putAll (l : Launch) (dC : Nat → ClassId) (dI : Nat → Nat → Nat) (h0 : Nat) (ot : Nat) (byR : Nat) (obR : Nat) (cAbyR : ClassId) (cAobR : ClassId) (sz : Nat) (nf : Nat) (p1 : Int32) (p2 : Int32) (byS : Int32) (byN : Nat) (byA : Nat → Int32) (obS : Int32) (obN : Nat) (obA : Nat → Int32) {v0_1 : Int32} {v1_n : Nat} {v1_a : Nat → Int32} {kc ks : Nat} (hf : f_By_putAll nf p1 p2 byS byN byA obS obN obA = some ((v0_1, v1_n, v1_a), kc, ks)) : Met l y_By_putAll (wd y_By_putAll b_By_putAll 5 none) ({ frames := 3, cells := kc, slots := ks, locals := 62 }) (MU dC dI [(h0, .inr (0, [.ref byR, .int byS])), (byR, .inl (cAbyR, byN, .inl byA)), (ot, .inr (0, [.ref obR, .int obS])), (obR, .inl (cAobR, obN, .inl obA))] [(cAbyR, .byte), (cAobR, .byte)] sz [.ref h0, .ref ot, .int p1, .int p2]) (MV none (fun t => ∃ (q1 : Nat) (q3 : Nat) (nA1 : ClassId) (nA3 : ClassId), va_P (dC, dI) classes [(h0, .inr (0, [.ref q1, .int v0_1])), (q1, .inl (nA1, v1_n, .inl v1_a)), (ot, .inr (0, [.ref q3, .int obS])), (q3, .inl (nA3, obN, .inl obA))] t.heap ∧ va_K (dC, dI) classes [(nA1, .byte), (nA3, .byte)] t ∧ va_D (va_A [(h0, .inr (0, [.ref byR, .int byS])), (byR, .inl (cAbyR, byN, .inl byA)), (ot, .inr (0, [.ref obR, .int obS])), (obR, .inl (cAobR, obN, .inl obA))] sz) [(h0, .inr (0, [.ref q1, .int v0_1])), (q1, .inl (nA1, v1_n, .inl v1_a)), (ot, .inr (0, [.ref q3, .int obS])), (q3, .inl (nA3, obN, .inl obA))]) (va_A [(h0, .inr (0, [.ref byR, .int byS])), (byR, .inl (cAbyR, byN, .inl byA)), (ot, .inr (0, [.ref obR, .int obS])), (obR, .inl (cAobR, obN, .inl obA))] sz)) kc ks (va_A [(h0, .inr (0, [.ref byR, .int byS])), (byR, .inl (cAbyR, byN, .inl byA)), (ot, .inr (0, [.ref obR, .int obS])), (obR, .inl (cAobR, obN, .inl obA))] sz) :=
  met_M (plainFor_of_name (by decide)) (Nat.le_of_ble_eq_true rfl) (fun p e R s m args below meth c ls hRc hRs hsz hin C0 hST hK hP hD hl => by
    obtain ⟨hx, hb, hr, hml, hown, hts, hlocks, hRf, hRl⟩ := id C0
    subst hRc; subst hRs
    subst hsz
    have hA : ∀ q : Nat, s.heap.size ≤ q → va_A [(h0, .inr (0, [.ref byR, .int byS])), (byR, .inl (cAbyR, byN, .inl byA)), (ot, .inr (0, [.ref obR, .int obS])), (obR, .inl (cAobR, obN, .inl obA))] s.heap.size q := fun q h => Or.inr h
    have hS : va_S (va_A [(h0, .inr (0, [.ref byR, .int byS])), (byR, .inl (cAbyR, byN, .inl byA)), (ot, .inr (0, [.ref obR, .int obS])), (obR, .inl (cAobR, obN, .inl obA))] s.heap.size) s.heap s.heap [] := va_S.rf
    have hkc := Nat.zero_add R.cells
    have hks := Nat.zero_add R.slots
    unfold f_By_putAll at hf
    exact k_By_putAll_0 C0 hST hA (fun pc ls {q1} {q3} {nA1} {nA3} H locs hd hP hD hS hK => W.vret hx hb hr (fun t ht hW => ⟨⟨rfl, ⟨q1, q3, nA1, nA3, by rw [ht]; exact hP, va_K.moved hW.alike hK, hD⟩⟩, hS.F ht⟩) hS.2.2 hd) hf hK hP hD hS hkc hks (lv_sub hl [0, 1, 2, 3] rfl))
-- ZoneFiles$EdgeWalk.<init>(LZoneFiles$Rule;J)V
def f_Walk_init_0 (nf : Nat) (ebKind : Int32) (ebMonth : Int32) (ebWeek : Int32) (ebDay : Int32) (ebTime : Int32) (ebClock : Int32) (eeKind : Int32) (eeMonth : Int32) (eeWeek : Int32) (eeDay : Int32) (eeTime : Int32) (eeClock : Int32) (x2 : Int64) (w0_1 : Int64) (w0_2 : Int64) (w0_3 : Int64) (w0_4 : Int64) : Option (Int64 × Int64 × Int64 × Int64) :=
  (f_Edge_lastYear nf x2 ebKind ebMonth ebWeek ebDay ebTime ebClock).bind fun r_1 =>
  (f_Edge_lastYear nf x2 eeKind eeMonth eeWeek eeDay eeTime eeClock).bind fun r_2 =>
  (f_Edge_momentIn nf r_1 ebKind ebMonth ebWeek ebDay ebTime ebClock).bind fun r_3 =>
  (f_Edge_momentIn nf r_2 eeKind eeMonth eeWeek eeDay eeTime eeClock).bind fun r_4 =>
  some (r_1, r_2, r_3, r_4)
def f_Walk_init (nf : Nat) (p1 : Int64) (ebKind : Int32) (ebMonth : Int32) (ebWeek : Int32) (ebDay : Int32) (ebTime : Int32) (ebClock : Int32) (eeKind : Int32) (eeMonth : Int32) (eeWeek : Int32) (eeDay : Int32) (eeTime : Int32) (eeClock : Int32) : Option (Int64 × Int64 × Int64 × Int64) :=
  f_Walk_init_0 nf ebKind ebMonth ebWeek ebDay ebTime ebClock eeKind eeMonth eeWeek eeDay eeTime eeClock p1 0 0 0 0
section
variable {p : Program} {l : Launch} {e : Env} {R : Room} {s : State} {m : MethodId} {args : Array Value} {below : List Frame} {meth : Method} {c : Code} {Q : State → Prop} {dC : Nat → ClassId} {dI : Nat → Nat → Nat} {nf : Nat} {A : Nat → Prop}
variable {h0 : Nat} {kRule : Nat} {ruT : Nat} {ruB : Nat} {ruE : Nat} {ruHas : Int32} {ruWide : Int32} {ruSo : Int32} {ruUo : Int32} {ruSp : Int32} {ruSs : Int32} {ruUp : Int32} {ruUs : Int32} {ruNev : Int32} {ebKind : Int32} {ebMonth : Int32} {ebWeek : Int32} {ebDay : Int32} {ebTime : Int32} {ebClock : Int32} {eeKind : Int32} {eeMonth : Int32} {eeWeek : Int32} {eeDay : Int32} {eeTime : Int32} {eeClock : Int32} {v0_1 : Int64} {v0_2 : Int64} {v0_3 : Int64} {v0_4 : Int64}
set_option maxHeartbeats 400000 in
set_option maxRecDepth 100000 in
theorem k_Walk_init_0 (C0 : Cx p s m meth c args R b_Walk_init "ZoneFiles$EdgeWalk" 4 none 4 103) (hST : ST A s s.heap) (hA : ∀ q, s.heap.size ≤ q → A q) (hin : meth.name = "<init>") (hE : ∀ (pc : Nat) (ls : Array Slot) (H : Heap) (locs : List Loc), decode b_Walk_init pc = .ok (.return_, 1) → va_P (dC, dI) classes [(h0, .inr (2, [.ref kRule, .long v0_1, .long v0_2, .long v0_3, .long v0_4])), (kRule, .inr (5, [.ref ruT, .ref ruB, .ref ruE, .int ruHas, .int ruWide, .int ruSo, .int ruUo, .int ruSp, .int ruSs, .int ruUp, .int ruUs, .int ruNev])), (ruB, .inr (1, [.int ebKind, .int ebMonth, .int ebWeek, .int ebDay, .int ebTime, .int ebClock])), (ruE, .inr (1, [.int eeKind, .int eeMonth, .int eeWeek, .int eeDay, .int eeTime, .int eeClock]))] H → va_D A [(h0, .inr (2, [.ref kRule, .long v0_1, .long v0_2, .long v0_3, .long v0_4])), (kRule, .inr (5, [.ref ruT, .ref ruB, .ref ruE, .int ruHas, .int ruWide, .int ruSo, .int ruUo, .int ruSp, .int ruSs, .int ruUp, .int ruUs, .int ruNev])), (ruB, .inr (1, [.int ebKind, .int ebMonth, .int ebWeek, .int ebDay, .int ebTime, .int ebClock])), (ruE, .inr (1, [.int eeKind, .int eeMonth, .int eeWeek, .int eeDay, .int eeTime, .int eeClock]))] → va_S A s.heap H locs → va_K (dC, dI) classes [] s → W p l e R s m args below meth c H locs 0 0 Q (F0 m pc ls [])) {x2 : Int64} {w0_1 : Int64} {w0_2 : Int64} {w0_3 : Int64} {w0_4 : Int64} (hf : f_Walk_init_0 nf ebKind ebMonth ebWeek ebDay ebTime ebClock eeKind eeMonth eeWeek eeDay eeTime eeClock x2 w0_1 w0_2 w0_3 w0_4 = some (v0_1, v0_2, v0_3, v0_4)) {H : Heap} {locs : List Loc} {ls : Array Slot} (hK : va_K (dC, dI) classes [] s) (hP : va_P (dC, dI) classes [(h0, .inr (2, [.null, .long w0_1, .long w0_2, .long w0_3, .long w0_4])), (kRule, .inr (5, [.ref ruT, .ref ruB, .ref ruE, .int ruHas, .int ruWide, .int ruSo, .int ruUo, .int ruSp, .int ruSs, .int ruUp, .int ruUs, .int ruNev])), (ruB, .inr (1, [.int ebKind, .int ebMonth, .int ebWeek, .int ebDay, .int ebTime, .int ebClock])), (ruE, .inr (1, [.int eeKind, .int eeMonth, .int eeWeek, .int eeDay, .int eeTime, .int eeClock]))] H) (hD : va_D A [(h0, .inr (2, [.null, .long w0_1, .long w0_2, .long w0_3, .long w0_4])), (kRule, .inr (5, [.ref ruT, .ref ruB, .ref ruE, .int ruHas, .int ruWide, .int ruSo, .int ruUo, .int ruSp, .int ruSs, .int ruUp, .int ruUs, .int ruNev])), (ruB, .inr (1, [.int ebKind, .int ebMonth, .int ebWeek, .int ebDay, .int ebTime, .int ebClock])), (ruE, .inr (1, [.int eeKind, .int eeMonth, .int eeWeek, .int eeDay, .int eeTime, .int eeClock]))]) (hS : va_S A s.heap H locs) (hl : lv_has ls 4 [(0, .ref h0), (1, .ref kRule), (2, .long x2)]) : W p l e R s m args below meth c H locs 0 0 Q (F0 m 0 ls []) := by
  obtain ⟨hx, hb, hr, hml, hown, hts, hlocks, hRf, hRl⟩ := id C0
  obtain ⟨tms, hZms, hTms, tmg, hZmg, hTmg, hNW⟩ := id hST
  unfold f_Walk_init_0 at hf
  refine lv_aload_n hx hb d_Walk_init_0 rfl (lv_at hl 0 rfl) ?_
  refine W.objInit hx hb hown (hts (.methodLink "ZoneFiles$EdgeWalk" 1 objectInit) m_5_160) (hts (.instanceMethod objectInit) m_1_29) (hts (.code objectInit ⟨#[0xb1]⟩ 1 none) m_1_30) rfl (by rw [hml]; exact hl.1) rfl d_Walk_init_1 (Nat.le_trans (Nat.le_of_ble_eq_true rfl) hRf) (Nat.le_trans (Nat.le_of_ble_eq_true rfl) hRl) ?_
  refine W.eq (g2 := F0 m 4 ls []) rfl ?_
  refine lv_aload_n hx hb d_Walk_init_4 rfl (lv_at hl 0 rfl) ?_
  refine lv_aload_n hx hb d_Walk_init_5 rfl (lv_at hl 1 rfl) ?_
  refine va_putF (D := (dC, dI)) (ci := 2) (v := .ref kRule) (ty := .object "ZoneFiles$Rule") (C := REdgeWalk) (T := TEdgeWalk) (N := 5) hx hb hts in_EdgeWalk tyEdgeWalk ty_EdgeWalk nm_EdgeWalk hown hK hP hD hS 0 rfl rfl 0 (by decide) (hts (.fieldLink "ZoneFiles$EdgeWalk" 7 "ZoneFiles$EdgeWalk" "rule" "LZoneFiles$Rule;") m_5_163) (fun _ h9 => h9) rfl hin rfl (by decide +kernel) rfl rfl (Nat.le_of_ble_eq_true rfl) d_Walk_init_6 (fun H locs hP hD hS => ?_)
  have hP : va_P (dC, dI) classes [(h0, .inr (2, [.ref kRule, .long w0_1, .long w0_2, .long w0_3, .long w0_4])), (kRule, .inr (5, [.ref ruT, .ref ruB, .ref ruE, .int ruHas, .int ruWide, .int ruSo, .int ruUo, .int ruSp, .int ruSs, .int ruUp, .int ruUs, .int ruNev])), (ruB, .inr (1, [.int ebKind, .int ebMonth, .int ebWeek, .int ebDay, .int ebTime, .int ebClock])), (ruE, .inr (1, [.int eeKind, .int eeMonth, .int eeWeek, .int eeDay, .int eeTime, .int eeClock]))] H := hP
  have hD : va_D A [(h0, .inr (2, [.ref kRule, .long w0_1, .long w0_2, .long w0_3, .long w0_4])), (kRule, .inr (5, [.ref ruT, .ref ruB, .ref ruE, .int ruHas, .int ruWide, .int ruSo, .int ruUo, .int ruSp, .int ruSs, .int ruUp, .int ruUs, .int ruNev])), (ruB, .inr (1, [.int ebKind, .int ebMonth, .int ebWeek, .int ebDay, .int ebTime, .int ebClock])), (ruE, .inr (1, [.int eeKind, .int eeMonth, .int eeWeek, .int eeDay, .int eeTime, .int eeClock]))] := hD
  refine lv_aload_n hx hb d_Walk_init_9 rfl (lv_at hl 0 rfl) ?_
  refine lv_aload_n hx hb d_Walk_init_10 rfl (lv_at hl 1 rfl) ?_
  refine va_get (D := (dC, dI)) (ci := 5) (v := .ref ruB) (C := RRule) (T := TRule) (N := 12) hx hb hts in_Rule hown hK hP 1 rfl rfl 1 (by decide) (hts (.fieldLink "ZoneFiles$EdgeWalk" 13 "ZoneFiles$Rule" "begin" "LZoneFiles$Edge;") m_1_106) (fun _ h9 => h9) rfl d_Walk_init_11 ?_
  refine lv_lload_n hx hb d_Walk_init_14 rfl (lv_at hl 2 rfl) ?_
  obtain ⟨r_1, hc, hf⟩ := ob hf
  refine cl_S (v := (some (.long r_1))) (st1 := [.long r_1, .ref h0]) (va_runV (As := [.long x2]) (rest := [.ref h0]) ⟨hx, hb, hml, hown, hts⟩ (c_Edge_lastYear l dC dI ruB nf x2 ebKind ebMonth ebWeek ebDay ebTime ebClock hc) (cwV 1 hts (gdV m_5_161 m_4_155 m_4_156 m_1_5 m_4_157) rfl rfl rfl (by decide +kernel) ⟨Nat.le_trans (Nat.le_of_ble_eq_true rfl) hRf, Nat.le_trans (Nat.le_of_ble_eq_true rfl) hRl⟩) ((RO.pre (hP.sub (ws' := [(ruB, .inr (1, [.int ebKind, .int ebMonth, .int ebWeek, .int ebDay, .int ebTime, .int ebClock]))]) [2] rfl) (hK.sub (tys' := []) [] rfl) (hST.ro hS)).vir (va_recv (hK.sub (tys' := []) [] rfl) (hP.sub (ws' := [(ruB, .inr (1, [.int ebKind, .int ebMonth, .int ebWeek, .int ebDay, .int ebTime, .int ebClock]))]) [2] rfl) (ci := 1) (q0 := 0) rfl rfl)) rfl rfl hl.1 rfl (lv_room (Nat.le_of_ble_eq_true rfl)) d_Walk_init_15 ⟨Nat.zero_le _, Nat.zero_le _⟩) rfl ?_
  refine va_put (D := (dC, dI)) (ci := 2) (v := .long r_1) (ty := .long) (C := REdgeWalk) (T := TEdgeWalk) (N := 5) hx hb hts in_EdgeWalk tyEdgeWalk ty_EdgeWalk nm_EdgeWalk hown hK hP hD hS 0 rfl rfl 1 (by decide) (hts (.fieldLink "ZoneFiles$EdgeWalk" 25 "ZoneFiles$EdgeWalk" "beginYear" "J") m_5_164) (fun _ h9 => h9) rfl (by decide +kernel) rfl rfl (Nat.le_of_ble_eq_true rfl) d_Walk_init_18 (fun H locs hP hD hS => ?_)
  have hP : va_P (dC, dI) classes [(h0, .inr (2, [.ref kRule, .long r_1, .long w0_2, .long w0_3, .long w0_4])), (kRule, .inr (5, [.ref ruT, .ref ruB, .ref ruE, .int ruHas, .int ruWide, .int ruSo, .int ruUo, .int ruSp, .int ruSs, .int ruUp, .int ruUs, .int ruNev])), (ruB, .inr (1, [.int ebKind, .int ebMonth, .int ebWeek, .int ebDay, .int ebTime, .int ebClock])), (ruE, .inr (1, [.int eeKind, .int eeMonth, .int eeWeek, .int eeDay, .int eeTime, .int eeClock]))] H := hP
  have hD : va_D A [(h0, .inr (2, [.ref kRule, .long r_1, .long w0_2, .long w0_3, .long w0_4])), (kRule, .inr (5, [.ref ruT, .ref ruB, .ref ruE, .int ruHas, .int ruWide, .int ruSo, .int ruUo, .int ruSp, .int ruSs, .int ruUp, .int ruUs, .int ruNev])), (ruB, .inr (1, [.int ebKind, .int ebMonth, .int ebWeek, .int ebDay, .int ebTime, .int ebClock])), (ruE, .inr (1, [.int eeKind, .int eeMonth, .int eeWeek, .int eeDay, .int eeTime, .int eeClock]))] := hD
  refine lv_aload_n hx hb d_Walk_init_21 rfl (lv_at hl 0 rfl) ?_
  refine lv_aload_n hx hb d_Walk_init_22 rfl (lv_at hl 1 rfl) ?_
  refine va_get (D := (dC, dI)) (ci := 5) (v := .ref ruE) (C := RRule) (T := TRule) (N := 12) hx hb hts in_Rule hown hK hP 1 rfl rfl 2 (by decide) (hts (.fieldLink "ZoneFiles$EdgeWalk" 29 "ZoneFiles$Rule" "end" "LZoneFiles$Edge;") m_1_109) (fun _ h9 => h9) rfl d_Walk_init_23 ?_
  refine lv_lload_n hx hb d_Walk_init_26 rfl (lv_at hl 2 rfl) ?_
  obtain ⟨r_2, hc, hf⟩ := ob hf
  refine cl_S (v := (some (.long r_2))) (st1 := [.long r_2, .ref h0]) (va_runV (As := [.long x2]) (rest := [.ref h0]) ⟨hx, hb, hml, hown, hts⟩ (c_Edge_lastYear l dC dI ruE nf x2 eeKind eeMonth eeWeek eeDay eeTime eeClock hc) (cwV 1 hts (gdV m_5_161 m_4_155 m_4_156 m_1_5 m_4_157) rfl rfl rfl (by decide +kernel) ⟨Nat.le_trans (Nat.le_of_ble_eq_true rfl) hRf, Nat.le_trans (Nat.le_of_ble_eq_true rfl) hRl⟩) ((RO.pre (hP.sub (ws' := [(ruE, .inr (1, [.int eeKind, .int eeMonth, .int eeWeek, .int eeDay, .int eeTime, .int eeClock]))]) [3] rfl) (hK.sub (tys' := []) [] rfl) (hST.ro hS)).vir (va_recv (hK.sub (tys' := []) [] rfl) (hP.sub (ws' := [(ruE, .inr (1, [.int eeKind, .int eeMonth, .int eeWeek, .int eeDay, .int eeTime, .int eeClock]))]) [3] rfl) (ci := 1) (q0 := 0) rfl rfl)) rfl rfl hl.1 rfl (lv_room (Nat.le_of_ble_eq_true rfl)) d_Walk_init_27 ⟨Nat.zero_le _, Nat.zero_le _⟩) rfl ?_
  refine va_put (D := (dC, dI)) (ci := 2) (v := .long r_2) (ty := .long) (C := REdgeWalk) (T := TEdgeWalk) (N := 5) hx hb hts in_EdgeWalk tyEdgeWalk ty_EdgeWalk nm_EdgeWalk hown hK hP hD hS 0 rfl rfl 2 (by decide) (hts (.fieldLink "ZoneFiles$EdgeWalk" 32 "ZoneFiles$EdgeWalk" "endYear" "J") m_5_165) (fun _ h9 => h9) rfl (by decide +kernel) rfl rfl (Nat.le_of_ble_eq_true rfl) d_Walk_init_30 (fun H locs hP hD hS => ?_)
  have hP : va_P (dC, dI) classes [(h0, .inr (2, [.ref kRule, .long r_1, .long r_2, .long w0_3, .long w0_4])), (kRule, .inr (5, [.ref ruT, .ref ruB, .ref ruE, .int ruHas, .int ruWide, .int ruSo, .int ruUo, .int ruSp, .int ruSs, .int ruUp, .int ruUs, .int ruNev])), (ruB, .inr (1, [.int ebKind, .int ebMonth, .int ebWeek, .int ebDay, .int ebTime, .int ebClock])), (ruE, .inr (1, [.int eeKind, .int eeMonth, .int eeWeek, .int eeDay, .int eeTime, .int eeClock]))] H := hP
  have hD : va_D A [(h0, .inr (2, [.ref kRule, .long r_1, .long r_2, .long w0_3, .long w0_4])), (kRule, .inr (5, [.ref ruT, .ref ruB, .ref ruE, .int ruHas, .int ruWide, .int ruSo, .int ruUo, .int ruSp, .int ruSs, .int ruUp, .int ruUs, .int ruNev])), (ruB, .inr (1, [.int ebKind, .int ebMonth, .int ebWeek, .int ebDay, .int ebTime, .int ebClock])), (ruE, .inr (1, [.int eeKind, .int eeMonth, .int eeWeek, .int eeDay, .int eeTime, .int eeClock]))] := hD
  refine lv_aload_n hx hb d_Walk_init_33 rfl (lv_at hl 0 rfl) ?_
  refine lv_aload_n hx hb d_Walk_init_34 rfl (lv_at hl 1 rfl) ?_
  refine va_get (D := (dC, dI)) (ci := 5) (v := .ref ruB) (C := RRule) (T := TRule) (N := 12) hx hb hts in_Rule hown hK hP 1 rfl rfl 1 (by decide) (hts (.fieldLink "ZoneFiles$EdgeWalk" 13 "ZoneFiles$Rule" "begin" "LZoneFiles$Edge;") m_1_106) (fun _ h9 => h9) rfl d_Walk_init_35 ?_
  refine lv_aload_n hx hb d_Walk_init_38 rfl (lv_at hl 0 rfl) ?_
  refine va_get (D := (dC, dI)) (ci := 2) (v := .long r_1) (C := REdgeWalk) (T := TEdgeWalk) (N := 5) hx hb hts in_EdgeWalk hown hK hP 0 rfl rfl 1 (by decide) (hts (.fieldLink "ZoneFiles$EdgeWalk" 25 "ZoneFiles$EdgeWalk" "beginYear" "J") m_5_164) (fun _ h9 => h9) rfl d_Walk_init_39 ?_
  obtain ⟨r_3, hc, hf⟩ := ob hf
  refine cl_S (v := (some (.long r_3))) (st1 := [.long r_3, .ref h0]) (va_runV (As := [.long r_1]) (rest := [.ref h0]) ⟨hx, hb, hml, hown, hts⟩ (c_Edge_momentIn l dC dI ruB nf r_1 ebKind ebMonth ebWeek ebDay ebTime ebClock hc) (cwV 1 hts (gdV m_5_162 m_4_178 m_4_179 m_1_5 m_4_180) rfl rfl rfl (by decide +kernel) ⟨Nat.le_trans (Nat.le_of_ble_eq_true rfl) hRf, Nat.le_trans (Nat.le_of_ble_eq_true rfl) hRl⟩) ((RO.pre (hP.sub (ws' := [(ruB, .inr (1, [.int ebKind, .int ebMonth, .int ebWeek, .int ebDay, .int ebTime, .int ebClock]))]) [2] rfl) (hK.sub (tys' := []) [] rfl) (hST.ro hS)).vir (va_recv (hK.sub (tys' := []) [] rfl) (hP.sub (ws' := [(ruB, .inr (1, [.int ebKind, .int ebMonth, .int ebWeek, .int ebDay, .int ebTime, .int ebClock]))]) [2] rfl) (ci := 1) (q0 := 0) rfl rfl)) rfl rfl hl.1 rfl (lv_room (Nat.le_of_ble_eq_true rfl)) d_Walk_init_42 ⟨Nat.zero_le _, Nat.zero_le _⟩) rfl ?_
  refine va_put (D := (dC, dI)) (ci := 2) (v := .long r_3) (ty := .long) (C := REdgeWalk) (T := TEdgeWalk) (N := 5) hx hb hts in_EdgeWalk tyEdgeWalk ty_EdgeWalk nm_EdgeWalk hown hK hP hD hS 0 rfl rfl 3 (by decide) (hts (.fieldLink "ZoneFiles$EdgeWalk" 38 "ZoneFiles$EdgeWalk" "begin" "J") m_5_166) (fun _ h9 => h9) rfl (by decide +kernel) rfl rfl (Nat.le_of_ble_eq_true rfl) d_Walk_init_45 (fun H locs hP hD hS => ?_)
  have hP : va_P (dC, dI) classes [(h0, .inr (2, [.ref kRule, .long r_1, .long r_2, .long r_3, .long w0_4])), (kRule, .inr (5, [.ref ruT, .ref ruB, .ref ruE, .int ruHas, .int ruWide, .int ruSo, .int ruUo, .int ruSp, .int ruSs, .int ruUp, .int ruUs, .int ruNev])), (ruB, .inr (1, [.int ebKind, .int ebMonth, .int ebWeek, .int ebDay, .int ebTime, .int ebClock])), (ruE, .inr (1, [.int eeKind, .int eeMonth, .int eeWeek, .int eeDay, .int eeTime, .int eeClock]))] H := hP
  have hD : va_D A [(h0, .inr (2, [.ref kRule, .long r_1, .long r_2, .long r_3, .long w0_4])), (kRule, .inr (5, [.ref ruT, .ref ruB, .ref ruE, .int ruHas, .int ruWide, .int ruSo, .int ruUo, .int ruSp, .int ruSs, .int ruUp, .int ruUs, .int ruNev])), (ruB, .inr (1, [.int ebKind, .int ebMonth, .int ebWeek, .int ebDay, .int ebTime, .int ebClock])), (ruE, .inr (1, [.int eeKind, .int eeMonth, .int eeWeek, .int eeDay, .int eeTime, .int eeClock]))] := hD
  refine lv_aload_n hx hb d_Walk_init_48 rfl (lv_at hl 0 rfl) ?_
  refine lv_aload_n hx hb d_Walk_init_49 rfl (lv_at hl 1 rfl) ?_
  refine va_get (D := (dC, dI)) (ci := 5) (v := .ref ruE) (C := RRule) (T := TRule) (N := 12) hx hb hts in_Rule hown hK hP 1 rfl rfl 2 (by decide) (hts (.fieldLink "ZoneFiles$EdgeWalk" 29 "ZoneFiles$Rule" "end" "LZoneFiles$Edge;") m_1_109) (fun _ h9 => h9) rfl d_Walk_init_50 ?_
  refine lv_aload_n hx hb d_Walk_init_53 rfl (lv_at hl 0 rfl) ?_
  refine va_get (D := (dC, dI)) (ci := 2) (v := .long r_2) (C := REdgeWalk) (T := TEdgeWalk) (N := 5) hx hb hts in_EdgeWalk hown hK hP 0 rfl rfl 2 (by decide) (hts (.fieldLink "ZoneFiles$EdgeWalk" 32 "ZoneFiles$EdgeWalk" "endYear" "J") m_5_165) (fun _ h9 => h9) rfl d_Walk_init_54 ?_
  obtain ⟨r_4, hc, hf⟩ := ob hf
  refine cl_S (v := (some (.long r_4))) (st1 := [.long r_4, .ref h0]) (va_runV (As := [.long r_2]) (rest := [.ref h0]) ⟨hx, hb, hml, hown, hts⟩ (c_Edge_momentIn l dC dI ruE nf r_2 eeKind eeMonth eeWeek eeDay eeTime eeClock hc) (cwV 1 hts (gdV m_5_162 m_4_178 m_4_179 m_1_5 m_4_180) rfl rfl rfl (by decide +kernel) ⟨Nat.le_trans (Nat.le_of_ble_eq_true rfl) hRf, Nat.le_trans (Nat.le_of_ble_eq_true rfl) hRl⟩) ((RO.pre (hP.sub (ws' := [(ruE, .inr (1, [.int eeKind, .int eeMonth, .int eeWeek, .int eeDay, .int eeTime, .int eeClock]))]) [3] rfl) (hK.sub (tys' := []) [] rfl) (hST.ro hS)).vir (va_recv (hK.sub (tys' := []) [] rfl) (hP.sub (ws' := [(ruE, .inr (1, [.int eeKind, .int eeMonth, .int eeWeek, .int eeDay, .int eeTime, .int eeClock]))]) [3] rfl) (ci := 1) (q0 := 0) rfl rfl)) rfl rfl hl.1 rfl (lv_room (Nat.le_of_ble_eq_true rfl)) d_Walk_init_57 ⟨Nat.zero_le _, Nat.zero_le _⟩) rfl ?_
  refine va_put (D := (dC, dI)) (ci := 2) (v := .long r_4) (ty := .long) (C := REdgeWalk) (T := TEdgeWalk) (N := 5) hx hb hts in_EdgeWalk tyEdgeWalk ty_EdgeWalk nm_EdgeWalk hown hK hP hD hS 0 rfl rfl 4 (by decide) (hts (.fieldLink "ZoneFiles$EdgeWalk" 40 "ZoneFiles$EdgeWalk" "end" "J") m_5_167) (fun _ h9 => h9) rfl (by decide +kernel) rfl rfl (Nat.le_of_ble_eq_true rfl) d_Walk_init_60 (fun H locs hP hD hS => ?_)
  have hP : va_P (dC, dI) classes [(h0, .inr (2, [.ref kRule, .long r_1, .long r_2, .long r_3, .long r_4])), (kRule, .inr (5, [.ref ruT, .ref ruB, .ref ruE, .int ruHas, .int ruWide, .int ruSo, .int ruUo, .int ruSp, .int ruSs, .int ruUp, .int ruUs, .int ruNev])), (ruB, .inr (1, [.int ebKind, .int ebMonth, .int ebWeek, .int ebDay, .int ebTime, .int ebClock])), (ruE, .inr (1, [.int eeKind, .int eeMonth, .int eeWeek, .int eeDay, .int eeTime, .int eeClock]))] H := hP
  have hD : va_D A [(h0, .inr (2, [.ref kRule, .long r_1, .long r_2, .long r_3, .long r_4])), (kRule, .inr (5, [.ref ruT, .ref ruB, .ref ruE, .int ruHas, .int ruWide, .int ruSo, .int ruUo, .int ruSp, .int ruSs, .int ruUp, .int ruUs, .int ruNev])), (ruB, .inr (1, [.int ebKind, .int ebMonth, .int ebWeek, .int ebDay, .int ebTime, .int ebClock])), (ruE, .inr (1, [.int eeKind, .int eeMonth, .int eeWeek, .int eeDay, .int eeTime, .int eeClock]))] := hD
  cases rs hf
  exact hE _ _ _ _ d_Walk_init_63 hP hD hS hK
end
set_option maxHeartbeats 400000 in
set_option maxRecDepth 100000 in
theorem c_Walk_init (l : Launch) (dC : Nat → ClassId) (dI : Nat → Nat → Nat) (h0 : Nat) (kRule : Nat) (ruT : Nat) (ruB : Nat) (ruE : Nat) (sz : Nat) (nf : Nat) (p1 : Int64) (ruHas : Int32) (ruWide : Int32) (ruSo : Int32) (ruUo : Int32) (ruSp : Int32) (ruSs : Int32) (ruUp : Int32) (ruUs : Int32) (ruNev : Int32) (ebKind : Int32) (ebMonth : Int32) (ebWeek : Int32) (ebDay : Int32) (ebTime : Int32) (ebClock : Int32) (eeKind : Int32) (eeMonth : Int32) (eeWeek : Int32) (eeDay : Int32) (eeTime : Int32) (eeClock : Int32) {v0_1 : Int64} {v0_2 : Int64} {v0_3 : Int64} {v0_4 : Int64} (hf : f_Walk_init nf p1 ebKind ebMonth ebWeek ebDay ebTime ebClock eeKind eeMonth eeWeek eeDay eeTime eeClock = some (v0_1, v0_2, v0_3, v0_4)) : Met l y_Walk_init (wd y_Walk_init b_Walk_init 4 none) ({ frames := 4, cells := 0, slots := 0, locals := 103 }) (MU dC dI [(h0, .inr (2, [.null, .long 0, .long 0, .long 0, .long 0])), (kRule, .inr (5, [.ref ruT, .ref ruB, .ref ruE, .int ruHas, .int ruWide, .int ruSo, .int ruUo, .int ruSp, .int ruSs, .int ruUp, .int ruUs, .int ruNev])), (ruB, .inr (1, [.int ebKind, .int ebMonth, .int ebWeek, .int ebDay, .int ebTime, .int ebClock])), (ruE, .inr (1, [.int eeKind, .int eeMonth, .int eeWeek, .int eeDay, .int eeTime, .int eeClock]))] [] sz [.ref h0, .ref kRule, .long p1]) (MV none (fun t => va_P (dC, dI) classes [(h0, .inr (2, [.ref kRule, .long v0_1, .long v0_2, .long v0_3, .long v0_4])), (kRule, .inr (5, [.ref ruT, .ref ruB, .ref ruE, .int ruHas, .int ruWide, .int ruSo, .int ruUo, .int ruSp, .int ruSs, .int ruUp, .int ruUs, .int ruNev])), (ruB, .inr (1, [.int ebKind, .int ebMonth, .int ebWeek, .int ebDay, .int ebTime, .int ebClock])), (ruE, .inr (1, [.int eeKind, .int eeMonth, .int eeWeek, .int eeDay, .int eeTime, .int eeClock]))] t.heap ∧ va_K (dC, dI) classes [] t ∧ va_D (va_A [(h0, .inr (2, [.null, .long 0, .long 0, .long 0, .long 0])), (kRule, .inr (5, [.ref ruT, .ref ruB, .ref ruE, .int ruHas, .int ruWide, .int ruSo, .int ruUo, .int ruSp, .int ruSs, .int ruUp, .int ruUs, .int ruNev])), (ruB, .inr (1, [.int ebKind, .int ebMonth, .int ebWeek, .int ebDay, .int ebTime, .int ebClock])), (ruE, .inr (1, [.int eeKind, .int eeMonth, .int eeWeek, .int eeDay, .int eeTime, .int eeClock]))] sz) [(h0, .inr (2, [.ref kRule, .long v0_1, .long v0_2, .long v0_3, .long v0_4])), (kRule, .inr (5, [.ref ruT, .ref ruB, .ref ruE, .int ruHas, .int ruWide, .int ruSo, .int ruUo, .int ruSp, .int ruSs, .int ruUp, .int ruUs, .int ruNev])), (ruB, .inr (1, [.int ebKind, .int ebMonth, .int ebWeek, .int ebDay, .int ebTime, .int ebClock])), (ruE, .inr (1, [.int eeKind, .int eeMonth, .int eeWeek, .int eeDay, .int eeTime, .int eeClock]))]) (va_A [(h0, .inr (2, [.null, .long 0, .long 0, .long 0, .long 0])), (kRule, .inr (5, [.ref ruT, .ref ruB, .ref ruE, .int ruHas, .int ruWide, .int ruSo, .int ruUo, .int ruSp, .int ruSs, .int ruUp, .int ruUs, .int ruNev])), (ruB, .inr (1, [.int ebKind, .int ebMonth, .int ebWeek, .int ebDay, .int ebTime, .int ebClock])), (ruE, .inr (1, [.int eeKind, .int eeMonth, .int eeWeek, .int eeDay, .int eeTime, .int eeClock]))] sz)) 0 0 (va_A [(h0, .inr (2, [.null, .long 0, .long 0, .long 0, .long 0])), (kRule, .inr (5, [.ref ruT, .ref ruB, .ref ruE, .int ruHas, .int ruWide, .int ruSo, .int ruUo, .int ruSp, .int ruSs, .int ruUp, .int ruUs, .int ruNev])), (ruB, .inr (1, [.int ebKind, .int ebMonth, .int ebWeek, .int ebDay, .int ebTime, .int ebClock])), (ruE, .inr (1, [.int eeKind, .int eeMonth, .int eeWeek, .int eeDay, .int eeTime, .int eeClock]))] sz) :=
  met_M (plainFor_of_name (by decide)) (Nat.le_of_ble_eq_true rfl) (fun p e R s m args below meth c ls hRc hRs hsz hin C0 hST hK hP hD hl => by
    obtain ⟨hx, hb, hr, hml, hown, hts, hlocks, hRf, hRl⟩ := id C0
    subst hsz
    have hA : ∀ q : Nat, s.heap.size ≤ q → va_A [(h0, .inr (2, [.null, .long 0, .long 0, .long 0, .long 0])), (kRule, .inr (5, [.ref ruT, .ref ruB, .ref ruE, .int ruHas, .int ruWide, .int ruSo, .int ruUo, .int ruSp, .int ruSs, .int ruUp, .int ruUs, .int ruNev])), (ruB, .inr (1, [.int ebKind, .int ebMonth, .int ebWeek, .int ebDay, .int ebTime, .int ebClock])), (ruE, .inr (1, [.int eeKind, .int eeMonth, .int eeWeek, .int eeDay, .int eeTime, .int eeClock]))] s.heap.size q := fun q h => Or.inr h
    have hS : va_S (va_A [(h0, .inr (2, [.null, .long 0, .long 0, .long 0, .long 0])), (kRule, .inr (5, [.ref ruT, .ref ruB, .ref ruE, .int ruHas, .int ruWide, .int ruSo, .int ruUo, .int ruSp, .int ruSs, .int ruUp, .int ruUs, .int ruNev])), (ruB, .inr (1, [.int ebKind, .int ebMonth, .int ebWeek, .int ebDay, .int ebTime, .int ebClock])), (ruE, .inr (1, [.int eeKind, .int eeMonth, .int eeWeek, .int eeDay, .int eeTime, .int eeClock]))] s.heap.size) s.heap s.heap [] := va_S.rf
    unfold f_Walk_init at hf
    exact k_Walk_init_0 C0 hST hA (hin rfl) (fun pc ls H locs hd hP hD hS hK => W.vret hx hb hr (fun t ht hW => ⟨⟨rfl, ⟨by rw [ht]; exact hP, va_K.moved hW.alike hK, hD⟩⟩, hS.F ht⟩) hS.2.2 hd) hf hK hP hD hS (lv_sub hl [0, 1, 2] rfl))
-- ZoneFiles$EdgeWalk.isSummer()Z
def f_Walk_isSummer_17 (nf : Nat) (s0 : Int32) : Option (Int32) :=
  if s0 = 0 ∨ s0 = 1 then some s0 else none
def f_Walk_isSummer_0 (nf : Nat) (kB : Int64) (kE : Int64) : Option (Int32) :=
  if kB < kE then
  f_Walk_isSummer_17 nf 0
  else
  f_Walk_isSummer_17 nf 1
def f_Walk_isSummer (nf : Nat) (kB : Int64) (kE : Int64) : Option (Int32) :=
  f_Walk_isSummer_0 nf kB kE
section
variable {p : Program} {l : Launch} {e : Env} {R : Room} {s : State} {m : MethodId} {args : Array Value} {below : List Frame} {meth : Method} {c : Code} {Q : State → Prop} {dC : Nat → ClassId} {dI : Nat → Nat → Nat} {nf : Nat}
variable {h0 : Nat} {kRule : Nat} {kBy : Int64} {kEy : Int64} {kB : Int64} {kE : Int64} {r0 : Int32}
set_option maxHeartbeats 400000 in
set_option maxRecDepth 100000 in
theorem k_Walk_isSummer_17 (C0 : Cx p s m meth c args R b_Walk_isSummer "ZoneFiles$EdgeWalk" 1 (some .boolean) 0 0) (hST : ST (fun _ => False) s s.heap) (hK : va_K (dC, dI) classes [] s) (hP : va_P (dC, dI) classes [(h0, .inr (2, [.ref kRule, .long kBy, .long kEy, .long kB, .long kE]))] s.heap) (hE : ∀ (pc : Nat) (ls : Array Slot), decode b_Walk_isSummer pc = .ok (.ireturn, 1) → narrow .boolean (.int r0) = .int r0 → W p l e R s m args below meth c s.heap [] 0 0 Q (F0 m pc ls [.int r0])) {s0 : Int32} (hf : f_Walk_isSummer_17 nf s0 = some r0) {ls : Array Slot} (hl : lv_has ls 1 []) : W p l e R s m args below meth c s.heap [] 0 0 Q (F0 m 17 ls [.int s0]) := by
  obtain ⟨hx, hb, hr, hml, hown, hts, hlocks, hRf, hRl⟩ := id C0
  obtain ⟨tms, hZms, hTms, tmg, hZmg, hTmg, hNW⟩ := id hST
  unfold f_Walk_isSummer_17 at hf
  obtain ⟨c_2, hf⟩ := it_g hf
  have e := rs hf
  subst e
  exact hE _ _ d_Walk_isSummer_17 (nb_of c_2)
set_option maxHeartbeats 400000 in
set_option maxRecDepth 100000 in
theorem k_Walk_isSummer_0 (C0 : Cx p s m meth c args R b_Walk_isSummer "ZoneFiles$EdgeWalk" 1 (some .boolean) 0 0) (hST : ST (fun _ => False) s s.heap) (hK : va_K (dC, dI) classes [] s) (hP : va_P (dC, dI) classes [(h0, .inr (2, [.ref kRule, .long kBy, .long kEy, .long kB, .long kE]))] s.heap) (hE : ∀ (pc : Nat) (ls : Array Slot), decode b_Walk_isSummer pc = .ok (.ireturn, 1) → narrow .boolean (.int r0) = .int r0 → W p l e R s m args below meth c s.heap [] 0 0 Q (F0 m pc ls [.int r0])) (hf : f_Walk_isSummer_0 nf kB kE = some r0) {ls : Array Slot} (hl : lv_has ls 1 [(0, .ref h0)]) : W p l e R s m args below meth c s.heap [] 0 0 Q (F0 m 0 ls []) := by
  obtain ⟨hx, hb, hr, hml, hown, hts, hlocks, hRf, hRl⟩ := id C0
  obtain ⟨tms, hZms, hTms, tmg, hZmg, hTmg, hNW⟩ := id hST
  unfold f_Walk_isSummer_0 at hf
  refine lv_aload_n hx hb d_Walk_isSummer_0 rfl (lv_at hl 0 rfl) ?_
  refine va_get (D := (dC, dI)) (ci := 2) (v := .long kB) (C := REdgeWalk) (T := TEdgeWalk) (N := 5) hx hb hts in_EdgeWalk hown hK hP 0 rfl rfl 3 (by decide) (hts (.fieldLink "ZoneFiles$EdgeWalk" 38 "ZoneFiles$EdgeWalk" "begin" "J") m_5_166) (fun _ h9 => h9) rfl d_Walk_isSummer_1 ?_
  refine lv_aload_n hx hb d_Walk_isSummer_4 rfl (lv_at hl 0 rfl) ?_
  refine va_get (D := (dC, dI)) (ci := 2) (v := .long kE) (C := REdgeWalk) (T := TEdgeWalk) (N := 5) hx hb hts in_EdgeWalk hown hK hP 0 rfl rfl 4 (by decide) (hts (.fieldLink "ZoneFiles$EdgeWalk" 40 "ZoneFiles$EdgeWalk" "end" "J") m_5_167) (fun _ h9 => h9) rfl d_Walk_isSummer_5 ?_
  refine lc_lt (tgt := 16) hx hb d_Walk_isSummer_8 d_Walk_isSummer_9 (by decide) (fun c_1 => ?_) (fun c_1 => ?_)
  · have hf := it_t c_1 hf
    refine lv_iconst (v := 0) hx hb d_Walk_isSummer_16 (by decide) ?_
    exact k_Walk_isSummer_17 C0 hST hK hP hE hf (lv_sub hl [] rfl)
  · have hf := it_f c_1 hf
    refine lv_iconst (v := 1) hx hb d_Walk_isSummer_12 (by decide) ?_
    refine lv_goto (tgt := 17) hx hb d_Walk_isSummer_13 (by decide) ?_
    exact k_Walk_isSummer_17 C0 hST hK hP hE hf (lv_sub hl [] rfl)
end
set_option maxHeartbeats 400000 in
set_option maxRecDepth 100000 in
theorem c_Walk_isSummer (l : Launch) (dC : Nat → ClassId) (dI : Nat → Nat → Nat) (h0 : Nat) (kRule : Nat) (nf : Nat) (kBy : Int64) (kEy : Int64) (kB : Int64) (kE : Int64) {r0 : Int32} (hf : f_Walk_isSummer nf kB kE = some r0) : Met l y_Walk_isSummer (wd y_Walk_isSummer b_Walk_isSummer 1 (some .boolean)) ({ frames := 0, cells := 0, slots := 0, locals := 0 }) (RO dC dI [(h0, .inr (2, [.ref kRule, .long kBy, .long kEy, .long kB, .long kE]))] [] [.ref h0]) (SV (some (.int r0))) 0 0 (fun _ => False) :=
  met_S (plainFor_of_name (by decide)) (Nat.le_of_ble_eq_true rfl) (fun p e R s m args below meth c ls C0 hST hK hP hl => by
    obtain ⟨hx, hb, hr, hml, hown, hts, hlocks, hRf, hRl⟩ := id C0
    unfold f_Walk_isSummer at hf
    exact k_Walk_isSummer_0 C0 hST hK hP (fun pc ls hd hn => W.zret hx hb hr hn (fun t ht hW => ⟨rfl, ht⟩) (fun q h => by cases h) hd) hf (lv_sub hl [0] rfl))
-- ZoneFiles$EdgeWalk.moment()J
def f_Walk_moment_0 (nf : Nat) (kB : Int64) (kE : Int64) : Option (Int64) :=
  some (if kE < kB then kB else kE)
def f_Walk_moment (nf : Nat) (kB : Int64) (kE : Int64) : Option (Int64) :=
  f_Walk_moment_0 nf kB kE
section
variable {p : Program} {l : Launch} {e : Env} {R : Room} {s : State} {m : MethodId} {args : Array Value} {below : List Frame} {meth : Method} {c : Code} {Q : State → Prop} {dC : Nat → ClassId} {dI : Nat → Nat → Nat} {nf : Nat}
variable {h0 : Nat} {kRule : Nat} {kBy : Int64} {kEy : Int64} {kB : Int64} {kE : Int64} {r0 : Int64}
set_option maxHeartbeats 400000 in
set_option maxRecDepth 100000 in
theorem k_Walk_moment_0 (C0 : Cx p s m meth c args R b_Walk_moment "ZoneFiles$EdgeWalk" 1 (some .long) 1 15) (hST : ST (fun _ => False) s s.heap) (hK : va_K (dC, dI) classes [] s) (hP : va_P (dC, dI) classes [(h0, .inr (2, [.ref kRule, .long kBy, .long kEy, .long kB, .long kE]))] s.heap) (hE : ∀ (pc : Nat) (ls : Array Slot), decode b_Walk_moment pc = .ok (.lreturn, 1) → W p l e R s m args below meth c s.heap [] 0 0 Q (F0 m pc ls [.long r0])) (hf : f_Walk_moment_0 nf kB kE = some r0) {ls : Array Slot} (hl : lv_has ls 1 [(0, .ref h0)]) : W p l e R s m args below meth c s.heap [] 0 0 Q (F0 m 0 ls []) := by
  obtain ⟨hx, hb, hr, hml, hown, hts, hlocks, hRf, hRl⟩ := id C0
  obtain ⟨tms, hZms, hTms, tmg, hZmg, hTmg, hNW⟩ := id hST
  unfold f_Walk_moment_0 at hf
  refine lv_aload_n hx hb d_Walk_moment_0 rfl (lv_at hl 0 rfl) ?_
  refine va_get (D := (dC, dI)) (ci := 2) (v := .long kB) (C := REdgeWalk) (T := TEdgeWalk) (N := 5) hx hb hts in_EdgeWalk hown hK hP 0 rfl rfl 3 (by decide) (hts (.fieldLink "ZoneFiles$EdgeWalk" 38 "ZoneFiles$EdgeWalk" "begin" "J") m_5_166) (fun _ h9 => h9) rfl d_Walk_moment_1 ?_
  refine lv_aload_n hx hb d_Walk_moment_4 rfl (lv_at hl 0 rfl) ?_
  refine va_get (D := (dC, dI)) (ci := 2) (v := .long kE) (C := REdgeWalk) (T := TEdgeWalk) (N := 5) hx hb hts in_EdgeWalk hown hK hP 0 rfl rfl 4 (by decide) (hts (.fieldLink "ZoneFiles$EdgeWalk" 40 "ZoneFiles$EdgeWalk" "end" "J") m_5_167) (fun _ h9 => h9) rfl d_Walk_moment_5 ?_
  refine va_mmax_long hx hb (by rw [hml]; exact hl.1.symm) hown (hts (.methodLink "ZoneFiles$EdgeWalk" 42 ⟨"java/lang/Math", "max", "(JJ)J"⟩) m_5_191) (hts (.static ⟨"java/lang/Math", "max", "(JJ)J"⟩) m_5_148) (hts (.initialized "java/lang/Math") m_1_7) (hts (.code ⟨"java/lang/Math", "max", "(JJ)J"⟩ prog_20_method_66_code 4 (some .long)) m_5_149) (Nat.le_trans (Nat.le_of_ble_eq_true rfl) hRf) (Nat.le_trans (Nat.le_of_ble_eq_true rfl) hRl) (Nat.zero_le _) (Nat.zero_le _) d_Walk_moment_8 ?_
  have e := rs hf
  subst e
  exact hE _ _ d_Walk_moment_11
end
set_option maxHeartbeats 400000 in
set_option maxRecDepth 100000 in
theorem c_Walk_moment (l : Launch) (dC : Nat → ClassId) (dI : Nat → Nat → Nat) (h0 : Nat) (kRule : Nat) (nf : Nat) (kBy : Int64) (kEy : Int64) (kB : Int64) (kE : Int64) {r0 : Int64} (hf : f_Walk_moment nf kB kE = some r0) : Met l y_Walk_moment (wd y_Walk_moment b_Walk_moment 1 (some .long)) ({ frames := 1, cells := 0, slots := 0, locals := 15 }) (RO dC dI [(h0, .inr (2, [.ref kRule, .long kBy, .long kEy, .long kB, .long kE]))] [] [.ref h0]) (SV (some (.long r0))) 0 0 (fun _ => False) :=
  met_S (plainFor_of_name (by decide)) (Nat.le_of_ble_eq_true rfl) (fun p e R s m args below meth c ls C0 hST hK hP hl => by
    obtain ⟨hx, hb, hr, hml, hown, hts, hlocks, hRf, hRl⟩ := id C0
    unfold f_Walk_moment at hf
    exact k_Walk_moment_0 C0 hST hK hP (fun pc ls hd => W.lret hx hb hr (fun t ht hW => ⟨rfl, ht⟩) (fun q h => by cases h) hd) hf (lv_sub hl [0] rfl))
-- ZoneFiles$EdgeWalk.goForward()V
def f_Walk_goForward_76 (nf : Nat) (w0_1 : Int64) (w0_2 : Int64) (w0_3 : Int64) (w0_4 : Int64) : Option (Int64 × Int64 × Int64 × Int64) :=
  some (w0_1, w0_2, w0_3, w0_4)
def f_Walk_goForward_55 (nf : Nat) (x3 : Int64) (x1 : Int64) (w0_1 : Int64) (w0_2 : Int64) (w0_3 : Int64) (w0_4 : Int64) : Option (Int64 × Int64 × Int64 × Int64) :=
  if x1 < x3 then
  f_Walk_goForward_76 nf w0_1 w0_2 w0_3 w0_4
  else
  f_Walk_goForward_76 nf w0_1 (w0_2 + 1) w0_3 x3
def f_Walk_goForward_0 (nf : Nat) (ebKind : Int32) (ebMonth : Int32) (ebWeek : Int32) (ebDay : Int32) (ebTime : Int32) (ebClock : Int32) (eeKind : Int32) (eeMonth : Int32) (eeWeek : Int32) (eeDay : Int32) (eeTime : Int32) (eeClock : Int32) (w0_1 : Int64) (w0_2 : Int64) (w0_3 : Int64) (w0_4 : Int64) : Option (Int64 × Int64 × Int64 × Int64) :=
  (f_Edge_momentIn nf (w0_1 + 1) ebKind ebMonth ebWeek ebDay ebTime ebClock).bind fun r_1 =>
  (f_Edge_momentIn nf (w0_2 + 1) eeKind eeMonth eeWeek eeDay eeTime eeClock).bind fun r_2 =>
  if r_2 < r_1 then
  f_Walk_goForward_55 nf r_2 r_1 w0_1 w0_2 w0_3 w0_4
  else
  f_Walk_goForward_55 nf r_2 r_1 (w0_1 + 1) w0_2 r_1 w0_4
def f_Walk_goForward (nf : Nat) (kBy : Int64) (kEy : Int64) (kB : Int64) (kE : Int64) (ebKind : Int32) (ebMonth : Int32) (ebWeek : Int32) (ebDay : Int32) (ebTime : Int32) (ebClock : Int32) (eeKind : Int32) (eeMonth : Int32) (eeWeek : Int32) (eeDay : Int32) (eeTime : Int32) (eeClock : Int32) : Option (Int64 × Int64 × Int64 × Int64) :=
  f_Walk_goForward_0 nf ebKind ebMonth ebWeek ebDay ebTime ebClock eeKind eeMonth eeWeek eeDay eeTime eeClock kBy kEy kB kE
section
variable {p : Program} {l : Launch} {e : Env} {R : Room} {s : State} {m : MethodId} {args : Array Value} {below : List Frame} {meth : Method} {c : Code} {Q : State → Prop} {dC : Nat → ClassId} {dI : Nat → Nat → Nat} {nf : Nat} {A : Nat → Prop}
variable {h0 : Nat} {kRule : Nat} {ruT : Nat} {ruB : Nat} {ruE : Nat} {kBy : Int64} {kEy : Int64} {kB : Int64} {kE : Int64} {ruHas : Int32} {ruWide : Int32} {ruSo : Int32} {ruUo : Int32} {ruSp : Int32} {ruSs : Int32} {ruUp : Int32} {ruUs : Int32} {ruNev : Int32} {ebKind : Int32} {ebMonth : Int32} {ebWeek : Int32} {ebDay : Int32} {ebTime : Int32} {ebClock : Int32} {eeKind : Int32} {eeMonth : Int32} {eeWeek : Int32} {eeDay : Int32} {eeTime : Int32} {eeClock : Int32} {v0_1 : Int64} {v0_2 : Int64} {v0_3 : Int64} {v0_4 : Int64}
set_option maxHeartbeats 400000 in
set_option maxRecDepth 100000 in
theorem k_Walk_goForward_76 (C0 : Cx p s m meth c args R b_Walk_goForward "ZoneFiles$EdgeWalk" 5 none 3 78) (hST : ST A s s.heap) (hA : ∀ q, s.heap.size ≤ q → A q) (hE : ∀ (pc : Nat) (ls : Array Slot) (H : Heap) (locs : List Loc), decode b_Walk_goForward pc = .ok (.return_, 1) → va_P (dC, dI) classes [(h0, .inr (2, [.ref kRule, .long v0_1, .long v0_2, .long v0_3, .long v0_4])), (kRule, .inr (5, [.ref ruT, .ref ruB, .ref ruE, .int ruHas, .int ruWide, .int ruSo, .int ruUo, .int ruSp, .int ruSs, .int ruUp, .int ruUs, .int ruNev])), (ruB, .inr (1, [.int ebKind, .int ebMonth, .int ebWeek, .int ebDay, .int ebTime, .int ebClock])), (ruE, .inr (1, [.int eeKind, .int eeMonth, .int eeWeek, .int eeDay, .int eeTime, .int eeClock]))] H → va_D A [(h0, .inr (2, [.ref kRule, .long v0_1, .long v0_2, .long v0_3, .long v0_4])), (kRule, .inr (5, [.ref ruT, .ref ruB, .ref ruE, .int ruHas, .int ruWide, .int ruSo, .int ruUo, .int ruSp, .int ruSs, .int ruUp, .int ruUs, .int ruNev])), (ruB, .inr (1, [.int ebKind, .int ebMonth, .int ebWeek, .int ebDay, .int ebTime, .int ebClock])), (ruE, .inr (1, [.int eeKind, .int eeMonth, .int eeWeek, .int eeDay, .int eeTime, .int eeClock]))] → va_S A s.heap H locs → va_K (dC, dI) classes [] s → W p l e R s m args below meth c H locs 0 0 Q (F0 m pc ls [])) {w0_1 : Int64} {w0_2 : Int64} {w0_3 : Int64} {w0_4 : Int64} (hf : f_Walk_goForward_76 nf w0_1 w0_2 w0_3 w0_4 = some (v0_1, v0_2, v0_3, v0_4)) {H : Heap} {locs : List Loc} {ls : Array Slot} (hK : va_K (dC, dI) classes [] s) (hP : va_P (dC, dI) classes [(h0, .inr (2, [.ref kRule, .long w0_1, .long w0_2, .long w0_3, .long w0_4])), (kRule, .inr (5, [.ref ruT, .ref ruB, .ref ruE, .int ruHas, .int ruWide, .int ruSo, .int ruUo, .int ruSp, .int ruSs, .int ruUp, .int ruUs, .int ruNev])), (ruB, .inr (1, [.int ebKind, .int ebMonth, .int ebWeek, .int ebDay, .int ebTime, .int ebClock])), (ruE, .inr (1, [.int eeKind, .int eeMonth, .int eeWeek, .int eeDay, .int eeTime, .int eeClock]))] H) (hD : va_D A [(h0, .inr (2, [.ref kRule, .long w0_1, .long w0_2, .long w0_3, .long w0_4])), (kRule, .inr (5, [.ref ruT, .ref ruB, .ref ruE, .int ruHas, .int ruWide, .int ruSo, .int ruUo, .int ruSp, .int ruSs, .int ruUp, .int ruUs, .int ruNev])), (ruB, .inr (1, [.int ebKind, .int ebMonth, .int ebWeek, .int ebDay, .int ebTime, .int ebClock])), (ruE, .inr (1, [.int eeKind, .int eeMonth, .int eeWeek, .int eeDay, .int eeTime, .int eeClock]))]) (hS : va_S A s.heap H locs) (hl : lv_has ls 5 []) : W p l e R s m args below meth c H locs 0 0 Q (F0 m 76 ls []) := by
  obtain ⟨hx, hb, hr, hml, hown, hts, hlocks, hRf, hRl⟩ := id C0
  obtain ⟨tms, hZms, hTms, tmg, hZmg, hTmg, hNW⟩ := id hST
  unfold f_Walk_goForward_76 at hf
  cases rs hf
  exact hE _ _ _ _ d_Walk_goForward_76 hP hD hS hK
set_option maxHeartbeats 400000 in
set_option maxRecDepth 100000 in
theorem k_Walk_goForward_55 (C0 : Cx p s m meth c args R b_Walk_goForward "ZoneFiles$EdgeWalk" 5 none 3 78) (hST : ST A s s.heap) (hA : ∀ q, s.heap.size ≤ q → A q) (hE : ∀ (pc : Nat) (ls : Array Slot) (H : Heap) (locs : List Loc), decode b_Walk_goForward pc = .ok (.return_, 1) → va_P (dC, dI) classes [(h0, .inr (2, [.ref kRule, .long v0_1, .long v0_2, .long v0_3, .long v0_4])), (kRule, .inr (5, [.ref ruT, .ref ruB, .ref ruE, .int ruHas, .int ruWide, .int ruSo, .int ruUo, .int ruSp, .int ruSs, .int ruUp, .int ruUs, .int ruNev])), (ruB, .inr (1, [.int ebKind, .int ebMonth, .int ebWeek, .int ebDay, .int ebTime, .int ebClock])), (ruE, .inr (1, [.int eeKind, .int eeMonth, .int eeWeek, .int eeDay, .int eeTime, .int eeClock]))] H → va_D A [(h0, .inr (2, [.ref kRule, .long v0_1, .long v0_2, .long v0_3, .long v0_4])), (kRule, .inr (5, [.ref ruT, .ref ruB, .ref ruE, .int ruHas, .int ruWide, .int ruSo, .int ruUo, .int ruSp, .int ruSs, .int ruUp, .int ruUs, .int ruNev])), (ruB, .inr (1, [.int ebKind, .int ebMonth, .int ebWeek, .int ebDay, .int ebTime, .int ebClock])), (ruE, .inr (1, [.int eeKind, .int eeMonth, .int eeWeek, .int eeDay, .int eeTime, .int eeClock]))] → va_S A s.heap H locs → va_K (dC, dI) classes [] s → W p l e R s m args below meth c H locs 0 0 Q (F0 m pc ls [])) {x3 : Int64} {x1 : Int64} {w0_1 : Int64} {w0_2 : Int64} {w0_3 : Int64} {w0_4 : Int64} (hf : f_Walk_goForward_55 nf x3 x1 w0_1 w0_2 w0_3 w0_4 = some (v0_1, v0_2, v0_3, v0_4)) {H : Heap} {locs : List Loc} {ls : Array Slot} (hK : va_K (dC, dI) classes [] s) (hP : va_P (dC, dI) classes [(h0, .inr (2, [.ref kRule, .long w0_1, .long w0_2, .long w0_3, .long w0_4])), (kRule, .inr (5, [.ref ruT, .ref ruB, .ref ruE, .int ruHas, .int ruWide, .int ruSo, .int ruUo, .int ruSp, .int ruSs, .int ruUp, .int ruUs, .int ruNev])), (ruB, .inr (1, [.int ebKind, .int ebMonth, .int ebWeek, .int ebDay, .int ebTime, .int ebClock])), (ruE, .inr (1, [.int eeKind, .int eeMonth, .int eeWeek, .int eeDay, .int eeTime, .int eeClock]))] H) (hD : va_D A [(h0, .inr (2, [.ref kRule, .long w0_1, .long w0_2, .long w0_3, .long w0_4])), (kRule, .inr (5, [.ref ruT, .ref ruB, .ref ruE, .int ruHas, .int ruWide, .int ruSo, .int ruUo, .int ruSp, .int ruSs, .int ruUp, .int ruUs, .int ruNev])), (ruB, .inr (1, [.int ebKind, .int ebMonth, .int ebWeek, .int ebDay, .int ebTime, .int ebClock])), (ruE, .inr (1, [.int eeKind, .int eeMonth, .int eeWeek, .int eeDay, .int eeTime, .int eeClock]))]) (hS : va_S A s.heap H locs) (hl : lv_has ls 5 [(3, .long x3), (1, .long x1), (0, .ref h0)]) : W p l e R s m args below meth c H locs 0 0 Q (F0 m 55 ls []) := by
  obtain ⟨hx, hb, hr, hml, hown, hts, hlocks, hRf, hRl⟩ := id C0
  obtain ⟨tms, hZms, hTms, tmg, hZmg, hTmg, hNW⟩ := id hST
  unfold f_Walk_goForward_55 at hf
  refine lv_lload_n hx hb d_Walk_goForward_55 rfl (lv_at hl 0 rfl) ?_
  refine lv_lload_n hx hb d_Walk_goForward_56 rfl (lv_at hl 1 rfl) ?_
  refine lc_gt (tgt := 76) hx hb d_Walk_goForward_57 d_Walk_goForward_58 (by decide) (fun c_4 => ?_) (fun c_4 => ?_)
  · have hf := it_t c_4 hf
    exact k_Walk_goForward_76 C0 hST hA hE hf hK hP hD hS (lv_sub hl [] rfl)
  · have hf := it_f c_4 hf
    refine lv_aload_n hx hb d_Walk_goForward_61 rfl (lv_at hl 2 rfl) ?_
    refine lv_dup hx hb d_Walk_goForward_62 rfl ?_
    refine va_get (D := (dC, dI)) (ci := 2) (v := .long w0_2) (C := REdgeWalk) (T := TEdgeWalk) (N := 5) hx hb hts in_EdgeWalk hown hK hP 0 rfl rfl 2 (by decide) (hts (.fieldLink "ZoneFiles$EdgeWalk" 32 "ZoneFiles$EdgeWalk" "endYear" "J") m_5_165) (fun _ h9 => h9) rfl d_Walk_goForward_63 ?_
    refine lv_lconst (v := 1) hx hb d_Walk_goForward_66 (by decide) ?_
    refine lv_ladd hx hb d_Walk_goForward_67 ?_
    refine va_put (D := (dC, dI)) (ci := 2) (v := .long (w0_2 + 1)) (ty := .long) (C := REdgeWalk) (T := TEdgeWalk) (N := 5) hx hb hts in_EdgeWalk tyEdgeWalk ty_EdgeWalk nm_EdgeWalk hown hK hP hD hS 0 rfl rfl 2 (by decide) (hts (.fieldLink "ZoneFiles$EdgeWalk" 32 "ZoneFiles$EdgeWalk" "endYear" "J") m_5_165) (fun _ h9 => h9) rfl (by decide +kernel) rfl rfl (Nat.le_of_ble_eq_true rfl) d_Walk_goForward_68 (fun H locs hP hD hS => ?_)
    have hP : va_P (dC, dI) classes [(h0, .inr (2, [.ref kRule, .long w0_1, .long (w0_2 + 1), .long w0_3, .long w0_4])), (kRule, .inr (5, [.ref ruT, .ref ruB, .ref ruE, .int ruHas, .int ruWide, .int ruSo, .int ruUo, .int ruSp, .int ruSs, .int ruUp, .int ruUs, .int ruNev])), (ruB, .inr (1, [.int ebKind, .int ebMonth, .int ebWeek, .int ebDay, .int ebTime, .int ebClock])), (ruE, .inr (1, [.int eeKind, .int eeMonth, .int eeWeek, .int eeDay, .int eeTime, .int eeClock]))] H := hP
    have hD : va_D A [(h0, .inr (2, [.ref kRule, .long w0_1, .long (w0_2 + 1), .long w0_3, .long w0_4])), (kRule, .inr (5, [.ref ruT, .ref ruB, .ref ruE, .int ruHas, .int ruWide, .int ruSo, .int ruUo, .int ruSp, .int ruSs, .int ruUp, .int ruUs, .int ruNev])), (ruB, .inr (1, [.int ebKind, .int ebMonth, .int ebWeek, .int ebDay, .int ebTime, .int ebClock])), (ruE, .inr (1, [.int eeKind, .int eeMonth, .int eeWeek, .int eeDay, .int eeTime, .int eeClock]))] := hD
    refine lv_aload_n hx hb d_Walk_goForward_71 rfl (lv_at hl 2 rfl) ?_
    refine lv_lload_n hx hb d_Walk_goForward_72 rfl (lv_at hl 0 rfl) ?_
    refine va_put (D := (dC, dI)) (ci := 2) (v := .long x3) (ty := .long) (C := REdgeWalk) (T := TEdgeWalk) (N := 5) hx hb hts in_EdgeWalk tyEdgeWalk ty_EdgeWalk nm_EdgeWalk hown hK hP hD hS 0 rfl rfl 4 (by decide) (hts (.fieldLink "ZoneFiles$EdgeWalk" 40 "ZoneFiles$EdgeWalk" "end" "J") m_5_167) (fun _ h9 => h9) rfl (by decide +kernel) rfl rfl (Nat.le_of_ble_eq_true rfl) d_Walk_goForward_73 (fun H locs hP hD hS => ?_)
    have hP : va_P (dC, dI) classes [(h0, .inr (2, [.ref kRule, .long w0_1, .long (w0_2 + 1), .long w0_3, .long x3])), (kRule, .inr (5, [.ref ruT, .ref ruB, .ref ruE, .int ruHas, .int ruWide, .int ruSo, .int ruUo, .int ruSp, .int ruSs, .int ruUp, .int ruUs, .int ruNev])), (ruB, .inr (1, [.int ebKind, .int ebMonth, .int ebWeek, .int ebDay, .int ebTime, .int ebClock])), (ruE, .inr (1, [.int eeKind, .int eeMonth, .int eeWeek, .int eeDay, .int eeTime, .int eeClock]))] H := hP
    have hD : va_D A [(h0, .inr (2, [.ref kRule, .long w0_1, .long (w0_2 + 1), .long w0_3, .long x3])), (kRule, .inr (5, [.ref ruT, .ref ruB, .ref ruE, .int ruHas, .int ruWide, .int ruSo, .int ruUo, .int ruSp, .int ruSs, .int ruUp, .int ruUs, .int ruNev])), (ruB, .inr (1, [.int ebKind, .int ebMonth, .int ebWeek, .int ebDay, .int ebTime, .int ebClock])), (ruE, .inr (1, [.int eeKind, .int eeMonth, .int eeWeek, .int eeDay, .int eeTime, .int eeClock]))] := hD
    exact k_Walk_goForward_76 C0 hST hA hE hf hK hP hD hS (lv_sub hl [] rfl)
set_option maxHeartbeats 400000 in
set_option maxRecDepth 100000 in
theorem k_Walk_goForward_0 (C0 : Cx p s m meth c args R b_Walk_goForward "ZoneFiles$EdgeWalk" 5 none 3 78) (hST : ST A s s.heap) (hA : ∀ q, s.heap.size ≤ q → A q) (hE : ∀ (pc : Nat) (ls : Array Slot) (H : Heap) (locs : List Loc), decode b_Walk_goForward pc = .ok (.return_, 1) → va_P (dC, dI) classes [(h0, .inr (2, [.ref kRule, .long v0_1, .long v0_2, .long v0_3, .long v0_4])), (kRule, .inr (5, [.ref ruT, .ref ruB, .ref ruE, .int ruHas, .int ruWide, .int ruSo, .int ruUo, .int ruSp, .int ruSs, .int ruUp, .int ruUs, .int ruNev])), (ruB, .inr (1, [.int ebKind, .int ebMonth, .int ebWeek, .int ebDay, .int ebTime, .int ebClock])), (ruE, .inr (1, [.int eeKind, .int eeMonth, .int eeWeek, .int eeDay, .int eeTime, .int eeClock]))] H → va_D A [(h0, .inr (2, [.ref kRule, .long v0_1, .long v0_2, .long v0_3, .long v0_4])), (kRule, .inr (5, [.ref ruT, .ref ruB, .ref ruE, .int ruHas, .int ruWide, .int ruSo, .int ruUo, .int ruSp, .int ruSs, .int ruUp, .int ruUs, .int ruNev])), (ruB, .inr (1, [.int ebKind, .int ebMonth, .int ebWeek, .int ebDay, .int ebTime, .int ebClock])), (ruE, .inr (1, [.int eeKind, .int eeMonth, .int eeWeek, .int eeDay, .int eeTime, .int eeClock]))] → va_S A s.heap H locs → va_K (dC, dI) classes [] s → W p l e R s m args below meth c H locs 0 0 Q (F0 m pc ls [])) {w0_1 : Int64} {w0_2 : Int64} {w0_3 : Int64} {w0_4 : Int64} (hf : f_Walk_goForward_0 nf ebKind ebMonth ebWeek ebDay ebTime ebClock eeKind eeMonth eeWeek eeDay eeTime eeClock w0_1 w0_2 w0_3 w0_4 = some (v0_1, v0_2, v0_3, v0_4)) {H : Heap} {locs : List Loc} {ls : Array Slot} (hK : va_K (dC, dI) classes [] s) (hP : va_P (dC, dI) classes [(h0, .inr (2, [.ref kRule, .long w0_1, .long w0_2, .long w0_3, .long w0_4])), (kRule, .inr (5, [.ref ruT, .ref ruB, .ref ruE, .int ruHas, .int ruWide, .int ruSo, .int ruUo, .int ruSp, .int ruSs, .int ruUp, .int ruUs, .int ruNev])), (ruB, .inr (1, [.int ebKind, .int ebMonth, .int ebWeek, .int ebDay, .int ebTime, .int ebClock])), (ruE, .inr (1, [.int eeKind, .int eeMonth, .int eeWeek, .int eeDay, .int eeTime, .int eeClock]))] H) (hD : va_D A [(h0, .inr (2, [.ref kRule, .long w0_1, .long w0_2, .long w0_3, .long w0_4])), (kRule, .inr (5, [.ref ruT, .ref ruB, .ref ruE, .int ruHas, .int ruWide, .int ruSo, .int ruUo, .int ruSp, .int ruSs, .int ruUp, .int ruUs, .int ruNev])), (ruB, .inr (1, [.int ebKind, .int ebMonth, .int ebWeek, .int ebDay, .int ebTime, .int ebClock])), (ruE, .inr (1, [.int eeKind, .int eeMonth, .int eeWeek, .int eeDay, .int eeTime, .int eeClock]))]) (hS : va_S A s.heap H locs) (hl : lv_has ls 5 [(0, .ref h0)]) : W p l e R s m args below meth c H locs 0 0 Q (F0 m 0 ls []) := by
  obtain ⟨hx, hb, hr, hml, hown, hts, hlocks, hRf, hRl⟩ := id C0
  obtain ⟨tms, hZms, hTms, tmg, hZmg, hTmg, hNW⟩ := id hST
  unfold f_Walk_goForward_0 at hf
  refine lv_aload_n hx hb d_Walk_goForward_0 rfl (lv_at hl 0 rfl) ?_
  refine va_get (D := (dC, dI)) (ci := 2) (v := .ref kRule) (C := REdgeWalk) (T := TEdgeWalk) (N := 5) hx hb hts in_EdgeWalk hown hK hP 0 rfl rfl 0 (by decide) (hts (.fieldLink "ZoneFiles$EdgeWalk" 7 "ZoneFiles$EdgeWalk" "rule" "LZoneFiles$Rule;") m_5_163) (fun _ h9 => h9) rfl d_Walk_goForward_1 ?_
  refine va_get (D := (dC, dI)) (ci := 5) (v := .ref ruB) (C := RRule) (T := TRule) (N := 12) hx hb hts in_Rule hown hK hP 1 rfl rfl 1 (by decide) (hts (.fieldLink "ZoneFiles$EdgeWalk" 13 "ZoneFiles$Rule" "begin" "LZoneFiles$Edge;") m_1_106) (fun _ h9 => h9) rfl d_Walk_goForward_4 ?_
  refine lv_aload_n hx hb d_Walk_goForward_7 rfl (lv_at hl 0 rfl) ?_
  refine va_get (D := (dC, dI)) (ci := 2) (v := .long w0_1) (C := REdgeWalk) (T := TEdgeWalk) (N := 5) hx hb hts in_EdgeWalk hown hK hP 0 rfl rfl 1 (by decide) (hts (.fieldLink "ZoneFiles$EdgeWalk" 25 "ZoneFiles$EdgeWalk" "beginYear" "J") m_5_164) (fun _ h9 => h9) rfl d_Walk_goForward_8 ?_
  refine lv_lconst (v := 1) hx hb d_Walk_goForward_11 (by decide) ?_
  refine lv_ladd hx hb d_Walk_goForward_12 ?_
  obtain ⟨r_1, hc, hf⟩ := ob hf
  refine cl_S (v := (some (.long r_1))) (st1 := [.long r_1]) (va_runV (As := [.long (w0_1 + 1)]) (rest := []) ⟨hx, hb, hml, hown, hts⟩ (c_Edge_momentIn l dC dI ruB nf (w0_1 + 1) ebKind ebMonth ebWeek ebDay ebTime ebClock hc) (cwV 1 hts (gdV m_5_162 m_4_178 m_4_179 m_1_5 m_4_180) rfl rfl rfl (by decide +kernel) ⟨Nat.le_trans (Nat.le_of_ble_eq_true rfl) hRf, Nat.le_trans (Nat.le_of_ble_eq_true rfl) hRl⟩) ((RO.pre (hP.sub (ws' := [(ruB, .inr (1, [.int ebKind, .int ebMonth, .int ebWeek, .int ebDay, .int ebTime, .int ebClock]))]) [2] rfl) (hK.sub (tys' := []) [] rfl) (hST.ro hS)).vir (va_recv (hK.sub (tys' := []) [] rfl) (hP.sub (ws' := [(ruB, .inr (1, [.int ebKind, .int ebMonth, .int ebWeek, .int ebDay, .int ebTime, .int ebClock]))]) [2] rfl) (ci := 1) (q0 := 0) rfl rfl)) rfl rfl hl.1 rfl (lv_room (Nat.le_of_ble_eq_true rfl)) d_Walk_goForward_13 ⟨Nat.zero_le _, Nat.zero_le _⟩) rfl ?_
  refine lv_lstore_n (lv' := [(1, .long r_1), (0, .ref h0)]) hx hb d_Walk_goForward_16 rfl hl (by decide) rfl (fun ls hl => ?_)
  refine lv_aload_n hx hb d_Walk_goForward_17 rfl (lv_at hl 1 rfl) ?_
  refine va_get (D := (dC, dI)) (ci := 2) (v := .ref kRule) (C := REdgeWalk) (T := TEdgeWalk) (N := 5) hx hb hts in_EdgeWalk hown hK hP 0 rfl rfl 0 (by decide) (hts (.fieldLink "ZoneFiles$EdgeWalk" 7 "ZoneFiles$EdgeWalk" "rule" "LZoneFiles$Rule;") m_5_163) (fun _ h9 => h9) rfl d_Walk_goForward_18 ?_
  refine va_get (D := (dC, dI)) (ci := 5) (v := .ref ruE) (C := RRule) (T := TRule) (N := 12) hx hb hts in_Rule hown hK hP 1 rfl rfl 2 (by decide) (hts (.fieldLink "ZoneFiles$EdgeWalk" 29 "ZoneFiles$Rule" "end" "LZoneFiles$Edge;") m_1_109) (fun _ h9 => h9) rfl d_Walk_goForward_21 ?_
  refine lv_aload_n hx hb d_Walk_goForward_24 rfl (lv_at hl 1 rfl) ?_
  refine va_get (D := (dC, dI)) (ci := 2) (v := .long w0_2) (C := REdgeWalk) (T := TEdgeWalk) (N := 5) hx hb hts in_EdgeWalk hown hK hP 0 rfl rfl 2 (by decide) (hts (.fieldLink "ZoneFiles$EdgeWalk" 32 "ZoneFiles$EdgeWalk" "endYear" "J") m_5_165) (fun _ h9 => h9) rfl d_Walk_goForward_25 ?_
  refine lv_lconst (v := 1) hx hb d_Walk_goForward_28 (by decide) ?_
  refine lv_ladd hx hb d_Walk_goForward_29 ?_
  obtain ⟨r_2, hc, hf⟩ := ob hf
  refine cl_S (v := (some (.long r_2))) (st1 := [.long r_2]) (va_runV (As := [.long (w0_2 + 1)]) (rest := []) ⟨hx, hb, hml, hown, hts⟩ (c_Edge_momentIn l dC dI ruE nf (w0_2 + 1) eeKind eeMonth eeWeek eeDay eeTime eeClock hc) (cwV 1 hts (gdV m_5_162 m_4_178 m_4_179 m_1_5 m_4_180) rfl rfl rfl (by decide +kernel) ⟨Nat.le_trans (Nat.le_of_ble_eq_true rfl) hRf, Nat.le_trans (Nat.le_of_ble_eq_true rfl) hRl⟩) ((RO.pre (hP.sub (ws' := [(ruE, .inr (1, [.int eeKind, .int eeMonth, .int eeWeek, .int eeDay, .int eeTime, .int eeClock]))]) [3] rfl) (hK.sub (tys' := []) [] rfl) (hST.ro hS)).vir (va_recv (hK.sub (tys' := []) [] rfl) (hP.sub (ws' := [(ruE, .inr (1, [.int eeKind, .int eeMonth, .int eeWeek, .int eeDay, .int eeTime, .int eeClock]))]) [3] rfl) (ci := 1) (q0 := 0) rfl rfl)) rfl rfl hl.1 rfl (lv_room (Nat.le_of_ble_eq_true rfl)) d_Walk_goForward_30 ⟨Nat.zero_le _, Nat.zero_le _⟩) rfl ?_
  refine lv_lstore_n (lv' := [(3, .long r_2), (1, .long r_1), (0, .ref h0)]) hx hb d_Walk_goForward_33 rfl hl (by decide) rfl (fun ls hl => ?_)
  refine lv_lload_n hx hb d_Walk_goForward_34 rfl (lv_at hl 1 rfl) ?_
  refine lv_lload_n hx hb d_Walk_goForward_35 rfl (lv_at hl 0 rfl) ?_
  refine lc_gt (tgt := 55) hx hb d_Walk_goForward_36 d_Walk_goForward_37 (by decide) (fun c_3 => ?_) (fun c_3 => ?_)
  · have hf := it_t c_3 hf
    exact k_Walk_goForward_55 C0 hST hA hE hf hK hP hD hS (lv_sub hl [0, 1, 2] rfl)
  · have hf := it_f c_3 hf
    refine lv_aload_n hx hb d_Walk_goForward_40 rfl (lv_at hl 2 rfl) ?_
    refine lv_dup hx hb d_Walk_goForward_41 rfl ?_
    refine va_get (D := (dC, dI)) (ci := 2) (v := .long w0_1) (C := REdgeWalk) (T := TEdgeWalk) (N := 5) hx hb hts in_EdgeWalk hown hK hP 0 rfl rfl 1 (by decide) (hts (.fieldLink "ZoneFiles$EdgeWalk" 25 "ZoneFiles$EdgeWalk" "beginYear" "J") m_5_164) (fun _ h9 => h9) rfl d_Walk_goForward_42 ?_
    refine lv_lconst (v := 1) hx hb d_Walk_goForward_45 (by decide) ?_
    refine lv_ladd hx hb d_Walk_goForward_46 ?_
    refine va_put (D := (dC, dI)) (ci := 2) (v := .long (w0_1 + 1)) (ty := .long) (C := REdgeWalk) (T := TEdgeWalk) (N := 5) hx hb hts in_EdgeWalk tyEdgeWalk ty_EdgeWalk nm_EdgeWalk hown hK hP hD hS 0 rfl rfl 1 (by decide) (hts (.fieldLink "ZoneFiles$EdgeWalk" 25 "ZoneFiles$EdgeWalk" "beginYear" "J") m_5_164) (fun _ h9 => h9) rfl (by decide +kernel) rfl rfl (Nat.le_of_ble_eq_true rfl) d_Walk_goForward_47 (fun H locs hP hD hS => ?_)
    have hP : va_P (dC, dI) classes [(h0, .inr (2, [.ref kRule, .long (w0_1 + 1), .long w0_2, .long w0_3, .long w0_4])), (kRule, .inr (5, [.ref ruT, .ref ruB, .ref ruE, .int ruHas, .int ruWide, .int ruSo, .int ruUo, .int ruSp, .int ruSs, .int ruUp, .int ruUs, .int ruNev])), (ruB, .inr (1, [.int ebKind, .int ebMonth, .int ebWeek, .int ebDay, .int ebTime, .int ebClock])), (ruE, .inr (1, [.int eeKind, .int eeMonth, .int eeWeek, .int eeDay, .int eeTime, .int eeClock]))] H := hP
    have hD : va_D A [(h0, .inr (2, [.ref kRule, .long (w0_1 + 1), .long w0_2, .long w0_3, .long w0_4])), (kRule, .inr (5, [.ref ruT, .ref ruB, .ref ruE, .int ruHas, .int ruWide, .int ruSo, .int ruUo, .int ruSp, .int ruSs, .int ruUp, .int ruUs, .int ruNev])), (ruB, .inr (1, [.int ebKind, .int ebMonth, .int ebWeek, .int ebDay, .int ebTime, .int ebClock])), (ruE, .inr (1, [.int eeKind, .int eeMonth, .int eeWeek, .int eeDay, .int eeTime, .int eeClock]))] := hD
    refine lv_aload_n hx hb d_Walk_goForward_50 rfl (lv_at hl 2 rfl) ?_
    refine lv_lload_n hx hb d_Walk_goForward_51 rfl (lv_at hl 1 rfl) ?_
    refine va_put (D := (dC, dI)) (ci := 2) (v := .long r_1) (ty := .long) (C := REdgeWalk) (T := TEdgeWalk) (N := 5) hx hb hts in_EdgeWalk tyEdgeWalk ty_EdgeWalk nm_EdgeWalk hown hK hP hD hS 0 rfl rfl 3 (by decide) (hts (.fieldLink "ZoneFiles$EdgeWalk" 38 "ZoneFiles$EdgeWalk" "begin" "J") m_5_166) (fun _ h9 => h9) rfl (by decide +kernel) rfl rfl (Nat.le_of_ble_eq_true rfl) d_Walk_goForward_52 (fun H locs hP hD hS => ?_)
    have hP : va_P (dC, dI) classes [(h0, .inr (2, [.ref kRule, .long (w0_1 + 1), .long w0_2, .long r_1, .long w0_4])), (kRule, .inr (5, [.ref ruT, .ref ruB, .ref ruE, .int ruHas, .int ruWide, .int ruSo, .int ruUo, .int ruSp, .int ruSs, .int ruUp, .int ruUs, .int ruNev])), (ruB, .inr (1, [.int ebKind, .int ebMonth, .int ebWeek, .int ebDay, .int ebTime, .int ebClock])), (ruE, .inr (1, [.int eeKind, .int eeMonth, .int eeWeek, .int eeDay, .int eeTime, .int eeClock]))] H := hP
    have hD : va_D A [(h0, .inr (2, [.ref kRule, .long (w0_1 + 1), .long w0_2, .long r_1, .long w0_4])), (kRule, .inr (5, [.ref ruT, .ref ruB, .ref ruE, .int ruHas, .int ruWide, .int ruSo, .int ruUo, .int ruSp, .int ruSs, .int ruUp, .int ruUs, .int ruNev])), (ruB, .inr (1, [.int ebKind, .int ebMonth, .int ebWeek, .int ebDay, .int ebTime, .int ebClock])), (ruE, .inr (1, [.int eeKind, .int eeMonth, .int eeWeek, .int eeDay, .int eeTime, .int eeClock]))] := hD
    exact k_Walk_goForward_55 C0 hST hA hE hf hK hP hD hS (lv_sub hl [0, 1, 2] rfl)
end
set_option maxHeartbeats 400000 in
set_option maxRecDepth 100000 in
theorem c_Walk_goForward (l : Launch) (dC : Nat → ClassId) (dI : Nat → Nat → Nat) (h0 : Nat) (kRule : Nat) (ruT : Nat) (ruB : Nat) (ruE : Nat) (sz : Nat) (nf : Nat) (kBy : Int64) (kEy : Int64) (kB : Int64) (kE : Int64) (ruHas : Int32) (ruWide : Int32) (ruSo : Int32) (ruUo : Int32) (ruSp : Int32) (ruSs : Int32) (ruUp : Int32) (ruUs : Int32) (ruNev : Int32) (ebKind : Int32) (ebMonth : Int32) (ebWeek : Int32) (ebDay : Int32) (ebTime : Int32) (ebClock : Int32) (eeKind : Int32) (eeMonth : Int32) (eeWeek : Int32) (eeDay : Int32) (eeTime : Int32) (eeClock : Int32) {v0_1 : Int64} {v0_2 : Int64} {v0_3 : Int64} {v0_4 : Int64} (hf : f_Walk_goForward nf kBy kEy kB kE ebKind ebMonth ebWeek ebDay ebTime ebClock eeKind eeMonth eeWeek eeDay eeTime eeClock = some (v0_1, v0_2, v0_3, v0_4)) : Met l y_Walk_goForward (wd y_Walk_goForward b_Walk_goForward 5 none) ({ frames := 3, cells := 0, slots := 0, locals := 78 }) (MU dC dI [(h0, .inr (2, [.ref kRule, .long kBy, .long kEy, .long kB, .long kE])), (kRule, .inr (5, [.ref ruT, .ref ruB, .ref ruE, .int ruHas, .int ruWide, .int ruSo, .int ruUo, .int ruSp, .int ruSs, .int ruUp, .int ruUs, .int ruNev])), (ruB, .inr (1, [.int ebKind, .int ebMonth, .int ebWeek, .int ebDay, .int ebTime, .int ebClock])), (ruE, .inr (1, [.int eeKind, .int eeMonth, .int eeWeek, .int eeDay, .int eeTime, .int eeClock]))] [] sz [.ref h0]) (MV none (fun t => va_P (dC, dI) classes [(h0, .inr (2, [.ref kRule, .long v0_1, .long v0_2, .long v0_3, .long v0_4])), (kRule, .inr (5, [.ref ruT, .ref ruB, .ref ruE, .int ruHas, .int ruWide, .int ruSo, .int ruUo, .int ruSp, .int ruSs, .int ruUp, .int ruUs, .int ruNev])), (ruB, .inr (1, [.int ebKind, .int ebMonth, .int ebWeek, .int ebDay, .int ebTime, .int ebClock])), (ruE, .inr (1, [.int eeKind, .int eeMonth, .int eeWeek, .int eeDay, .int eeTime, .int eeClock]))] t.heap ∧ va_K (dC, dI) classes [] t ∧ va_D (va_A [(h0, .inr (2, [.ref kRule, .long kBy, .long kEy, .long kB, .long kE])), (kRule, .inr (5, [.ref ruT, .ref ruB, .ref ruE, .int ruHas, .int ruWide, .int ruSo, .int ruUo, .int ruSp, .int ruSs, .int ruUp, .int ruUs, .int ruNev])), (ruB, .inr (1, [.int ebKind, .int ebMonth, .int ebWeek, .int ebDay, .int ebTime, .int ebClock])), (ruE, .inr (1, [.int eeKind, .int eeMonth, .int eeWeek, .int eeDay, .int eeTime, .int eeClock]))] sz) [(h0, .inr (2, [.ref kRule, .long v0_1, .long v0_2, .long v0_3, .long v0_4])), (kRule, .inr (5, [.ref ruT, .ref ruB, .ref ruE, .int ruHas, .int ruWide, .int ruSo, .int ruUo, .int ruSp, .int ruSs, .int ruUp, .int ruUs, .int ruNev])), (ruB, .inr (1, [.int ebKind, .int ebMonth, .int ebWeek, .int ebDay, .int ebTime, .int ebClock])), (ruE, .inr (1, [.int eeKind, .int eeMonth, .int eeWeek, .int eeDay, .int eeTime, .int eeClock]))]) (va_A [(h0, .inr (2, [.ref kRule, .long kBy, .long kEy, .long kB, .long kE])), (kRule, .inr (5, [.ref ruT, .ref ruB, .ref ruE, .int ruHas, .int ruWide, .int ruSo, .int ruUo, .int ruSp, .int ruSs, .int ruUp, .int ruUs, .int ruNev])), (ruB, .inr (1, [.int ebKind, .int ebMonth, .int ebWeek, .int ebDay, .int ebTime, .int ebClock])), (ruE, .inr (1, [.int eeKind, .int eeMonth, .int eeWeek, .int eeDay, .int eeTime, .int eeClock]))] sz)) 0 0 (va_A [(h0, .inr (2, [.ref kRule, .long kBy, .long kEy, .long kB, .long kE])), (kRule, .inr (5, [.ref ruT, .ref ruB, .ref ruE, .int ruHas, .int ruWide, .int ruSo, .int ruUo, .int ruSp, .int ruSs, .int ruUp, .int ruUs, .int ruNev])), (ruB, .inr (1, [.int ebKind, .int ebMonth, .int ebWeek, .int ebDay, .int ebTime, .int ebClock])), (ruE, .inr (1, [.int eeKind, .int eeMonth, .int eeWeek, .int eeDay, .int eeTime, .int eeClock]))] sz) :=
  met_M (plainFor_of_name (by decide)) (Nat.le_of_ble_eq_true rfl) (fun p e R s m args below meth c ls hRc hRs hsz hin C0 hST hK hP hD hl => by
    obtain ⟨hx, hb, hr, hml, hown, hts, hlocks, hRf, hRl⟩ := id C0
    subst hsz
    have hA : ∀ q : Nat, s.heap.size ≤ q → va_A [(h0, .inr (2, [.ref kRule, .long kBy, .long kEy, .long kB, .long kE])), (kRule, .inr (5, [.ref ruT, .ref ruB, .ref ruE, .int ruHas, .int ruWide, .int ruSo, .int ruUo, .int ruSp, .int ruSs, .int ruUp, .int ruUs, .int ruNev])), (ruB, .inr (1, [.int ebKind, .int ebMonth, .int ebWeek, .int ebDay, .int ebTime, .int ebClock])), (ruE, .inr (1, [.int eeKind, .int eeMonth, .int eeWeek, .int eeDay, .int eeTime, .int eeClock]))] s.heap.size q := fun q h => Or.inr h
    have hS : va_S (va_A [(h0, .inr (2, [.ref kRule, .long kBy, .long kEy, .long kB, .long kE])), (kRule, .inr (5, [.ref ruT, .ref ruB, .ref ruE, .int ruHas, .int ruWide, .int ruSo, .int ruUo, .int ruSp, .int ruSs, .int ruUp, .int ruUs, .int ruNev])), (ruB, .inr (1, [.int ebKind, .int ebMonth, .int ebWeek, .int ebDay, .int ebTime, .int ebClock])), (ruE, .inr (1, [.int eeKind, .int eeMonth, .int eeWeek, .int eeDay, .int eeTime, .int eeClock]))] s.heap.size) s.heap s.heap [] := va_S.rf
    unfold f_Walk_goForward at hf
    exact k_Walk_goForward_0 C0 hST hA (fun pc ls H locs hd hP hD hS hK => W.vret hx hb hr (fun t ht hW => ⟨⟨rfl, ⟨by rw [ht]; exact hP, va_K.moved hW.alike hK, hD⟩⟩, hS.F ht⟩) hS.2.2 hd) hf hK hP hD hS (lv_sub hl [0] rfl))
-- ZoneFiles$EdgeWalk.goBack()V
def f_Walk_goBack_100 (nf : Nat) (w0_1 : Int64) (w0_2 : Int64) (w0_3 : Int64) (w0_4 : Int64) : Option (Int64 × Int64 × Int64 × Int64) :=
  some (w0_1, w0_2, w0_3, w0_4)
def f_Walk_goBack_68 (nf : Nat) (eeKind : Int32) (eeMonth : Int32) (eeWeek : Int32) (eeDay : Int32) (eeTime : Int32) (eeClock : Int32) (x2 : Int32) (w0_1 : Int64) (w0_2 : Int64) (w0_3 : Int64) (w0_4 : Int64) : Option (Int64 × Int64 × Int64 × Int64) :=
  if x2 = 0 then
  f_Walk_goBack_100 nf w0_1 w0_2 w0_3 w0_4
  else
  (f_Edge_momentIn nf (w0_2 - 1) eeKind eeMonth eeWeek eeDay eeTime eeClock).bind fun r_5 =>
    f_Walk_goBack_100 nf w0_1 (w0_2 - 1) w0_3 r_5
def f_Walk_goBack_35 (nf : Nat) (ebKind : Int32) (ebMonth : Int32) (ebWeek : Int32) (ebDay : Int32) (ebTime : Int32) (ebClock : Int32) (eeKind : Int32) (eeMonth : Int32) (eeWeek : Int32) (eeDay : Int32) (eeTime : Int32) (eeClock : Int32) (x1 : Int32) (s0 : Int32) (w0_1 : Int64) (w0_2 : Int64) (w0_3 : Int64) (w0_4 : Int64) : Option (Int64 × Int64 × Int64 × Int64) :=
  if x1 = 0 then
  f_Walk_goBack_68 nf eeKind eeMonth eeWeek eeDay eeTime eeClock s0 w0_1 w0_2 w0_3 w0_4
  else
  (f_Edge_momentIn nf (w0_1 - 1) ebKind ebMonth ebWeek ebDay ebTime ebClock).bind fun r_6 =>
    f_Walk_goBack_68 nf eeKind eeMonth eeWeek eeDay eeTime eeClock s0 (w0_1 - 1) w0_2 r_6 w0_4
def f_Walk_goBack_17 (nf : Nat) (ebKind : Int32) (ebMonth : Int32) (ebWeek : Int32) (ebDay : Int32) (ebTime : Int32) (ebClock : Int32) (eeKind : Int32) (eeMonth : Int32) (eeWeek : Int32) (eeDay : Int32) (eeTime : Int32) (eeClock : Int32) (s0 : Int32) (w0_1 : Int64) (w0_2 : Int64) (w0_3 : Int64) (w0_4 : Int64) : Option (Int64 × Int64 × Int64 × Int64) :=
  if w0_4 < w0_3 then
  f_Walk_goBack_35 nf ebKind ebMonth ebWeek ebDay ebTime ebClock eeKind eeMonth eeWeek eeDay eeTime eeClock s0 0 w0_1 w0_2 w0_3 w0_4
  else
  f_Walk_goBack_35 nf ebKind ebMonth ebWeek ebDay ebTime ebClock eeKind eeMonth eeWeek eeDay eeTime eeClock s0 1 w0_1 w0_2 w0_3 w0_4
def f_Walk_goBack_0 (nf : Nat) (ebKind : Int32) (ebMonth : Int32) (ebWeek : Int32) (ebDay : Int32) (ebTime : Int32) (ebClock : Int32) (eeKind : Int32) (eeMonth : Int32) (eeWeek : Int32) (eeDay : Int32) (eeTime : Int32) (eeClock : Int32) (w0_1 : Int64) (w0_2 : Int64) (w0_3 : Int64) (w0_4 : Int64) : Option (Int64 × Int64 × Int64 × Int64) :=
  if w0_3 < w0_4 then
  f_Walk_goBack_17 nf ebKind ebMonth ebWeek ebDay ebTime ebClock eeKind eeMonth eeWeek eeDay eeTime eeClock 0 w0_1 w0_2 w0_3 w0_4
  else
  f_Walk_goBack_17 nf ebKind ebMonth ebWeek ebDay ebTime ebClock eeKind eeMonth eeWeek eeDay eeTime eeClock 1 w0_1 w0_2 w0_3 w0_4
def f_Walk_goBack (nf : Nat) (kBy : Int64) (kEy : Int64) (kB : Int64) (kE : Int64) (ebKind : Int32) (ebMonth : Int32) (ebWeek : Int32) (ebDay : Int32) (ebTime : Int32) (ebClock : Int32) (eeKind : Int32) (eeMonth : Int32) (eeWeek : Int32) (eeDay : Int32) (eeTime : Int32) (eeClock : Int32) : Option (Int64 × Int64 × Int64 × Int64) :=
  f_Walk_goBack_0 nf ebKind ebMonth ebWeek ebDay ebTime ebClock eeKind eeMonth eeWeek eeDay eeTime eeClock kBy kEy kB kE
section
variable {p : Program} {l : Launch} {e : Env} {R : Room} {s : State} {m : MethodId} {args : Array Value} {below : List Frame} {meth : Method} {c : Code} {Q : State → Prop} {dC : Nat → ClassId} {dI : Nat → Nat → Nat} {nf : Nat} {A : Nat → Prop}
variable {h0 : Nat} {kRule : Nat} {ruT : Nat} {ruB : Nat} {ruE : Nat} {kBy : Int64} {kEy : Int64} {kB : Int64} {kE : Int64} {ruHas : Int32} {ruWide : Int32} {ruSo : Int32} {ruUo : Int32} {ruSp : Int32} {ruSs : Int32} {ruUp : Int32} {ruUs : Int32} {ruNev : Int32} {ebKind : Int32} {ebMonth : Int32} {ebWeek : Int32} {ebDay : Int32} {ebTime : Int32} {ebClock : Int32} {eeKind : Int32} {eeMonth : Int32} {eeWeek : Int32} {eeDay : Int32} {eeTime : Int32} {eeClock : Int32} {v0_1 : Int64} {v0_2 : Int64} {v0_3 : Int64} {v0_4 : Int64}
set_option maxHeartbeats 400000 in
set_option maxRecDepth 100000 in
theorem k_Walk_goBack_100 (C0 : Cx p s m meth c args R b_Walk_goBack "ZoneFiles$EdgeWalk" 3 none 3 78) (hST : ST A s s.heap) (hA : ∀ q, s.heap.size ≤ q → A q) (hE : ∀ (pc : Nat) (ls : Array Slot) (H : Heap) (locs : List Loc), decode b_Walk_goBack pc = .ok (.return_, 1) → va_P (dC, dI) classes [(h0, .inr (2, [.ref kRule, .long v0_1, .long v0_2, .long v0_3, .long v0_4])), (kRule, .inr (5, [.ref ruT, .ref ruB, .ref ruE, .int ruHas, .int ruWide, .int ruSo, .int ruUo, .int ruSp, .int ruSs, .int ruUp, .int ruUs, .int ruNev])), (ruB, .inr (1, [.int ebKind, .int ebMonth, .int ebWeek, .int ebDay, .int ebTime, .int ebClock])), (ruE, .inr (1, [.int eeKind, .int eeMonth, .int eeWeek, .int eeDay, .int eeTime, .int eeClock]))] H → va_D A [(h0, .inr (2, [.ref kRule, .long v0_1, .long v0_2, .long v0_3, .long v0_4])), (kRule, .inr (5, [.ref ruT, .ref ruB, .ref ruE, .int ruHas, .int ruWide, .int ruSo, .int ruUo, .int ruSp, .int ruSs, .int ruUp, .int ruUs, .int ruNev])), (ruB, .inr (1, [.int ebKind, .int ebMonth, .int ebWeek, .int ebDay, .int ebTime, .int ebClock])), (ruE, .inr (1, [.int eeKind, .int eeMonth, .int eeWeek, .int eeDay, .int eeTime, .int eeClock]))] → va_S A s.heap H locs → va_K (dC, dI) classes [] s → W p l e R s m args below meth c H locs 0 0 Q (F0 m pc ls [])) {w0_1 : Int64} {w0_2 : Int64} {w0_3 : Int64} {w0_4 : Int64} (hf : f_Walk_goBack_100 nf w0_1 w0_2 w0_3 w0_4 = some (v0_1, v0_2, v0_3, v0_4)) {H : Heap} {locs : List Loc} {ls : Array Slot} (hK : va_K (dC, dI) classes [] s) (hP : va_P (dC, dI) classes [(h0, .inr (2, [.ref kRule, .long w0_1, .long w0_2, .long w0_3, .long w0_4])), (kRule, .inr (5, [.ref ruT, .ref ruB, .ref ruE, .int ruHas, .int ruWide, .int ruSo, .int ruUo, .int ruSp, .int ruSs, .int ruUp, .int ruUs, .int ruNev])), (ruB, .inr (1, [.int ebKind, .int ebMonth, .int ebWeek, .int ebDay, .int ebTime, .int ebClock])), (ruE, .inr (1, [.int eeKind, .int eeMonth, .int eeWeek, .int eeDay, .int eeTime, .int eeClock]))] H) (hD : va_D A [(h0, .inr (2, [.ref kRule, .long w0_1, .long w0_2, .long w0_3, .long w0_4])), (kRule, .inr (5, [.ref ruT, .ref ruB, .ref ruE, .int ruHas, .int ruWide, .int ruSo, .int ruUo, .int ruSp, .int ruSs, .int ruUp, .int ruUs, .int ruNev])), (ruB, .inr (1, [.int ebKind, .int ebMonth, .int ebWeek, .int ebDay, .int ebTime, .int ebClock])), (ruE, .inr (1, [.int eeKind, .int eeMonth, .int eeWeek, .int eeDay, .int eeTime, .int eeClock]))]) (hS : va_S A s.heap H locs) (hl : lv_has ls 3 []) : W p l e R s m args below meth c H locs 0 0 Q (F0 m 100 ls []) := by
  obtain ⟨hx, hb, hr, hml, hown, hts, hlocks, hRf, hRl⟩ := id C0
  obtain ⟨tms, hZms, hTms, tmg, hZmg, hTmg, hNW⟩ := id hST
  unfold f_Walk_goBack_100 at hf
  cases rs hf
  exact hE _ _ _ _ d_Walk_goBack_100 hP hD hS hK
set_option maxHeartbeats 400000 in
set_option maxRecDepth 100000 in
theorem k_Walk_goBack_68 (C0 : Cx p s m meth c args R b_Walk_goBack "ZoneFiles$EdgeWalk" 3 none 3 78) (hST : ST A s s.heap) (hA : ∀ q, s.heap.size ≤ q → A q) (hE : ∀ (pc : Nat) (ls : Array Slot) (H : Heap) (locs : List Loc), decode b_Walk_goBack pc = .ok (.return_, 1) → va_P (dC, dI) classes [(h0, .inr (2, [.ref kRule, .long v0_1, .long v0_2, .long v0_3, .long v0_4])), (kRule, .inr (5, [.ref ruT, .ref ruB, .ref ruE, .int ruHas, .int ruWide, .int ruSo, .int ruUo, .int ruSp, .int ruSs, .int ruUp, .int ruUs, .int ruNev])), (ruB, .inr (1, [.int ebKind, .int ebMonth, .int ebWeek, .int ebDay, .int ebTime, .int ebClock])), (ruE, .inr (1, [.int eeKind, .int eeMonth, .int eeWeek, .int eeDay, .int eeTime, .int eeClock]))] H → va_D A [(h0, .inr (2, [.ref kRule, .long v0_1, .long v0_2, .long v0_3, .long v0_4])), (kRule, .inr (5, [.ref ruT, .ref ruB, .ref ruE, .int ruHas, .int ruWide, .int ruSo, .int ruUo, .int ruSp, .int ruSs, .int ruUp, .int ruUs, .int ruNev])), (ruB, .inr (1, [.int ebKind, .int ebMonth, .int ebWeek, .int ebDay, .int ebTime, .int ebClock])), (ruE, .inr (1, [.int eeKind, .int eeMonth, .int eeWeek, .int eeDay, .int eeTime, .int eeClock]))] → va_S A s.heap H locs → va_K (dC, dI) classes [] s → W p l e R s m args below meth c H locs 0 0 Q (F0 m pc ls [])) {x2 : Int32} {w0_1 : Int64} {w0_2 : Int64} {w0_3 : Int64} {w0_4 : Int64} (hf : f_Walk_goBack_68 nf eeKind eeMonth eeWeek eeDay eeTime eeClock x2 w0_1 w0_2 w0_3 w0_4 = some (v0_1, v0_2, v0_3, v0_4)) {H : Heap} {locs : List Loc} {ls : Array Slot} (hK : va_K (dC, dI) classes [] s) (hP : va_P (dC, dI) classes [(h0, .inr (2, [.ref kRule, .long w0_1, .long w0_2, .long w0_3, .long w0_4])), (kRule, .inr (5, [.ref ruT, .ref ruB, .ref ruE, .int ruHas, .int ruWide, .int ruSo, .int ruUo, .int ruSp, .int ruSs, .int ruUp, .int ruUs, .int ruNev])), (ruB, .inr (1, [.int ebKind, .int ebMonth, .int ebWeek, .int ebDay, .int ebTime, .int ebClock])), (ruE, .inr (1, [.int eeKind, .int eeMonth, .int eeWeek, .int eeDay, .int eeTime, .int eeClock]))] H) (hD : va_D A [(h0, .inr (2, [.ref kRule, .long w0_1, .long w0_2, .long w0_3, .long w0_4])), (kRule, .inr (5, [.ref ruT, .ref ruB, .ref ruE, .int ruHas, .int ruWide, .int ruSo, .int ruUo, .int ruSp, .int ruSs, .int ruUp, .int ruUs, .int ruNev])), (ruB, .inr (1, [.int ebKind, .int ebMonth, .int ebWeek, .int ebDay, .int ebTime, .int ebClock])), (ruE, .inr (1, [.int eeKind, .int eeMonth, .int eeWeek, .int eeDay, .int eeTime, .int eeClock]))]) (hS : va_S A s.heap H locs) (hl : lv_has ls 3 [(2, .int x2), (0, .ref h0)]) : W p l e R s m args below meth c H locs 0 0 Q (F0 m 68 ls []) := by
  obtain ⟨hx, hb, hr, hml, hown, hts, hlocks, hRf, hRl⟩ := id C0
  obtain ⟨tms, hZms, hTms, tmg, hZmg, hTmg, hNW⟩ := id hST
  unfold f_Walk_goBack_68 at hf
  refine lv_iload_n hx hb d_Walk_goBack_68 rfl (lv_at hl 0 rfl) ?_
  refine lv_if_eq (tgt := 100) hx hb d_Walk_goBack_69 (by decide) (fun c_4 => ?_) (fun c_4 => ?_)
  · have hf := it_t c_4 hf
    exact k_Walk_goBack_100 C0 hST hA hE hf hK hP hD hS (lv_sub hl [] rfl)
  · have hf := it_f c_4 hf
    refine lv_aload_n hx hb d_Walk_goBack_72 rfl (lv_at hl 1 rfl) ?_
    refine lv_dup hx hb d_Walk_goBack_73 rfl ?_
    refine va_get (D := (dC, dI)) (ci := 2) (v := .long w0_2) (C := REdgeWalk) (T := TEdgeWalk) (N := 5) hx hb hts in_EdgeWalk hown hK hP 0 rfl rfl 2 (by decide) (hts (.fieldLink "ZoneFiles$EdgeWalk" 32 "ZoneFiles$EdgeWalk" "endYear" "J") m_5_165) (fun _ h9 => h9) rfl d_Walk_goBack_74 ?_
    refine lv_lconst (v := 1) hx hb d_Walk_goBack_77 (by decide) ?_
    refine lv_lsub hx hb d_Walk_goBack_78 ?_
    refine va_put (D := (dC, dI)) (ci := 2) (v := .long (w0_2 - 1)) (ty := .long) (C := REdgeWalk) (T := TEdgeWalk) (N := 5) hx hb hts in_EdgeWalk tyEdgeWalk ty_EdgeWalk nm_EdgeWalk hown hK hP hD hS 0 rfl rfl 2 (by decide) (hts (.fieldLink "ZoneFiles$EdgeWalk" 32 "ZoneFiles$EdgeWalk" "endYear" "J") m_5_165) (fun _ h9 => h9) rfl (by decide +kernel) rfl rfl (Nat.le_of_ble_eq_true rfl) d_Walk_goBack_79 (fun H locs hP hD hS => ?_)
    have hP : va_P (dC, dI) classes [(h0, .inr (2, [.ref kRule, .long w0_1, .long (w0_2 - 1), .long w0_3, .long w0_4])), (kRule, .inr (5, [.ref ruT, .ref ruB, .ref ruE, .int ruHas, .int ruWide, .int ruSo, .int ruUo, .int ruSp, .int ruSs, .int ruUp, .int ruUs, .int ruNev])), (ruB, .inr (1, [.int ebKind, .int ebMonth, .int ebWeek, .int ebDay, .int ebTime, .int ebClock])), (ruE, .inr (1, [.int eeKind, .int eeMonth, .int eeWeek, .int eeDay, .int eeTime, .int eeClock]))] H := hP
    have hD : va_D A [(h0, .inr (2, [.ref kRule, .long w0_1, .long (w0_2 - 1), .long w0_3, .long w0_4])), (kRule, .inr (5, [.ref ruT, .ref ruB, .ref ruE, .int ruHas, .int ruWide, .int ruSo, .int ruUo, .int ruSp, .int ruSs, .int ruUp, .int ruUs, .int ruNev])), (ruB, .inr (1, [.int ebKind, .int ebMonth, .int ebWeek, .int ebDay, .int ebTime, .int ebClock])), (ruE, .inr (1, [.int eeKind, .int eeMonth, .int eeWeek, .int eeDay, .int eeTime, .int eeClock]))] := hD
    refine lv_aload_n hx hb d_Walk_goBack_82 rfl (lv_at hl 1 rfl) ?_
    refine lv_aload_n hx hb d_Walk_goBack_83 rfl (lv_at hl 1 rfl) ?_
    refine va_get (D := (dC, dI)) (ci := 2) (v := .ref kRule) (C := REdgeWalk) (T := TEdgeWalk) (N := 5) hx hb hts in_EdgeWalk hown hK hP 0 rfl rfl 0 (by decide) (hts (.fieldLink "ZoneFiles$EdgeWalk" 7 "ZoneFiles$EdgeWalk" "rule" "LZoneFiles$Rule;") m_5_163) (fun _ h9 => h9) rfl d_Walk_goBack_84 ?_
    refine va_get (D := (dC, dI)) (ci := 5) (v := .ref ruE) (C := RRule) (T := TRule) (N := 12) hx hb hts in_Rule hown hK hP 1 rfl rfl 2 (by decide) (hts (.fieldLink "ZoneFiles$EdgeWalk" 29 "ZoneFiles$Rule" "end" "LZoneFiles$Edge;") m_1_109) (fun _ h9 => h9) rfl d_Walk_goBack_87 ?_
    refine lv_aload_n hx hb d_Walk_goBack_90 rfl (lv_at hl 1 rfl) ?_
    refine va_get (D := (dC, dI)) (ci := 2) (v := .long (w0_2 - 1)) (C := REdgeWalk) (T := TEdgeWalk) (N := 5) hx hb hts in_EdgeWalk hown hK hP 0 rfl rfl 2 (by decide) (hts (.fieldLink "ZoneFiles$EdgeWalk" 32 "ZoneFiles$EdgeWalk" "endYear" "J") m_5_165) (fun _ h9 => h9) rfl d_Walk_goBack_91 ?_
    obtain ⟨r_5, hc, hf⟩ := ob hf
    refine cl_S (v := (some (.long r_5))) (st1 := [.long r_5, .ref h0]) (va_runV (As := [.long (w0_2 - 1)]) (rest := [.ref h0]) ⟨hx, hb, hml, hown, hts⟩ (c_Edge_momentIn l dC dI ruE nf (w0_2 - 1) eeKind eeMonth eeWeek eeDay eeTime eeClock hc) (cwV 1 hts (gdV m_5_162 m_4_178 m_4_179 m_1_5 m_4_180) rfl rfl rfl (by decide +kernel) ⟨Nat.le_trans (Nat.le_of_ble_eq_true rfl) hRf, Nat.le_trans (Nat.le_of_ble_eq_true rfl) hRl⟩) ((RO.pre (hP.sub (ws' := [(ruE, .inr (1, [.int eeKind, .int eeMonth, .int eeWeek, .int eeDay, .int eeTime, .int eeClock]))]) [3] rfl) (hK.sub (tys' := []) [] rfl) (hST.ro hS)).vir (va_recv (hK.sub (tys' := []) [] rfl) (hP.sub (ws' := [(ruE, .inr (1, [.int eeKind, .int eeMonth, .int eeWeek, .int eeDay, .int eeTime, .int eeClock]))]) [3] rfl) (ci := 1) (q0 := 0) rfl rfl)) rfl rfl hl.1 rfl (lv_room (Nat.le_of_ble_eq_true rfl)) d_Walk_goBack_94 ⟨Nat.zero_le _, Nat.zero_le _⟩) rfl ?_
    refine va_put (D := (dC, dI)) (ci := 2) (v := .long r_5) (ty := .long) (C := REdgeWalk) (T := TEdgeWalk) (N := 5) hx hb hts in_EdgeWalk tyEdgeWalk ty_EdgeWalk nm_EdgeWalk hown hK hP hD hS 0 rfl rfl 4 (by decide) (hts (.fieldLink "ZoneFiles$EdgeWalk" 40 "ZoneFiles$EdgeWalk" "end" "J") m_5_167) (fun _ h9 => h9) rfl (by decide +kernel) rfl rfl (Nat.le_of_ble_eq_true rfl) d_Walk_goBack_97 (fun H locs hP hD hS => ?_)
    have hP : va_P (dC, dI) classes [(h0, .inr (2, [.ref kRule, .long w0_1, .long (w0_2 - 1), .long w0_3, .long r_5])), (kRule, .inr (5, [.ref ruT, .ref ruB, .ref ruE, .int ruHas, .int ruWide, .int ruSo, .int ruUo, .int ruSp, .int ruSs, .int ruUp, .int ruUs, .int ruNev])), (ruB, .inr (1, [.int ebKind, .int ebMonth, .int ebWeek, .int ebDay, .int ebTime, .int ebClock])), (ruE, .inr (1, [.int eeKind, .int eeMonth, .int eeWeek, .int eeDay, .int eeTime, .int eeClock]))] H := hP
    have hD : va_D A [(h0, .inr (2, [.ref kRule, .long w0_1, .long (w0_2 - 1), .long w0_3, .long r_5])), (kRule, .inr (5, [.ref ruT, .ref ruB, .ref ruE, .int ruHas, .int ruWide, .int ruSo, .int ruUo, .int ruSp, .int ruSs, .int ruUp, .int ruUs, .int ruNev])), (ruB, .inr (1, [.int ebKind, .int ebMonth, .int ebWeek, .int ebDay, .int ebTime, .int ebClock])), (ruE, .inr (1, [.int eeKind, .int eeMonth, .int eeWeek, .int eeDay, .int eeTime, .int eeClock]))] := hD
    exact k_Walk_goBack_100 C0 hST hA hE hf hK hP hD hS (lv_sub hl [] rfl)
set_option maxHeartbeats 400000 in
set_option maxRecDepth 100000 in
theorem k_Walk_goBack_35 (C0 : Cx p s m meth c args R b_Walk_goBack "ZoneFiles$EdgeWalk" 3 none 3 78) (hST : ST A s s.heap) (hA : ∀ q, s.heap.size ≤ q → A q) (hE : ∀ (pc : Nat) (ls : Array Slot) (H : Heap) (locs : List Loc), decode b_Walk_goBack pc = .ok (.return_, 1) → va_P (dC, dI) classes [(h0, .inr (2, [.ref kRule, .long v0_1, .long v0_2, .long v0_3, .long v0_4])), (kRule, .inr (5, [.ref ruT, .ref ruB, .ref ruE, .int ruHas, .int ruWide, .int ruSo, .int ruUo, .int ruSp, .int ruSs, .int ruUp, .int ruUs, .int ruNev])), (ruB, .inr (1, [.int ebKind, .int ebMonth, .int ebWeek, .int ebDay, .int ebTime, .int ebClock])), (ruE, .inr (1, [.int eeKind, .int eeMonth, .int eeWeek, .int eeDay, .int eeTime, .int eeClock]))] H → va_D A [(h0, .inr (2, [.ref kRule, .long v0_1, .long v0_2, .long v0_3, .long v0_4])), (kRule, .inr (5, [.ref ruT, .ref ruB, .ref ruE, .int ruHas, .int ruWide, .int ruSo, .int ruUo, .int ruSp, .int ruSs, .int ruUp, .int ruUs, .int ruNev])), (ruB, .inr (1, [.int ebKind, .int ebMonth, .int ebWeek, .int ebDay, .int ebTime, .int ebClock])), (ruE, .inr (1, [.int eeKind, .int eeMonth, .int eeWeek, .int eeDay, .int eeTime, .int eeClock]))] → va_S A s.heap H locs → va_K (dC, dI) classes [] s → W p l e R s m args below meth c H locs 0 0 Q (F0 m pc ls [])) {x1 : Int32} {s0 : Int32} {w0_1 : Int64} {w0_2 : Int64} {w0_3 : Int64} {w0_4 : Int64} (hf : f_Walk_goBack_35 nf ebKind ebMonth ebWeek ebDay ebTime ebClock eeKind eeMonth eeWeek eeDay eeTime eeClock x1 s0 w0_1 w0_2 w0_3 w0_4 = some (v0_1, v0_2, v0_3, v0_4)) {H : Heap} {locs : List Loc} {ls : Array Slot} (hK : va_K (dC, dI) classes [] s) (hP : va_P (dC, dI) classes [(h0, .inr (2, [.ref kRule, .long w0_1, .long w0_2, .long w0_3, .long w0_4])), (kRule, .inr (5, [.ref ruT, .ref ruB, .ref ruE, .int ruHas, .int ruWide, .int ruSo, .int ruUo, .int ruSp, .int ruSs, .int ruUp, .int ruUs, .int ruNev])), (ruB, .inr (1, [.int ebKind, .int ebMonth, .int ebWeek, .int ebDay, .int ebTime, .int ebClock])), (ruE, .inr (1, [.int eeKind, .int eeMonth, .int eeWeek, .int eeDay, .int eeTime, .int eeClock]))] H) (hD : va_D A [(h0, .inr (2, [.ref kRule, .long w0_1, .long w0_2, .long w0_3, .long w0_4])), (kRule, .inr (5, [.ref ruT, .ref ruB, .ref ruE, .int ruHas, .int ruWide, .int ruSo, .int ruUo, .int ruSp, .int ruSs, .int ruUp, .int ruUs, .int ruNev])), (ruB, .inr (1, [.int ebKind, .int ebMonth, .int ebWeek, .int ebDay, .int ebTime, .int ebClock])), (ruE, .inr (1, [.int eeKind, .int eeMonth, .int eeWeek, .int eeDay, .int eeTime, .int eeClock]))]) (hS : va_S A s.heap H locs) (hl : lv_has ls 3 [(1, .int x1), (0, .ref h0)]) : W p l e R s m args below meth c H locs 0 0 Q (F0 m 35 ls [.int s0]) := by
  obtain ⟨hx, hb, hr, hml, hown, hts, hlocks, hRf, hRl⟩ := id C0
  obtain ⟨tms, hZms, hTms, tmg, hZmg, hTmg, hNW⟩ := id hST
  unfold f_Walk_goBack_35 at hf
  refine lv_istore_n (lv' := [(2, .int s0), (1, .int x1), (0, .ref h0)]) hx hb d_Walk_goBack_35 rfl hl (by decide) rfl (fun ls hl => ?_)
  refine lv_iload_n hx hb d_Walk_goBack_36 rfl (lv_at hl 1 rfl) ?_
  refine lv_if_eq (tgt := 68) hx hb d_Walk_goBack_37 (by decide) (fun c_3 => ?_) (fun c_3 => ?_)
  · have hf := it_t c_3 hf
    exact k_Walk_goBack_68 C0 hST hA hE hf hK hP hD hS (lv_sub hl [0, 2] rfl)
  · have hf := it_f c_3 hf
    refine lv_aload_n hx hb d_Walk_goBack_40 rfl (lv_at hl 2 rfl) ?_
    refine lv_dup hx hb d_Walk_goBack_41 rfl ?_
    refine va_get (D := (dC, dI)) (ci := 2) (v := .long w0_1) (C := REdgeWalk) (T := TEdgeWalk) (N := 5) hx hb hts in_EdgeWalk hown hK hP 0 rfl rfl 1 (by decide) (hts (.fieldLink "ZoneFiles$EdgeWalk" 25 "ZoneFiles$EdgeWalk" "beginYear" "J") m_5_164) (fun _ h9 => h9) rfl d_Walk_goBack_42 ?_
    refine lv_lconst (v := 1) hx hb d_Walk_goBack_45 (by decide) ?_
    refine lv_lsub hx hb d_Walk_goBack_46 ?_
    refine va_put (D := (dC, dI)) (ci := 2) (v := .long (w0_1 - 1)) (ty := .long) (C := REdgeWalk) (T := TEdgeWalk) (N := 5) hx hb hts in_EdgeWalk tyEdgeWalk ty_EdgeWalk nm_EdgeWalk hown hK hP hD hS 0 rfl rfl 1 (by decide) (hts (.fieldLink "ZoneFiles$EdgeWalk" 25 "ZoneFiles$EdgeWalk" "beginYear" "J") m_5_164) (fun _ h9 => h9) rfl (by decide +kernel) rfl rfl (Nat.le_of_ble_eq_true rfl) d_Walk_goBack_47 (fun H locs hP hD hS => ?_)
    have hP : va_P (dC, dI) classes [(h0, .inr (2, [.ref kRule, .long (w0_1 - 1), .long w0_2, .long w0_3, .long w0_4])), (kRule, .inr (5, [.ref ruT, .ref ruB, .ref ruE, .int ruHas, .int ruWide, .int ruSo, .int ruUo, .int ruSp, .int ruSs, .int ruUp, .int ruUs, .int ruNev])), (ruB, .inr (1, [.int ebKind, .int ebMonth, .int ebWeek, .int ebDay, .int ebTime, .int ebClock])), (ruE, .inr (1, [.int eeKind, .int eeMonth, .int eeWeek, .int eeDay, .int eeTime, .int eeClock]))] H := hP
    have hD : va_D A [(h0, .inr (2, [.ref kRule, .long (w0_1 - 1), .long w0_2, .long w0_3, .long w0_4])), (kRule, .inr (5, [.ref ruT, .ref ruB, .ref ruE, .int ruHas, .int ruWide, .int ruSo, .int ruUo, .int ruSp, .int ruSs, .int ruUp, .int ruUs, .int ruNev])), (ruB, .inr (1, [.int ebKind, .int ebMonth, .int ebWeek, .int ebDay, .int ebTime, .int ebClock])), (ruE, .inr (1, [.int eeKind, .int eeMonth, .int eeWeek, .int eeDay, .int eeTime, .int eeClock]))] := hD
    refine lv_aload_n hx hb d_Walk_goBack_50 rfl (lv_at hl 2 rfl) ?_
    refine lv_aload_n hx hb d_Walk_goBack_51 rfl (lv_at hl 2 rfl) ?_
    refine va_get (D := (dC, dI)) (ci := 2) (v := .ref kRule) (C := REdgeWalk) (T := TEdgeWalk) (N := 5) hx hb hts in_EdgeWalk hown hK hP 0 rfl rfl 0 (by decide) (hts (.fieldLink "ZoneFiles$EdgeWalk" 7 "ZoneFiles$EdgeWalk" "rule" "LZoneFiles$Rule;") m_5_163) (fun _ h9 => h9) rfl d_Walk_goBack_52 ?_
    refine va_get (D := (dC, dI)) (ci := 5) (v := .ref ruB) (C := RRule) (T := TRule) (N := 12) hx hb hts in_Rule hown hK hP 1 rfl rfl 1 (by decide) (hts (.fieldLink "ZoneFiles$EdgeWalk" 13 "ZoneFiles$Rule" "begin" "LZoneFiles$Edge;") m_1_106) (fun _ h9 => h9) rfl d_Walk_goBack_55 ?_
    refine lv_aload_n hx hb d_Walk_goBack_58 rfl (lv_at hl 2 rfl) ?_
    refine va_get (D := (dC, dI)) (ci := 2) (v := .long (w0_1 - 1)) (C := REdgeWalk) (T := TEdgeWalk) (N := 5) hx hb hts in_EdgeWalk hown hK hP 0 rfl rfl 1 (by decide) (hts (.fieldLink "ZoneFiles$EdgeWalk" 25 "ZoneFiles$EdgeWalk" "beginYear" "J") m_5_164) (fun _ h9 => h9) rfl d_Walk_goBack_59 ?_
    obtain ⟨r_6, hc, hf⟩ := ob hf
    refine cl_S (v := (some (.long r_6))) (st1 := [.long r_6, .ref h0]) (va_runV (As := [.long (w0_1 - 1)]) (rest := [.ref h0]) ⟨hx, hb, hml, hown, hts⟩ (c_Edge_momentIn l dC dI ruB nf (w0_1 - 1) ebKind ebMonth ebWeek ebDay ebTime ebClock hc) (cwV 1 hts (gdV m_5_162 m_4_178 m_4_179 m_1_5 m_4_180) rfl rfl rfl (by decide +kernel) ⟨Nat.le_trans (Nat.le_of_ble_eq_true rfl) hRf, Nat.le_trans (Nat.le_of_ble_eq_true rfl) hRl⟩) ((RO.pre (hP.sub (ws' := [(ruB, .inr (1, [.int ebKind, .int ebMonth, .int ebWeek, .int ebDay, .int ebTime, .int ebClock]))]) [2] rfl) (hK.sub (tys' := []) [] rfl) (hST.ro hS)).vir (va_recv (hK.sub (tys' := []) [] rfl) (hP.sub (ws' := [(ruB, .inr (1, [.int ebKind, .int ebMonth, .int ebWeek, .int ebDay, .int ebTime, .int ebClock]))]) [2] rfl) (ci := 1) (q0 := 0) rfl rfl)) rfl rfl hl.1 rfl (lv_room (Nat.le_of_ble_eq_true rfl)) d_Walk_goBack_62 ⟨Nat.zero_le _, Nat.zero_le _⟩) rfl ?_
    refine va_put (D := (dC, dI)) (ci := 2) (v := .long r_6) (ty := .long) (C := REdgeWalk) (T := TEdgeWalk) (N := 5) hx hb hts in_EdgeWalk tyEdgeWalk ty_EdgeWalk nm_EdgeWalk hown hK hP hD hS 0 rfl rfl 3 (by decide) (hts (.fieldLink "ZoneFiles$EdgeWalk" 38 "ZoneFiles$EdgeWalk" "begin" "J") m_5_166) (fun _ h9 => h9) rfl (by decide +kernel) rfl rfl (Nat.le_of_ble_eq_true rfl) d_Walk_goBack_65 (fun H locs hP hD hS => ?_)
    have hP : va_P (dC, dI) classes [(h0, .inr (2, [.ref kRule, .long (w0_1 - 1), .long w0_2, .long r_6, .long w0_4])), (kRule, .inr (5, [.ref ruT, .ref ruB, .ref ruE, .int ruHas, .int ruWide, .int ruSo, .int ruUo, .int ruSp, .int ruSs, .int ruUp, .int ruUs, .int ruNev])), (ruB, .inr (1, [.int ebKind, .int ebMonth, .int ebWeek, .int ebDay, .int ebTime, .int ebClock])), (ruE, .inr (1, [.int eeKind, .int eeMonth, .int eeWeek, .int eeDay, .int eeTime, .int eeClock]))] H := hP
    have hD : va_D A [(h0, .inr (2, [.ref kRule, .long (w0_1 - 1), .long w0_2, .long r_6, .long w0_4])), (kRule, .inr (5, [.ref ruT, .ref ruB, .ref ruE, .int ruHas, .int ruWide, .int ruSo, .int ruUo, .int ruSp, .int ruSs, .int ruUp, .int ruUs, .int ruNev])), (ruB, .inr (1, [.int ebKind, .int ebMonth, .int ebWeek, .int ebDay, .int ebTime, .int ebClock])), (ruE, .inr (1, [.int eeKind, .int eeMonth, .int eeWeek, .int eeDay, .int eeTime, .int eeClock]))] := hD
    exact k_Walk_goBack_68 C0 hST hA hE hf hK hP hD hS (lv_sub hl [0, 2] rfl)
set_option maxHeartbeats 400000 in
set_option maxRecDepth 100000 in
theorem k_Walk_goBack_17 (C0 : Cx p s m meth c args R b_Walk_goBack "ZoneFiles$EdgeWalk" 3 none 3 78) (hST : ST A s s.heap) (hA : ∀ q, s.heap.size ≤ q → A q) (hE : ∀ (pc : Nat) (ls : Array Slot) (H : Heap) (locs : List Loc), decode b_Walk_goBack pc = .ok (.return_, 1) → va_P (dC, dI) classes [(h0, .inr (2, [.ref kRule, .long v0_1, .long v0_2, .long v0_3, .long v0_4])), (kRule, .inr (5, [.ref ruT, .ref ruB, .ref ruE, .int ruHas, .int ruWide, .int ruSo, .int ruUo, .int ruSp, .int ruSs, .int ruUp, .int ruUs, .int ruNev])), (ruB, .inr (1, [.int ebKind, .int ebMonth, .int ebWeek, .int ebDay, .int ebTime, .int ebClock])), (ruE, .inr (1, [.int eeKind, .int eeMonth, .int eeWeek, .int eeDay, .int eeTime, .int eeClock]))] H → va_D A [(h0, .inr (2, [.ref kRule, .long v0_1, .long v0_2, .long v0_3, .long v0_4])), (kRule, .inr (5, [.ref ruT, .ref ruB, .ref ruE, .int ruHas, .int ruWide, .int ruSo, .int ruUo, .int ruSp, .int ruSs, .int ruUp, .int ruUs, .int ruNev])), (ruB, .inr (1, [.int ebKind, .int ebMonth, .int ebWeek, .int ebDay, .int ebTime, .int ebClock])), (ruE, .inr (1, [.int eeKind, .int eeMonth, .int eeWeek, .int eeDay, .int eeTime, .int eeClock]))] → va_S A s.heap H locs → va_K (dC, dI) classes [] s → W p l e R s m args below meth c H locs 0 0 Q (F0 m pc ls [])) {s0 : Int32} {w0_1 : Int64} {w0_2 : Int64} {w0_3 : Int64} {w0_4 : Int64} (hf : f_Walk_goBack_17 nf ebKind ebMonth ebWeek ebDay ebTime ebClock eeKind eeMonth eeWeek eeDay eeTime eeClock s0 w0_1 w0_2 w0_3 w0_4 = some (v0_1, v0_2, v0_3, v0_4)) {H : Heap} {locs : List Loc} {ls : Array Slot} (hK : va_K (dC, dI) classes [] s) (hP : va_P (dC, dI) classes [(h0, .inr (2, [.ref kRule, .long w0_1, .long w0_2, .long w0_3, .long w0_4])), (kRule, .inr (5, [.ref ruT, .ref ruB, .ref ruE, .int ruHas, .int ruWide, .int ruSo, .int ruUo, .int ruSp, .int ruSs, .int ruUp, .int ruUs, .int ruNev])), (ruB, .inr (1, [.int ebKind, .int ebMonth, .int ebWeek, .int ebDay, .int ebTime, .int ebClock])), (ruE, .inr (1, [.int eeKind, .int eeMonth, .int eeWeek, .int eeDay, .int eeTime, .int eeClock]))] H) (hD : va_D A [(h0, .inr (2, [.ref kRule, .long w0_1, .long w0_2, .long w0_3, .long w0_4])), (kRule, .inr (5, [.ref ruT, .ref ruB, .ref ruE, .int ruHas, .int ruWide, .int ruSo, .int ruUo, .int ruSp, .int ruSs, .int ruUp, .int ruUs, .int ruNev])), (ruB, .inr (1, [.int ebKind, .int ebMonth, .int ebWeek, .int ebDay, .int ebTime, .int ebClock])), (ruE, .inr (1, [.int eeKind, .int eeMonth, .int eeWeek, .int eeDay, .int eeTime, .int eeClock]))]) (hS : va_S A s.heap H locs) (hl : lv_has ls 3 [(0, .ref h0)]) : W p l e R s m args below meth c H locs 0 0 Q (F0 m 17 ls [.int s0]) := by
  obtain ⟨hx, hb, hr, hml, hown, hts, hlocks, hRf, hRl⟩ := id C0
  obtain ⟨tms, hZms, hTms, tmg, hZmg, hTmg, hNW⟩ := id hST
  unfold f_Walk_goBack_17 at hf
  refine lv_istore_n (lv' := [(1, .int s0), (0, .ref h0)]) hx hb d_Walk_goBack_17 rfl hl (by decide) rfl (fun ls hl => ?_)
  refine lv_aload_n hx hb d_Walk_goBack_18 rfl (lv_at hl 1 rfl) ?_
  refine va_get (D := (dC, dI)) (ci := 2) (v := .long w0_4) (C := REdgeWalk) (T := TEdgeWalk) (N := 5) hx hb hts in_EdgeWalk hown hK hP 0 rfl rfl 4 (by decide) (hts (.fieldLink "ZoneFiles$EdgeWalk" 40 "ZoneFiles$EdgeWalk" "end" "J") m_5_167) (fun _ h9 => h9) rfl d_Walk_goBack_19 ?_
  refine lv_aload_n hx hb d_Walk_goBack_22 rfl (lv_at hl 1 rfl) ?_
  refine va_get (D := (dC, dI)) (ci := 2) (v := .long w0_3) (C := REdgeWalk) (T := TEdgeWalk) (N := 5) hx hb hts in_EdgeWalk hown hK hP 0 rfl rfl 3 (by decide) (hts (.fieldLink "ZoneFiles$EdgeWalk" 38 "ZoneFiles$EdgeWalk" "begin" "J") m_5_166) (fun _ h9 => h9) rfl d_Walk_goBack_23 ?_
  refine lc_lt (tgt := 34) hx hb d_Walk_goBack_26 d_Walk_goBack_27 (by decide) (fun c_2 => ?_) (fun c_2 => ?_)
  · have hf := it_t c_2 hf
    refine lv_iconst (v := 0) hx hb d_Walk_goBack_34 (by decide) ?_
    exact k_Walk_goBack_35 C0 hST hA hE hf hK hP hD hS (lv_sub hl [0, 1] rfl)
  · have hf := it_f c_2 hf
    refine lv_iconst (v := 1) hx hb d_Walk_goBack_30 (by decide) ?_
    refine lv_goto (tgt := 35) hx hb d_Walk_goBack_31 (by decide) ?_
    exact k_Walk_goBack_35 C0 hST hA hE hf hK hP hD hS (lv_sub hl [0, 1] rfl)
set_option maxHeartbeats 400000 in
set_option maxRecDepth 100000 in
theorem k_Walk_goBack_0 (C0 : Cx p s m meth c args R b_Walk_goBack "ZoneFiles$EdgeWalk" 3 none 3 78) (hST : ST A s s.heap) (hA : ∀ q, s.heap.size ≤ q → A q) (hE : ∀ (pc : Nat) (ls : Array Slot) (H : Heap) (locs : List Loc), decode b_Walk_goBack pc = .ok (.return_, 1) → va_P (dC, dI) classes [(h0, .inr (2, [.ref kRule, .long v0_1, .long v0_2, .long v0_3, .long v0_4])), (kRule, .inr (5, [.ref ruT, .ref ruB, .ref ruE, .int ruHas, .int ruWide, .int ruSo, .int ruUo, .int ruSp, .int ruSs, .int ruUp, .int ruUs, .int ruNev])), (ruB, .inr (1, [.int ebKind, .int ebMonth, .int ebWeek, .int ebDay, .int ebTime, .int ebClock])), (ruE, .inr (1, [.int eeKind, .int eeMonth, .int eeWeek, .int eeDay, .int eeTime, .int eeClock]))] H → va_D A [(h0, .inr (2, [.ref kRule, .long v0_1, .long v0_2, .long v0_3, .long v0_4])), (kRule, .inr (5, [.ref ruT, .ref ruB, .ref ruE, .int ruHas, .int ruWide, .int ruSo, .int ruUo, .int ruSp, .int ruSs, .int ruUp, .int ruUs, .int ruNev])), (ruB, .inr (1, [.int ebKind, .int ebMonth, .int ebWeek, .int ebDay, .int ebTime, .int ebClock])), (ruE, .inr (1, [.int eeKind, .int eeMonth, .int eeWeek, .int eeDay, .int eeTime, .int eeClock]))] → va_S A s.heap H locs → va_K (dC, dI) classes [] s → W p l e R s m args below meth c H locs 0 0 Q (F0 m pc ls [])) {w0_1 : Int64} {w0_2 : Int64} {w0_3 : Int64} {w0_4 : Int64} (hf : f_Walk_goBack_0 nf ebKind ebMonth ebWeek ebDay ebTime ebClock eeKind eeMonth eeWeek eeDay eeTime eeClock w0_1 w0_2 w0_3 w0_4 = some (v0_1, v0_2, v0_3, v0_4)) {H : Heap} {locs : List Loc} {ls : Array Slot} (hK : va_K (dC, dI) classes [] s) (hP : va_P (dC, dI) classes [(h0, .inr (2, [.ref kRule, .long w0_1, .long w0_2, .long w0_3, .long w0_4])), (kRule, .inr (5, [.ref ruT, .ref ruB, .ref ruE, .int ruHas, .int ruWide, .int ruSo, .int ruUo, .int ruSp, .int ruSs, .int ruUp, .int ruUs, .int ruNev])), (ruB, .inr (1, [.int ebKind, .int ebMonth, .int ebWeek, .int ebDay, .int ebTime, .int ebClock])), (ruE, .inr (1, [.int eeKind, .int eeMonth, .int eeWeek, .int eeDay, .int eeTime, .int eeClock]))] H) (hD : va_D A [(h0, .inr (2, [.ref kRule, .long w0_1, .long w0_2, .long w0_3, .long w0_4])), (kRule, .inr (5, [.ref ruT, .ref ruB, .ref ruE, .int ruHas, .int ruWide, .int ruSo, .int ruUo, .int ruSp, .int ruSs, .int ruUp, .int ruUs, .int ruNev])), (ruB, .inr (1, [.int ebKind, .int ebMonth, .int ebWeek, .int ebDay, .int ebTime, .int ebClock])), (ruE, .inr (1, [.int eeKind, .int eeMonth, .int eeWeek, .int eeDay, .int eeTime, .int eeClock]))]) (hS : va_S A s.heap H locs) (hl : lv_has ls 3 [(0, .ref h0)]) : W p l e R s m args below meth c H locs 0 0 Q (F0 m 0 ls []) := by
  obtain ⟨hx, hb, hr, hml, hown, hts, hlocks, hRf, hRl⟩ := id C0
  obtain ⟨tms, hZms, hTms, tmg, hZmg, hTmg, hNW⟩ := id hST
  unfold f_Walk_goBack_0 at hf
  refine lv_aload_n hx hb d_Walk_goBack_0 rfl (lv_at hl 0 rfl) ?_
  refine va_get (D := (dC, dI)) (ci := 2) (v := .long w0_3) (C := REdgeWalk) (T := TEdgeWalk) (N := 5) hx hb hts in_EdgeWalk hown hK hP 0 rfl rfl 3 (by decide) (hts (.fieldLink "ZoneFiles$EdgeWalk" 38 "ZoneFiles$EdgeWalk" "begin" "J") m_5_166) (fun _ h9 => h9) rfl d_Walk_goBack_1 ?_
  refine lv_aload_n hx hb d_Walk_goBack_4 rfl (lv_at hl 0 rfl) ?_
  refine va_get (D := (dC, dI)) (ci := 2) (v := .long w0_4) (C := REdgeWalk) (T := TEdgeWalk) (N := 5) hx hb hts in_EdgeWalk hown hK hP 0 rfl rfl 4 (by decide) (hts (.fieldLink "ZoneFiles$EdgeWalk" 40 "ZoneFiles$EdgeWalk" "end" "J") m_5_167) (fun _ h9 => h9) rfl d_Walk_goBack_5 ?_
  refine lc_lt (tgt := 16) hx hb d_Walk_goBack_8 d_Walk_goBack_9 (by decide) (fun c_1 => ?_) (fun c_1 => ?_)
  · have hf := it_t c_1 hf
    refine lv_iconst (v := 0) hx hb d_Walk_goBack_16 (by decide) ?_
    exact k_Walk_goBack_17 C0 hST hA hE hf hK hP hD hS (lv_sub hl [0] rfl)
  · have hf := it_f c_1 hf
    refine lv_iconst (v := 1) hx hb d_Walk_goBack_12 (by decide) ?_
    refine lv_goto (tgt := 17) hx hb d_Walk_goBack_13 (by decide) ?_
    exact k_Walk_goBack_17 C0 hST hA hE hf hK hP hD hS (lv_sub hl [0] rfl)
end
set_option maxHeartbeats 400000 in
set_option maxRecDepth 100000 in
theorem c_Walk_goBack (l : Launch) (dC : Nat → ClassId) (dI : Nat → Nat → Nat) (h0 : Nat) (kRule : Nat) (ruT : Nat) (ruB : Nat) (ruE : Nat) (sz : Nat) (nf : Nat) (kBy : Int64) (kEy : Int64) (kB : Int64) (kE : Int64) (ruHas : Int32) (ruWide : Int32) (ruSo : Int32) (ruUo : Int32) (ruSp : Int32) (ruSs : Int32) (ruUp : Int32) (ruUs : Int32) (ruNev : Int32) (ebKind : Int32) (ebMonth : Int32) (ebWeek : Int32) (ebDay : Int32) (ebTime : Int32) (ebClock : Int32) (eeKind : Int32) (eeMonth : Int32) (eeWeek : Int32) (eeDay : Int32) (eeTime : Int32) (eeClock : Int32) {v0_1 : Int64} {v0_2 : Int64} {v0_3 : Int64} {v0_4 : Int64} (hf : f_Walk_goBack nf kBy kEy kB kE ebKind ebMonth ebWeek ebDay ebTime ebClock eeKind eeMonth eeWeek eeDay eeTime eeClock = some (v0_1, v0_2, v0_3, v0_4)) : Met l y_Walk_goBack (wd y_Walk_goBack b_Walk_goBack 3 none) ({ frames := 3, cells := 0, slots := 0, locals := 78 }) (MU dC dI [(h0, .inr (2, [.ref kRule, .long kBy, .long kEy, .long kB, .long kE])), (kRule, .inr (5, [.ref ruT, .ref ruB, .ref ruE, .int ruHas, .int ruWide, .int ruSo, .int ruUo, .int ruSp, .int ruSs, .int ruUp, .int ruUs, .int ruNev])), (ruB, .inr (1, [.int ebKind, .int ebMonth, .int ebWeek, .int ebDay, .int ebTime, .int ebClock])), (ruE, .inr (1, [.int eeKind, .int eeMonth, .int eeWeek, .int eeDay, .int eeTime, .int eeClock]))] [] sz [.ref h0]) (MV none (fun t => va_P (dC, dI) classes [(h0, .inr (2, [.ref kRule, .long v0_1, .long v0_2, .long v0_3, .long v0_4])), (kRule, .inr (5, [.ref ruT, .ref ruB, .ref ruE, .int ruHas, .int ruWide, .int ruSo, .int ruUo, .int ruSp, .int ruSs, .int ruUp, .int ruUs, .int ruNev])), (ruB, .inr (1, [.int ebKind, .int ebMonth, .int ebWeek, .int ebDay, .int ebTime, .int ebClock])), (ruE, .inr (1, [.int eeKind, .int eeMonth, .int eeWeek, .int eeDay, .int eeTime, .int eeClock]))] t.heap ∧ va_K (dC, dI) classes [] t ∧ va_D (va_A [(h0, .inr (2, [.ref kRule, .long kBy, .long kEy, .long kB, .long kE])), (kRule, .inr (5, [.ref ruT, .ref ruB, .ref ruE, .int ruHas, .int ruWide, .int ruSo, .int ruUo, .int ruSp, .int ruSs, .int ruUp, .int ruUs, .int ruNev])), (ruB, .inr (1, [.int ebKind, .int ebMonth, .int ebWeek, .int ebDay, .int ebTime, .int ebClock])), (ruE, .inr (1, [.int eeKind, .int eeMonth, .int eeWeek, .int eeDay, .int eeTime, .int eeClock]))] sz) [(h0, .inr (2, [.ref kRule, .long v0_1, .long v0_2, .long v0_3, .long v0_4])), (kRule, .inr (5, [.ref ruT, .ref ruB, .ref ruE, .int ruHas, .int ruWide, .int ruSo, .int ruUo, .int ruSp, .int ruSs, .int ruUp, .int ruUs, .int ruNev])), (ruB, .inr (1, [.int ebKind, .int ebMonth, .int ebWeek, .int ebDay, .int ebTime, .int ebClock])), (ruE, .inr (1, [.int eeKind, .int eeMonth, .int eeWeek, .int eeDay, .int eeTime, .int eeClock]))]) (va_A [(h0, .inr (2, [.ref kRule, .long kBy, .long kEy, .long kB, .long kE])), (kRule, .inr (5, [.ref ruT, .ref ruB, .ref ruE, .int ruHas, .int ruWide, .int ruSo, .int ruUo, .int ruSp, .int ruSs, .int ruUp, .int ruUs, .int ruNev])), (ruB, .inr (1, [.int ebKind, .int ebMonth, .int ebWeek, .int ebDay, .int ebTime, .int ebClock])), (ruE, .inr (1, [.int eeKind, .int eeMonth, .int eeWeek, .int eeDay, .int eeTime, .int eeClock]))] sz)) 0 0 (va_A [(h0, .inr (2, [.ref kRule, .long kBy, .long kEy, .long kB, .long kE])), (kRule, .inr (5, [.ref ruT, .ref ruB, .ref ruE, .int ruHas, .int ruWide, .int ruSo, .int ruUo, .int ruSp, .int ruSs, .int ruUp, .int ruUs, .int ruNev])), (ruB, .inr (1, [.int ebKind, .int ebMonth, .int ebWeek, .int ebDay, .int ebTime, .int ebClock])), (ruE, .inr (1, [.int eeKind, .int eeMonth, .int eeWeek, .int eeDay, .int eeTime, .int eeClock]))] sz) :=
  met_M (plainFor_of_name (by decide)) (Nat.le_of_ble_eq_true rfl) (fun p e R s m args below meth c ls hRc hRs hsz hin C0 hST hK hP hD hl => by
    obtain ⟨hx, hb, hr, hml, hown, hts, hlocks, hRf, hRl⟩ := id C0
    subst hsz
    have hA : ∀ q : Nat, s.heap.size ≤ q → va_A [(h0, .inr (2, [.ref kRule, .long kBy, .long kEy, .long kB, .long kE])), (kRule, .inr (5, [.ref ruT, .ref ruB, .ref ruE, .int ruHas, .int ruWide, .int ruSo, .int ruUo, .int ruSp, .int ruSs, .int ruUp, .int ruUs, .int ruNev])), (ruB, .inr (1, [.int ebKind, .int ebMonth, .int ebWeek, .int ebDay, .int ebTime, .int ebClock])), (ruE, .inr (1, [.int eeKind, .int eeMonth, .int eeWeek, .int eeDay, .int eeTime, .int eeClock]))] s.heap.size q := fun q h => Or.inr h
    have hS : va_S (va_A [(h0, .inr (2, [.ref kRule, .long kBy, .long kEy, .long kB, .long kE])), (kRule, .inr (5, [.ref ruT, .ref ruB, .ref ruE, .int ruHas, .int ruWide, .int ruSo, .int ruUo, .int ruSp, .int ruSs, .int ruUp, .int ruUs, .int ruNev])), (ruB, .inr (1, [.int ebKind, .int ebMonth, .int ebWeek, .int ebDay, .int ebTime, .int ebClock])), (ruE, .inr (1, [.int eeKind, .int eeMonth, .int eeWeek, .int eeDay, .int eeTime, .int eeClock]))] s.heap.size) s.heap s.heap [] := va_S.rf
    unfold f_Walk_goBack at hf
    exact k_Walk_goBack_0 C0 hST hA (fun pc ls H locs hd hP hD hS hK => W.vret hx hb hr (fun t ht hW => ⟨⟨rfl, ⟨by rw [ht]; exact hP, va_K.moved hW.alike hK, hD⟩⟩, hS.F ht⟩) hS.2.2 hd) hf hK hP hD hS (lv_sub hl [0] rfl))
