theorem m_1_2 : Cond.initialized "ZoneFiles$Bytes" ∈ T0 := tb_1 2 rfl rfl
theorem m_1_6 : Cond.initialized "java/util/Arrays" ∈ T0 := tb_1 6 rfl rfl
theorem m_1_8 : Cond.initialized "java/lang/System" ∈ T0 := tb_1 8 rfl rfl
theorem m_1_37 : Cond.fieldLink "ZoneFiles$Bytes" 7 "ZoneFiles$Bytes" "row" "[B" ∈ T0 := tb_1 37 rfl rfl
theorem m_1_38 : Cond.fieldLink "ZoneFiles$Bytes" 13 "ZoneFiles$Bytes" "size" "I" ∈ T0 := tb_1 38 rfl rfl
theorem m_1_50 : Cond.arrayClass .byte ∈ T0 := tb_1 50 rfl rfl
theorem m_2_38 : Cond.instanceMethod ⟨"ZoneFiles$Bytes", "put", "(I)V"⟩ ∈ T0 := tb_2 38 rfl rfl
theorem m_2_39 : Cond.selects "ZoneFiles$Bytes" ⟨"ZoneFiles$Bytes", "put", "(I)V"⟩ ⟨"ZoneFiles$Bytes", "put", "(I)V"⟩ ∈ T0 := tb_2 39 rfl rfl
theorem m_2_40 : Cond.code ⟨"ZoneFiles$Bytes", "put", "(I)V"⟩ prog_2_method_3_code 2 none ∈ T0 := tb_2 40 rfl rfl
theorem m_2_41 : Cond.methodLink "ZoneFiles$Bytes" 17 ⟨"java/util/Arrays", "copyOf", "([BI)[B"⟩ ∈ T0 := tb_2 41 rfl rfl
theorem m_2_42 : Cond.static ⟨"java/util/Arrays", "copyOf", "([BI)[B"⟩ ∈ T0 := tb_2 42 rfl rfl
theorem m_2_43 : Cond.code ⟨"java/util/Arrays", "copyOf", "([BI)[B"⟩ prog_25_method_121_code 3 (some (.array .byte)) ∈ T0 := tb_2 43 rfl rfl
theorem m_2_51 : Cond.methodLink "java/util/Arrays" 304 ⟨"java/lang/Math", "min", "(II)I"⟩ ∈ T0 := tb_2 51 rfl rfl
theorem m_2_52 : Cond.static ⟨"java/lang/Math", "min", "(II)I"⟩ ∈ T0 := tb_2 52 rfl rfl
theorem m_2_53 : Cond.code ⟨"java/lang/Math", "min", "(II)I"⟩ prog_20_method_69_code 2 (some .int) ∈ T0 := tb_2 53 rfl rfl
theorem m_2_54 : Cond.methodLink "java/util/Arrays" 150 ⟨"java/lang/System", "arraycopy", "(Ljava/lang/Object;ILjava/lang/Object;II)V"⟩ ∈ T0 := tb_2 54 rfl rfl
theorem m_2_55 : Cond.static ⟨"java/lang/System", "arraycopy", "(Ljava/lang/Object;ILjava/lang/Object;II)V"⟩ ∈ T0 := tb_2 55 rfl rfl
theorem m_2_56 : Cond.native ⟨"java/lang/System", "arraycopy", "(Ljava/lang/Object;ILjava/lang/Object;II)V"⟩ ∈ T0 := tb_2 56 rfl rfl
theorem m_2_71 : Cond.instanceMethod ⟨"ZoneFiles$Bytes", "get", "(I)I"⟩ ∈ T0 := tb_2 71 rfl rfl
theorem m_2_72 : Cond.selects "ZoneFiles$Bytes" ⟨"ZoneFiles$Bytes", "get", "(I)I"⟩ ⟨"ZoneFiles$Bytes", "get", "(I)I"⟩ ∈ T0 := tb_2 72 rfl rfl
theorem m_2_73 : Cond.code ⟨"ZoneFiles$Bytes", "get", "(I)I"⟩ prog_2_method_7_code 2 (some .int) ∈ T0 := tb_2 73 rfl rfl
theorem m_3_11 : Cond.methodLink "ZoneFiles$Bytes" 23 ⟨"ZoneFiles$Bytes", "get", "(I)I"⟩ ∈ T0 := tb_3 11 rfl rfl
theorem m_3_12 : Cond.methodLink "ZoneFiles$Bytes" 27 ⟨"ZoneFiles$Bytes", "put", "(I)V"⟩ ∈ T0 := tb_3 12 rfl rfl
theorem m_3_207 : Cond.methodLink "ZoneFiles$Bytes" 31 ⟨"ZoneFiles$Bytes", "signedAt", "(II)J"⟩ ∈ T0 := tb_3 207 rfl rfl
theorem m_3_208 : Cond.instanceMethod ⟨"ZoneFiles$Bytes", "signedAt", "(II)J"⟩ ∈ T0 := tb_3 208 rfl rfl
theorem m_3_209 : Cond.selects "ZoneFiles$Bytes" ⟨"ZoneFiles$Bytes", "signedAt", "(II)J"⟩ ⟨"ZoneFiles$Bytes", "signedAt", "(II)J"⟩ ∈ T0 := tb_3 209 rfl rfl
theorem m_3_210 : Cond.code ⟨"ZoneFiles$Bytes", "signedAt", "(II)J"⟩ prog_2_method_9_code 6 (some .long) ∈ T0 := tb_3 210 rfl rfl
theorem m_3_211 : Cond.constantLong "ZoneFiles$Bytes" 37 255 ∈ T0 := tb_3 211 rfl rfl
theorem m_3_212 : Cond.constantLong "ZoneFiles$Bytes" 35 4294967295 ∈ T0 := tb_3 212 rfl rfl
abbrev b_By_get : ByteArray := prog_2_method_7_code
def y_By_get : MethodName := ⟨"ZoneFiles$Bytes", "get", "(I)I"⟩
theorem d_By_get_0 : decode b_By_get 0 = .ok (.iload_n 1, 1) := by decide +kernel
theorem d_By_get_1 : decode b_By_get 1 = .ok (.ifCond .lt 11, 3) := by decide +kernel
theorem d_By_get_4 : decode b_By_get 4 = .ok (.iload_n 1, 1) := by decide +kernel
theorem d_By_get_5 : decode b_By_get 5 = .ok (.aload_n 0, 1) := by decide +kernel
theorem d_By_get_6 : decode b_By_get 6 = .ok (.getfield 13, 3) := by decide +kernel
theorem d_By_get_9 : decode b_By_get 9 = .ok (.if_icmp .lt 7, 3) := by decide +kernel
theorem d_By_get_12 : decode b_By_get 12 = .ok (.iconst (-1), 1) := by decide +kernel
theorem d_By_get_13 : decode b_By_get 13 = .ok (.goto 13, 3) := by decide +kernel
theorem d_By_get_16 : decode b_By_get 16 = .ok (.aload_n 0, 1) := by decide +kernel
theorem d_By_get_17 : decode b_By_get 17 = .ok (.getfield 7, 3) := by decide +kernel
theorem d_By_get_20 : decode b_By_get 20 = .ok (.iload_n 1, 1) := by decide +kernel
theorem d_By_get_21 : decode b_By_get 21 = .ok (.baload, 1) := by decide +kernel
theorem d_By_get_22 : decode b_By_get 22 = .ok (.sipush 255, 3) := by decide +kernel
theorem d_By_get_25 : decode b_By_get 25 = .ok (.iand, 1) := by decide +kernel
theorem d_By_get_26 : decode b_By_get 26 = .ok (.ireturn, 1) := by decide +kernel
abbrev b_By_signedAt : ByteArray := prog_2_method_9_code
def y_By_signedAt : MethodName := ⟨"ZoneFiles$Bytes", "signedAt", "(II)J"⟩
theorem d_By_signedAt_0 : decode b_By_signedAt 0 = .ok (.lconst 0, 1) := by decide +kernel
theorem d_By_signedAt_1 : decode b_By_signedAt 1 = .ok (.lstore_n 3, 1) := by decide +kernel
theorem d_By_signedAt_2 : decode b_By_signedAt 2 = .ok (.iconst 0, 1) := by decide +kernel
theorem d_By_signedAt_3 : decode b_By_signedAt 3 = .ok (.istore 5, 2) := by decide +kernel
theorem d_By_signedAt_5 : decode b_By_signedAt 5 = .ok (.iload 5, 2) := by decide +kernel
theorem d_By_signedAt_7 : decode b_By_signedAt 7 = .ok (.iload_n 2, 1) := by decide +kernel
theorem d_By_signedAt_8 : decode b_By_signedAt 8 = .ok (.if_icmp .ge 28, 3) := by decide +kernel
theorem d_By_signedAt_11 : decode b_By_signedAt 11 = .ok (.lload_n 3, 1) := by decide +kernel
theorem d_By_signedAt_12 : decode b_By_signedAt 12 = .ok (.bipush 8, 2) := by decide +kernel
theorem d_By_signedAt_14 : decode b_By_signedAt 14 = .ok (.lshl, 1) := by decide +kernel
theorem d_By_signedAt_15 : decode b_By_signedAt 15 = .ok (.aload_n 0, 1) := by decide +kernel
theorem d_By_signedAt_16 : decode b_By_signedAt 16 = .ok (.iload_n 1, 1) := by decide +kernel
theorem d_By_signedAt_17 : decode b_By_signedAt 17 = .ok (.iload 5, 2) := by decide +kernel
theorem d_By_signedAt_19 : decode b_By_signedAt 19 = .ok (.iadd, 1) := by decide +kernel
theorem d_By_signedAt_20 : decode b_By_signedAt 20 = .ok (.invokevirtual 23, 3) := by decide +kernel
theorem d_By_signedAt_23 : decode b_By_signedAt 23 = .ok (.i2l, 1) := by decide +kernel
theorem d_By_signedAt_24 : decode b_By_signedAt 24 = .ok (.ldc2_w 37, 3) := by decide +kernel
theorem d_By_signedAt_27 : decode b_By_signedAt 27 = .ok (.land, 1) := by decide +kernel
theorem d_By_signedAt_28 : decode b_By_signedAt 28 = .ok (.lor, 1) := by decide +kernel
theorem d_By_signedAt_29 : decode b_By_signedAt 29 = .ok (.lstore_n 3, 1) := by decide +kernel
theorem d_By_signedAt_30 : decode b_By_signedAt 30 = .ok (.iinc 5 1, 3) := by decide +kernel
theorem d_By_signedAt_33 : decode b_By_signedAt 33 = .ok (.goto (-28), 3) := by decide +kernel
theorem d_By_signedAt_36 : decode b_By_signedAt 36 = .ok (.iload_n 2, 1) := by decide +kernel
theorem d_By_signedAt_37 : decode b_By_signedAt 37 = .ok (.iconst 4, 1) := by decide +kernel
theorem d_By_signedAt_38 : decode b_By_signedAt 38 = .ok (.if_icmp .ne 9, 3) := by decide +kernel
theorem d_By_signedAt_41 : decode b_By_signedAt 41 = .ok (.lload_n 3, 1) := by decide +kernel
theorem d_By_signedAt_42 : decode b_By_signedAt 42 = .ok (.l2i, 1) := by decide +kernel
theorem d_By_signedAt_43 : decode b_By_signedAt 43 = .ok (.i2l, 1) := by decide +kernel
theorem d_By_signedAt_44 : decode b_By_signedAt 44 = .ok (.goto 4, 3) := by decide +kernel
theorem d_By_signedAt_47 : decode b_By_signedAt 47 = .ok (.lload_n 3, 1) := by decide +kernel
theorem d_By_signedAt_48 : decode b_By_signedAt 48 = .ok (.lreturn, 1) := by decide +kernel
abbrev b_By_unsignedAt : ByteArray := prog_2_method_8_code
def y_By_unsignedAt : MethodName := ⟨"ZoneFiles$Bytes", "unsignedAt", "(I)J"⟩
theorem d_By_unsignedAt_0 : decode b_By_unsignedAt 0 = .ok (.aload_n 0, 1) := by decide +kernel
theorem d_By_unsignedAt_1 : decode b_By_unsignedAt 1 = .ok (.iload_n 1, 1) := by decide +kernel
theorem d_By_unsignedAt_2 : decode b_By_unsignedAt 2 = .ok (.iconst 4, 1) := by decide +kernel
theorem d_By_unsignedAt_3 : decode b_By_unsignedAt 3 = .ok (.invokevirtual 31, 3) := by decide +kernel
theorem d_By_unsignedAt_6 : decode b_By_unsignedAt 6 = .ok (.ldc2_w 35, 3) := by decide +kernel
theorem d_By_unsignedAt_9 : decode b_By_unsignedAt 9 = .ok (.land, 1) := by decide +kernel
theorem d_By_unsignedAt_10 : decode b_By_unsignedAt 10 = .ok (.lreturn, 1) := by decide +kernel
abbrev b_Arrays_copyOf : ByteArray := prog_25_method_121_code
def y_Arrays_copyOf : MethodName := ⟨"java/util/Arrays", "copyOf", "([BI)[B"⟩
theorem d_Arrays_copyOf_0 : decode b_Arrays_copyOf 0 = .ok (.iload_n 1, 1) := by decide +kernel
theorem d_Arrays_copyOf_1 : decode b_Arrays_copyOf 1 = .ok (.aload_n 0, 1) := by decide +kernel
theorem d_Arrays_copyOf_2 : decode b_Arrays_copyOf 2 = .ok (.arraylength, 1) := by decide +kernel
theorem d_Arrays_copyOf_3 : decode b_Arrays_copyOf 3 = .ok (.if_icmp .ne 11, 3) := by decide +kernel
theorem d_Arrays_copyOf_6 : decode b_Arrays_copyOf 6 = .ok (.aload_n 0, 1) := by decide +kernel
theorem d_Arrays_copyOf_7 : decode b_Arrays_copyOf 7 = .ok (.invokevirtual 310, 3) := by decide +kernel
theorem d_Arrays_copyOf_10 : decode b_Arrays_copyOf 10 = .ok (.checkcast 311, 3) := by decide +kernel
theorem d_Arrays_copyOf_13 : decode b_Arrays_copyOf 13 = .ok (.areturn, 1) := by decide +kernel
theorem d_Arrays_copyOf_14 : decode b_Arrays_copyOf 14 = .ok (.iload_n 1, 1) := by decide +kernel
theorem d_Arrays_copyOf_15 : decode b_Arrays_copyOf 15 = .ok (.newarray .byte, 2) := by decide +kernel
theorem d_Arrays_copyOf_17 : decode b_Arrays_copyOf 17 = .ok (.astore_n 2, 1) := by decide +kernel
theorem d_Arrays_copyOf_18 : decode b_Arrays_copyOf 18 = .ok (.aload_n 0, 1) := by decide +kernel
theorem d_Arrays_copyOf_19 : decode b_Arrays_copyOf 19 = .ok (.iconst 0, 1) := by decide +kernel
theorem d_Arrays_copyOf_20 : decode b_Arrays_copyOf 20 = .ok (.aload_n 2, 1) := by decide +kernel
theorem d_Arrays_copyOf_21 : decode b_Arrays_copyOf 21 = .ok (.iconst 0, 1) := by decide +kernel
theorem d_Arrays_copyOf_22 : decode b_Arrays_copyOf 22 = .ok (.aload_n 0, 1) := by decide +kernel
theorem d_Arrays_copyOf_23 : decode b_Arrays_copyOf 23 = .ok (.arraylength, 1) := by decide +kernel
theorem d_Arrays_copyOf_24 : decode b_Arrays_copyOf 24 = .ok (.iload_n 1, 1) := by decide +kernel
theorem d_Arrays_copyOf_25 : decode b_Arrays_copyOf 25 = .ok (.invokestatic 304, 3) := by decide +kernel
theorem d_Arrays_copyOf_28 : decode b_Arrays_copyOf 28 = .ok (.invokestatic 150, 3) := by decide +kernel
theorem d_Arrays_copyOf_31 : decode b_Arrays_copyOf 31 = .ok (.aload_n 2, 1) := by decide +kernel
theorem d_Arrays_copyOf_32 : decode b_Arrays_copyOf 32 = .ok (.areturn, 1) := by decide +kernel
abbrev b_By_clear : ByteArray := prog_2_method_2_code
def y_By_clear : MethodName := ⟨"ZoneFiles$Bytes", "clear", "()V"⟩
theorem d_By_clear_0 : decode b_By_clear 0 = .ok (.aload_n 0, 1) := by decide +kernel
theorem d_By_clear_1 : decode b_By_clear 1 = .ok (.iconst 0, 1) := by decide +kernel
theorem d_By_clear_2 : decode b_By_clear 2 = .ok (.putfield 13, 3) := by decide +kernel
theorem d_By_clear_5 : decode b_By_clear 5 = .ok (.return_, 1) := by decide +kernel
abbrev b_By_put : ByteArray := prog_2_method_3_code
def y_By_put : MethodName := ⟨"ZoneFiles$Bytes", "put", "(I)V"⟩
theorem d_By_put_0 : decode b_By_put 0 = .ok (.aload_n 0, 1) := by decide +kernel
theorem d_By_put_1 : decode b_By_put 1 = .ok (.getfield 13, 3) := by decide +kernel
theorem d_By_put_4 : decode b_By_put 4 = .ok (.aload_n 0, 1) := by decide +kernel
theorem d_By_put_5 : decode b_By_put 5 = .ok (.getfield 7, 3) := by decide +kernel
theorem d_By_put_8 : decode b_By_put 8 = .ok (.arraylength, 1) := by decide +kernel
theorem d_By_put_9 : decode b_By_put 9 = .ok (.if_icmp .lt 21, 3) := by decide +kernel
theorem d_By_put_12 : decode b_By_put 12 = .ok (.aload_n 0, 1) := by decide +kernel
theorem d_By_put_13 : decode b_By_put 13 = .ok (.aload_n 0, 1) := by decide +kernel
theorem d_By_put_14 : decode b_By_put 14 = .ok (.getfield 7, 3) := by decide +kernel
theorem d_By_put_17 : decode b_By_put 17 = .ok (.iconst 2, 1) := by decide +kernel
theorem d_By_put_18 : decode b_By_put 18 = .ok (.aload_n 0, 1) := by decide +kernel
theorem d_By_put_19 : decode b_By_put 19 = .ok (.getfield 7, 3) := by decide +kernel
theorem d_By_put_22 : decode b_By_put 22 = .ok (.arraylength, 1) := by decide +kernel
theorem d_By_put_23 : decode b_By_put 23 = .ok (.imul, 1) := by decide +kernel
theorem d_By_put_24 : decode b_By_put 24 = .ok (.invokestatic 17, 3) := by decide +kernel
theorem d_By_put_27 : decode b_By_put 27 = .ok (.putfield 7, 3) := by decide +kernel
theorem d_By_put_30 : decode b_By_put 30 = .ok (.aload_n 0, 1) := by decide +kernel
theorem d_By_put_31 : decode b_By_put 31 = .ok (.getfield 7, 3) := by decide +kernel
theorem d_By_put_34 : decode b_By_put 34 = .ok (.aload_n 0, 1) := by decide +kernel
theorem d_By_put_35 : decode b_By_put 35 = .ok (.getfield 13, 3) := by decide +kernel
theorem d_By_put_38 : decode b_By_put 38 = .ok (.iload_n 1, 1) := by decide +kernel
theorem d_By_put_39 : decode b_By_put 39 = .ok (.i2b, 1) := by decide +kernel
theorem d_By_put_40 : decode b_By_put 40 = .ok (.bastore, 1) := by decide +kernel
theorem d_By_put_41 : decode b_By_put 41 = .ok (.aload_n 0, 1) := by decide +kernel
theorem d_By_put_42 : decode b_By_put 42 = .ok (.dup, 1) := by decide +kernel
theorem d_By_put_43 : decode b_By_put 43 = .ok (.getfield 13, 3) := by decide +kernel
theorem d_By_put_46 : decode b_By_put 46 = .ok (.iconst 1, 1) := by decide +kernel
theorem d_By_put_47 : decode b_By_put 47 = .ok (.iadd, 1) := by decide +kernel
theorem d_By_put_48 : decode b_By_put 48 = .ok (.putfield 13, 3) := by decide +kernel
theorem d_By_put_51 : decode b_By_put 51 = .ok (.return_, 1) := by decide +kernel
abbrev b_By_putNumber : ByteArray := prog_2_method_5_code
def y_By_putNumber : MethodName := ⟨"ZoneFiles$Bytes", "putNumber", "(JI)V"⟩
theorem d_By_putNumber_0 : decode b_By_putNumber 0 = .ok (.iload_n 3, 1) := by decide +kernel
theorem d_By_putNumber_1 : decode b_By_putNumber 1 = .ok (.iconst 1, 1) := by decide +kernel
theorem d_By_putNumber_2 : decode b_By_putNumber 2 = .ok (.isub, 1) := by decide +kernel
theorem d_By_putNumber_3 : decode b_By_putNumber 3 = .ok (.istore 4, 2) := by decide +kernel
theorem d_By_putNumber_5 : decode b_By_putNumber 5 = .ok (.iload 4, 2) := by decide +kernel
theorem d_By_putNumber_7 : decode b_By_putNumber 7 = .ok (.ifCond .lt 21, 3) := by decide +kernel
theorem d_By_putNumber_10 : decode b_By_putNumber 10 = .ok (.aload_n 0, 1) := by decide +kernel
theorem d_By_putNumber_11 : decode b_By_putNumber 11 = .ok (.lload_n 1, 1) := by decide +kernel
theorem d_By_putNumber_12 : decode b_By_putNumber 12 = .ok (.bipush 8, 2) := by decide +kernel
theorem d_By_putNumber_14 : decode b_By_putNumber 14 = .ok (.iload 4, 2) := by decide +kernel
theorem d_By_putNumber_16 : decode b_By_putNumber 16 = .ok (.imul, 1) := by decide +kernel
theorem d_By_putNumber_17 : decode b_By_putNumber 17 = .ok (.lushr, 1) := by decide +kernel
theorem d_By_putNumber_18 : decode b_By_putNumber 18 = .ok (.l2i, 1) := by decide +kernel
theorem d_By_putNumber_19 : decode b_By_putNumber 19 = .ok (.invokevirtual 27, 3) := by decide +kernel
theorem d_By_putNumber_22 : decode b_By_putNumber 22 = .ok (.iinc 4 (-1), 3) := by decide +kernel
theorem d_By_putNumber_25 : decode b_By_putNumber 25 = .ok (.goto (-20), 3) := by decide +kernel
theorem d_By_putNumber_28 : decode b_By_putNumber 28 = .ok (.return_, 1) := by decide +kernel
abbrev b_By_putZeros : ByteArray := prog_2_method_6_code
def y_By_putZeros : MethodName := ⟨"ZoneFiles$Bytes", "putZeros", "(I)V"⟩
theorem d_By_putZeros_0 : decode b_By_putZeros 0 = .ok (.iconst 0, 1) := by decide +kernel
theorem d_By_putZeros_1 : decode b_By_putZeros 1 = .ok (.istore_n 2, 1) := by decide +kernel
theorem d_By_putZeros_2 : decode b_By_putZeros 2 = .ok (.iload_n 2, 1) := by decide +kernel
theorem d_By_putZeros_3 : decode b_By_putZeros 3 = .ok (.iload_n 1, 1) := by decide +kernel
theorem d_By_putZeros_4 : decode b_By_putZeros 4 = .ok (.if_icmp .ge 14, 3) := by decide +kernel
theorem d_By_putZeros_7 : decode b_By_putZeros 7 = .ok (.aload_n 0, 1) := by decide +kernel
theorem d_By_putZeros_8 : decode b_By_putZeros 8 = .ok (.iconst 0, 1) := by decide +kernel
theorem d_By_putZeros_9 : decode b_By_putZeros 9 = .ok (.invokevirtual 27, 3) := by decide +kernel
theorem d_By_putZeros_12 : decode b_By_putZeros 12 = .ok (.iinc 2 1, 3) := by decide +kernel
theorem d_By_putZeros_15 : decode b_By_putZeros 15 = .ok (.goto (-13), 3) := by decide +kernel
theorem d_By_putZeros_18 : decode b_By_putZeros 18 = .ok (.return_, 1) := by decide +kernel
-- ZoneFiles$Bytes.get(I)I
def f_By_get_26 (nf : Nat) (s0 : Int32) : Option (Int32) :=
  some s0
def f_By_get_12 (nf : Nat) : Option (Int32) :=
  f_By_get_26 nf (-1)
def f_By_get_0 (nf : Nat) (byS : Int32) (byN : Nat) (byA : Nat → Int32) (x1 : Int32) : Option (Int32) :=
  if x1 < 0 then
  f_By_get_12 nf
  else
  if x1 < byS then
    if x1 < 0 ∨ byN ≤ x1.toNatClampNeg then none else
      f_By_get_26 nf ((byA x1.toNatClampNeg) &&& 255)
    else
    f_By_get_12 nf
def f_By_get (nf : Nat) (p0 : Int32) (byS : Int32) (byN : Nat) (byA : Nat → Int32) : Option (Int32) :=
  f_By_get_0 nf byS byN byA p0
section
variable {p : Program} {l : Launch} {e : Env} {R : Room} {s : State} {m : MethodId} {args : Array Value} {below : List Frame} {meth : Method} {c : Code} {Q : State → Prop} {dC : Nat → ClassId} {dI : Nat → Nat → Nat} {nf : Nat}
variable {h0 : Nat} {byR : Nat} {cAbyR : ClassId} {byS : Int32} {byN : Nat} {byA : Nat → Int32} {r0 : Int32}
set_option maxHeartbeats 400000 in
set_option maxRecDepth 100000 in
theorem k_By_get_26 (C0 : Cx p s m meth c args R b_By_get "ZoneFiles$Bytes" 2 (some .int) 0 0) (hST : ST (fun _ => False) s s.heap) (hK : va_K (dC, dI) classes [(cAbyR, .byte)] s) (hP : va_P (dC, dI) classes [(h0, .inr (0, [.ref byR, .int byS])), (byR, .inl (cAbyR, byN, .inl byA))] s.heap) (hE : ∀ (pc : Nat) (ls : Array Slot), decode b_By_get pc = .ok (.ireturn, 1) → narrow .int (.int r0) = .int r0 → W p l e R s m args below meth c s.heap [] 0 0 Q (F0 m pc ls [.int r0])) {s0 : Int32} (hf : f_By_get_26 nf s0 = some r0) {ls : Array Slot} (hl : lv_has ls 2 []) : W p l e R s m args below meth c s.heap [] 0 0 Q (F0 m 26 ls [.int s0]) := by
  obtain ⟨hx, hb, hr, hml, hown, hts, hlocks, hRf, hRl⟩ := id C0
  obtain ⟨tms, hZms, hTms, tmg, hZmg, hTmg, hNW⟩ := id hST
  unfold f_By_get_26 at hf
  have e := rs hf
  subst e
  exact hE _ _ d_By_get_26 rfl
set_option maxHeartbeats 400000 in
set_option maxRecDepth 100000 in
theorem k_By_get_12 (C0 : Cx p s m meth c args R b_By_get "ZoneFiles$Bytes" 2 (some .int) 0 0) (hST : ST (fun _ => False) s s.heap) (hK : va_K (dC, dI) classes [(cAbyR, .byte)] s) (hP : va_P (dC, dI) classes [(h0, .inr (0, [.ref byR, .int byS])), (byR, .inl (cAbyR, byN, .inl byA))] s.heap) (hE : ∀ (pc : Nat) (ls : Array Slot), decode b_By_get pc = .ok (.ireturn, 1) → narrow .int (.int r0) = .int r0 → W p l e R s m args below meth c s.heap [] 0 0 Q (F0 m pc ls [.int r0])) (hf : f_By_get_12 nf = some r0) {ls : Array Slot} (hl : lv_has ls 2 []) : W p l e R s m args below meth c s.heap [] 0 0 Q (F0 m 12 ls []) := by
  obtain ⟨hx, hb, hr, hml, hown, hts, hlocks, hRf, hRl⟩ := id C0
  obtain ⟨tms, hZms, hTms, tmg, hZmg, hTmg, hNW⟩ := id hST
  unfold f_By_get_12 at hf
  refine lv_iconst (v := -1) hx hb d_By_get_12 (by decide) ?_
  refine lv_goto (tgt := 26) hx hb d_By_get_13 (by decide) ?_
  exact k_By_get_26 C0 hST hK hP hE hf (lv_sub hl [] rfl)
set_option maxHeartbeats 400000 in
set_option maxRecDepth 100000 in
theorem k_By_get_0 (C0 : Cx p s m meth c args R b_By_get "ZoneFiles$Bytes" 2 (some .int) 0 0) (hST : ST (fun _ => False) s s.heap) (hK : va_K (dC, dI) classes [(cAbyR, .byte)] s) (hP : va_P (dC, dI) classes [(h0, .inr (0, [.ref byR, .int byS])), (byR, .inl (cAbyR, byN, .inl byA))] s.heap) (hE : ∀ (pc : Nat) (ls : Array Slot), decode b_By_get pc = .ok (.ireturn, 1) → narrow .int (.int r0) = .int r0 → W p l e R s m args below meth c s.heap [] 0 0 Q (F0 m pc ls [.int r0])) {x1 : Int32} (hf : f_By_get_0 nf byS byN byA x1 = some r0) {ls : Array Slot} (hl : lv_has ls 2 [(0, .ref h0), (1, .int x1)]) : W p l e R s m args below meth c s.heap [] 0 0 Q (F0 m 0 ls []) := by
  obtain ⟨hx, hb, hr, hml, hown, hts, hlocks, hRf, hRl⟩ := id C0
  obtain ⟨tms, hZms, hTms, tmg, hZmg, hTmg, hNW⟩ := id hST
  unfold f_By_get_0 at hf
  refine lv_iload_n hx hb d_By_get_0 rfl (lv_at hl 1 rfl) ?_
  refine lv_if_lt (tgt := 12) hx hb d_By_get_1 (by decide) (fun c_1 => ?_) (fun c_1 => ?_)
  · have hf := it_t c_1 hf
    exact k_By_get_12 C0 hST hK hP hE hf (lv_sub hl [] rfl)
  · have hf := it_f c_1 hf
    refine lv_iload_n hx hb d_By_get_4 rfl (lv_at hl 1 rfl) ?_
    refine lv_aload_n hx hb d_By_get_5 rfl (lv_at hl 0 rfl) ?_
    refine va_get (D := (dC, dI)) (ci := 0) (v := .int byS) (C := RBytes) (T := TBytes) (N := 2) hx hb hts in_Bytes hown hK hP 0 rfl rfl 1 (by decide) (hts (.fieldLink "ZoneFiles$Bytes" 13 "ZoneFiles$Bytes" "size" "I") m_1_38) (fun _ h9 => h9) rfl d_By_get_6 ?_
    refine lv_icmp_lt (tgt := 16) hx hb d_By_get_9 (by decide) (fun c_2 => ?_) (fun c_2 => ?_)
    · have hf := it_t c_2 hf
      refine lv_aload_n hx hb d_By_get_16 rfl (lv_at hl 0 rfl) ?_
      refine va_get (D := (dC, dI)) (ci := 0) (v := .ref byR) (C := RBytes) (T := TBytes) (N := 2) hx hb hts in_Bytes hown hK hP 0 rfl rfl 0 (by decide) (hts (.fieldLink "ZoneFiles$Bytes" 7 "ZoneFiles$Bytes" "row" "[B") m_1_37) (fun _ h9 => h9) rfl d_By_get_17 ?_
      refine lv_iload_n hx hb d_By_get_20 rfl (lv_at hl 1 rfl) ?_
      obtain ⟨c_3, hf⟩ := it_n hf
      refine va_bald hx hb hK hP 1 0 rfl rfl c_3 d_By_get_21 ?_
      refine lv_sipush (v := 255) hx hb d_By_get_22 (by decide) ?_
      refine lv_iand hx hb d_By_get_25 ?_
      exact k_By_get_26 C0 hST hK hP hE hf (lv_sub hl [] rfl)
    · have hf := it_f c_2 hf
      exact k_By_get_12 C0 hST hK hP hE hf (lv_sub hl [] rfl)
end
set_option maxHeartbeats 400000 in
set_option maxRecDepth 100000 in
theorem c_By_get (l : Launch) (dC : Nat → ClassId) (dI : Nat → Nat → Nat) (h0 : Nat) (byR : Nat) (cAbyR : ClassId) (nf : Nat) (p0 : Int32) (byS : Int32) (byN : Nat) (byA : Nat → Int32) {r0 : Int32} (hf : f_By_get nf p0 byS byN byA = some r0) : Met l y_By_get (wd y_By_get b_By_get 2 (some .int)) ({ frames := 0, cells := 0, slots := 0, locals := 0 }) (RO dC dI [(h0, .inr (0, [.ref byR, .int byS])), (byR, .inl (cAbyR, byN, .inl byA))] [(cAbyR, .byte)] [.ref h0, .int p0]) (SV (some (.int r0))) 0 0 (fun _ => False) :=
  met_S (plainFor_of_name (by decide)) (Nat.le_of_ble_eq_true rfl) (fun p e R s m args below meth c ls C0 hST hK hP hl => by
    obtain ⟨hx, hb, hr, hml, hown, hts, hlocks, hRf, hRl⟩ := id C0
    unfold f_By_get at hf
    exact k_By_get_0 C0 hST hK hP (fun pc ls hd hn => W.zret hx hb hr hn (fun t ht hW => ⟨rfl, ht⟩) (fun q h => by cases h) hd) hf (lv_sub hl [0, 1] rfl))
-- ZoneFiles$Bytes.signedAt(II)J
def f_By_signedAt_48 (nf : Nat) (s0 : Int64) : Option (Int64) :=
  some s0
def f_By_signedAt_5 (nf : Nat) (byS : Int32) (byN : Nat) (byA : Nat → Int32) : Nat → Int32 → Int64 → Int32 → Int32 → Option (Int64)
  | 0, _, _, _, _ => none
  | n + 1, x5, x3, x1, x2 =>
    if x2 ≤ x5 then
    if x2 = (4 : Int32) then
      f_By_signedAt_48 nf x3.toInt32.toInt64
      else
      f_By_signedAt_48 nf x3
    else
    (f_By_get nf (x1 + x5) byS byN byA).bind fun r_3 =>
      f_By_signedAt_5 nf byS byN byA n (x5 + 1) ((x3 <<< ((8 : Int32).toInt64 &&& 63)) ||| (r_3.toInt64 &&& 255)) x1 x2
def f_By_signedAt_0 (nf : Nat) (byS : Int32) (byN : Nat) (byA : Nat → Int32) (x1 : Int32) (x2 : Int32) : Option (Int64) :=
  f_By_signedAt_5 nf byS byN byA nf 0 0 x1 x2
def f_By_signedAt (nf : Nat) (p0 : Int32) (p1 : Int32) (byS : Int32) (byN : Nat) (byA : Nat → Int32) : Option (Int64) :=
  f_By_signedAt_0 nf byS byN byA p0 p1
section
variable {p : Program} {l : Launch} {e : Env} {R : Room} {s : State} {m : MethodId} {args : Array Value} {below : List Frame} {meth : Method} {c : Code} {Q : State → Prop} {dC : Nat → ClassId} {dI : Nat → Nat → Nat} {nf : Nat}
variable {h0 : Nat} {byR : Nat} {cAbyR : ClassId} {byS : Int32} {byN : Nat} {byA : Nat → Int32} {r0 : Int64}
set_option maxHeartbeats 400000 in
set_option maxRecDepth 100000 in
theorem k_By_signedAt_48 (C0 : Cx p s m meth c args R b_By_signedAt "ZoneFiles$Bytes" 6 (some .long) 1 21) (hST : ST (fun _ => False) s s.heap) (hK : va_K (dC, dI) classes [(cAbyR, .byte)] s) (hP : va_P (dC, dI) classes [(h0, .inr (0, [.ref byR, .int byS])), (byR, .inl (cAbyR, byN, .inl byA))] s.heap) (hE : ∀ (pc : Nat) (ls : Array Slot), decode b_By_signedAt pc = .ok (.lreturn, 1) → W p l e R s m args below meth c s.heap [] 0 0 Q (F0 m pc ls [.long r0])) {s0 : Int64} (hf : f_By_signedAt_48 nf s0 = some r0) {ls : Array Slot} (hl : lv_has ls 6 []) : W p l e R s m args below meth c s.heap [] 0 0 Q (F0 m 48 ls [.long s0]) := by
  obtain ⟨hx, hb, hr, hml, hown, hts, hlocks, hRf, hRl⟩ := id C0
  obtain ⟨tms, hZms, hTms, tmg, hZmg, hTmg, hNW⟩ := id hST
  unfold f_By_signedAt_48 at hf
  have e := rs hf
  subst e
  exact hE _ _ d_By_signedAt_48
set_option maxHeartbeats 400000 in
set_option maxRecDepth 100000 in
theorem k_By_signedAt_5 (C0 : Cx p s m meth c args R b_By_signedAt "ZoneFiles$Bytes" 6 (some .long) 1 21) (hST : ST (fun _ => False) s s.heap) (hK : va_K (dC, dI) classes [(cAbyR, .byte)] s) (hP : va_P (dC, dI) classes [(h0, .inr (0, [.ref byR, .int byS])), (byR, .inl (cAbyR, byN, .inl byA))] s.heap) (hE : ∀ (pc : Nat) (ls : Array Slot), decode b_By_signedAt pc = .ok (.lreturn, 1) → W p l e R s m args below meth c s.heap [] 0 0 Q (F0 m pc ls [.long r0])) : ∀ (n : Nat) {x5 : Int32} {x3 : Int64} {x1 : Int32} {x2 : Int32}, f_By_signedAt_5 nf byS byN byA n x5 x3 x1 x2 = some r0 → ∀ {ls : Array Slot}, lv_has ls 6 [(5, .int x5), (3, .long x3), (0, .ref h0), (1, .int x1), (2, .int x2)] → W p l e R s m args below meth c s.heap [] 0 0 Q (F0 m 5 ls []) := by
  obtain ⟨hx, hb, hr, hml, hown, hts, hlocks, hRf, hRl⟩ := id C0
  obtain ⟨tms, hZms, hTms, tmg, hZmg, hTmg, hNW⟩ := id hST
  intro n
  induction n with
  | zero =>
    intro x5 x3 x1 x2 hf
    exact absurd hf (by simp [f_By_signedAt_5])
  | succ n ih =>
    intro x5 x3 x1 x2 hf ls hl
    unfold f_By_signedAt_5 at hf
    refine lv_iload hx hb d_By_signedAt_5 (lv_at hl 0 rfl) ?_
    refine lv_iload_n hx hb d_By_signedAt_7 rfl (lv_at hl 4 rfl) ?_
    refine lv_icmp_ge (tgt := 36) hx hb d_By_signedAt_8 (by decide) (fun c_1 => ?_) (fun c_1 => ?_)
    · have hf := it_t c_1 hf
      refine lv_iload_n hx hb d_By_signedAt_36 rfl (lv_at hl 4 rfl) ?_
      refine lv_iconst (v := 4) hx hb d_By_signedAt_37 (by decide) ?_
      refine lv_icmp_ne (tgt := 47) hx hb d_By_signedAt_38 (by decide) (fun c_2 => ?_) (fun c_2 => ?_)
      · have hf := it_f c_2 hf
        refine lv_lload_n hx hb d_By_signedAt_47 rfl (lv_at hl 1 rfl) ?_
        exact k_By_signedAt_48 C0 hST hK hP hE hf (lv_sub hl [] rfl)
      · have hf := it_t c_2 hf
        refine lv_lload_n hx hb d_By_signedAt_41 rfl (lv_at hl 1 rfl) ?_
        refine lv_l2i hx hb d_By_signedAt_42 rfl ?_
        refine lv_i2l hx hb d_By_signedAt_43 rfl ?_
        refine lv_goto (tgt := 48) hx hb d_By_signedAt_44 (by decide) ?_
        exact k_By_signedAt_48 C0 hST hK hP hE hf (lv_sub hl [] rfl)
    · have hf := it_f c_1 hf
      refine lv_lload_n hx hb d_By_signedAt_11 rfl (lv_at hl 1 rfl) ?_
      refine lv_bipush (v := 8) hx hb d_By_signedAt_12 (by decide) ?_
      refine lv_lshl hx hb d_By_signedAt_14 rfl ?_
      refine lv_aload_n hx hb d_By_signedAt_15 rfl (lv_at hl 2 rfl) ?_
      refine lv_iload_n hx hb d_By_signedAt_16 rfl (lv_at hl 3 rfl) ?_
      refine lv_iload hx hb d_By_signedAt_17 (lv_at hl 0 rfl) ?_
      refine lv_iadd hx hb d_By_signedAt_19 ?_
      obtain ⟨r_3, hc, hf⟩ := ob hf
      refine cl_S (v := (some (.int r_3))) (st1 := [.int r_3, .long (x3 <<< ((8 : Int32).toInt64 &&& 63))]) (va_runV (As := [.int (x1 + x5)]) (rest := [.long (x3 <<< ((8 : Int32).toInt64 &&& 63))]) ⟨hx, hb, hml, hown, hts⟩ (c_By_get l dC dI h0 byR cAbyR nf (x1 + x5) byS byN byA hc) (cwV 1 hts (gdV m_3_11 m_2_71 m_2_72 m_1_2 m_2_73) rfl rfl rfl (by decide +kernel) ⟨Nat.le_trans (Nat.le_of_ble_eq_true rfl) hRf, Nat.le_trans (Nat.le_of_ble_eq_true rfl) hRl⟩) ((RO.pre (hP.sub (ws' := [(h0, .inr (0, [.ref byR, .int byS])), (byR, .inl (cAbyR, byN, .inl byA))]) [0, 1] rfl) (hK.sub (tys' := [(cAbyR, .byte)]) [0] rfl) hST).vir (va_recv (hK.sub (tys' := [(cAbyR, .byte)]) [0] rfl) (hP.sub (ws' := [(h0, .inr (0, [.ref byR, .int byS])), (byR, .inl (cAbyR, byN, .inl byA))]) [0, 1] rfl) (ci := 0) (q0 := 0) rfl rfl)) rfl rfl hl.1 rfl (lv_room (Nat.le_of_ble_eq_true rfl)) d_By_signedAt_20 ⟨Nat.zero_le _, Nat.zero_le _⟩) rfl ?_
      refine lv_i2l hx hb d_By_signedAt_23 rfl ?_
      refine lv_ldc2 (v := 255) hx hb hown (hts (.constantLong "ZoneFiles$Bytes" 37 255) m_3_211) d_By_signedAt_24 ?_
      refine lv_land hx hb d_By_signedAt_27 ?_
      refine lv_lor hx hb d_By_signedAt_28 ?_
      refine lv_lstore_n (lv' := [(3, .long ((x3 <<< ((8 : Int32).toInt64 &&& 63)) ||| (r_3.toInt64 &&& 255))), (5, .int x5), (0, .ref h0), (1, .int x1), (2, .int x2)]) hx hb d_By_signedAt_29 rfl hl (by decide) rfl (fun ls hl => ?_)
      refine lv_iinc (v := x5 + 1) (lv' := [(5, .int (x5 + 1)), (3, .long ((x3 <<< ((8 : Int32).toInt64 &&& 63)) ||| (r_3.toInt64 &&& 255))), (0, .ref h0), (1, .int x1), (2, .int x2)]) hx hb d_By_signedAt_30 hl (k := 1) rfl rfl (by decide) rfl (fun ls hl => ?_)
      refine lv_goto (tgt := 5) hx hb d_By_signedAt_33 (by decide) ?_
      exact ih hf (lv_sub hl [0, 1, 2, 3, 4] rfl)
set_option maxHeartbeats 400000 in
set_option maxRecDepth 100000 in
theorem k_By_signedAt_0 (C0 : Cx p s m meth c args R b_By_signedAt "ZoneFiles$Bytes" 6 (some .long) 1 21) (hST : ST (fun _ => False) s s.heap) (hK : va_K (dC, dI) classes [(cAbyR, .byte)] s) (hP : va_P (dC, dI) classes [(h0, .inr (0, [.ref byR, .int byS])), (byR, .inl (cAbyR, byN, .inl byA))] s.heap) (hE : ∀ (pc : Nat) (ls : Array Slot), decode b_By_signedAt pc = .ok (.lreturn, 1) → W p l e R s m args below meth c s.heap [] 0 0 Q (F0 m pc ls [.long r0])) {x1 : Int32} {x2 : Int32} (hf : f_By_signedAt_0 nf byS byN byA x1 x2 = some r0) {ls : Array Slot} (hl : lv_has ls 6 [(0, .ref h0), (1, .int x1), (2, .int x2)]) : W p l e R s m args below meth c s.heap [] 0 0 Q (F0 m 0 ls []) := by
  obtain ⟨hx, hb, hr, hml, hown, hts, hlocks, hRf, hRl⟩ := id C0
  obtain ⟨tms, hZms, hTms, tmg, hZmg, hTmg, hNW⟩ := id hST
  unfold f_By_signedAt_0 at hf
  refine lv_lconst (v := 0) hx hb d_By_signedAt_0 (by decide) ?_
  refine lv_lstore_n (lv' := [(3, .long 0), (0, .ref h0), (1, .int x1), (2, .int x2)]) hx hb d_By_signedAt_1 rfl hl (by decide) rfl (fun ls hl => ?_)
  refine lv_iconst (v := 0) hx hb d_By_signedAt_2 (by decide) ?_
  refine lv_istore (lv' := [(5, .int 0), (3, .long 0), (0, .ref h0), (1, .int x1), (2, .int x2)]) hx hb d_By_signedAt_3 hl (by decide) rfl (fun ls hl => ?_)
  exact k_By_signedAt_5 C0 hST hK hP hE nf hf (lv_sub hl [0, 1, 2, 3, 4] rfl)
end
set_option maxHeartbeats 400000 in
set_option maxRecDepth 100000 in
theorem c_By_signedAt (l : Launch) (dC : Nat → ClassId) (dI : Nat → Nat → Nat) (h0 : Nat) (byR : Nat) (cAbyR : ClassId) (nf : Nat) (p0 : Int32) (p1 : Int32) (byS : Int32) (byN : Nat) (byA : Nat → Int32) {r0 : Int64} (hf : f_By_signedAt nf p0 p1 byS byN byA = some r0) : Met l y_By_signedAt (wd y_By_signedAt b_By_signedAt 6 (some .long)) ({ frames := 1, cells := 0, slots := 0, locals := 21 }) (RO dC dI [(h0, .inr (0, [.ref byR, .int byS])), (byR, .inl (cAbyR, byN, .inl byA))] [(cAbyR, .byte)] [.ref h0, .int p0, .int p1]) (SV (some (.long r0))) 0 0 (fun _ => False) :=
  met_S (plainFor_of_name (by decide)) (Nat.le_of_ble_eq_true rfl) (fun p e R s m args below meth c ls C0 hST hK hP hl => by
    obtain ⟨hx, hb, hr, hml, hown, hts, hlocks, hRf, hRl⟩ := id C0
    unfold f_By_signedAt at hf
    exact k_By_signedAt_0 C0 hST hK hP (fun pc ls hd => W.lret hx hb hr (fun t ht hW => ⟨rfl, ht⟩) (fun q h => by cases h) hd) hf (lv_sub hl [0, 1, 2] rfl))
-- ZoneFiles$Bytes.unsignedAt(I)J
def f_By_unsignedAt_0 (nf : Nat) (byS : Int32) (byN : Nat) (byA : Nat → Int32) (x1 : Int32) : Option (Int64) :=
  (f_By_signedAt nf x1 4 byS byN byA).bind fun r_1 =>
  some (r_1 &&& 4294967295)
def f_By_unsignedAt (nf : Nat) (p0 : Int32) (byS : Int32) (byN : Nat) (byA : Nat → Int32) : Option (Int64) :=
  f_By_unsignedAt_0 nf byS byN byA p0
section
variable {p : Program} {l : Launch} {e : Env} {R : Room} {s : State} {m : MethodId} {args : Array Value} {below : List Frame} {meth : Method} {c : Code} {Q : State → Prop} {dC : Nat → ClassId} {dI : Nat → Nat → Nat} {nf : Nat}
variable {h0 : Nat} {byR : Nat} {cAbyR : ClassId} {byS : Int32} {byN : Nat} {byA : Nat → Int32} {r0 : Int64}
set_option maxHeartbeats 400000 in
set_option maxRecDepth 100000 in
theorem k_By_unsignedAt_0 (C0 : Cx p s m meth c args R b_By_unsignedAt "ZoneFiles$Bytes" 2 (some .long) 2 46) (hST : ST (fun _ => False) s s.heap) (hK : va_K (dC, dI) classes [(cAbyR, .byte)] s) (hP : va_P (dC, dI) classes [(h0, .inr (0, [.ref byR, .int byS])), (byR, .inl (cAbyR, byN, .inl byA))] s.heap) (hE : ∀ (pc : Nat) (ls : Array Slot), decode b_By_unsignedAt pc = .ok (.lreturn, 1) → W p l e R s m args below meth c s.heap [] 0 0 Q (F0 m pc ls [.long r0])) {x1 : Int32} (hf : f_By_unsignedAt_0 nf byS byN byA x1 = some r0) {ls : Array Slot} (hl : lv_has ls 2 [(0, .ref h0), (1, .int x1)]) : W p l e R s m args below meth c s.heap [] 0 0 Q (F0 m 0 ls []) := by
  obtain ⟨hx, hb, hr, hml, hown, hts, hlocks, hRf, hRl⟩ := id C0
  obtain ⟨tms, hZms, hTms, tmg, hZmg, hTmg, hNW⟩ := id hST
  unfold f_By_unsignedAt_0 at hf
  refine lv_aload_n hx hb d_By_unsignedAt_0 rfl (lv_at hl 0 rfl) ?_
  refine lv_iload_n hx hb d_By_unsignedAt_1 rfl (lv_at hl 1 rfl) ?_
  refine lv_iconst (v := 4) hx hb d_By_unsignedAt_2 (by decide) ?_
  obtain ⟨r_1, hc, hf⟩ := ob hf
  refine cl_S (v := (some (.long r_1))) (st1 := [.long r_1]) (va_runV (As := [.int x1, .int 4]) (rest := []) ⟨hx, hb, hml, hown, hts⟩ (c_By_signedAt l dC dI h0 byR cAbyR nf x1 4 byS byN byA hc) (cwV 2 hts (gdV m_3_207 m_3_208 m_3_209 m_1_2 m_3_210) rfl rfl rfl (by decide +kernel) ⟨Nat.le_trans (Nat.le_of_ble_eq_true rfl) hRf, Nat.le_trans (Nat.le_of_ble_eq_true rfl) hRl⟩) ((RO.pre (hP.sub (ws' := [(h0, .inr (0, [.ref byR, .int byS])), (byR, .inl (cAbyR, byN, .inl byA))]) [0, 1] rfl) (hK.sub (tys' := [(cAbyR, .byte)]) [0] rfl) hST).vir (va_recv (hK.sub (tys' := [(cAbyR, .byte)]) [0] rfl) (hP.sub (ws' := [(h0, .inr (0, [.ref byR, .int byS])), (byR, .inl (cAbyR, byN, .inl byA))]) [0, 1] rfl) (ci := 0) (q0 := 0) rfl rfl)) rfl rfl hl.1 rfl (lv_room (Nat.le_of_ble_eq_true rfl)) d_By_unsignedAt_3 ⟨Nat.zero_le _, Nat.zero_le _⟩) rfl ?_
  refine lv_ldc2 (v := 4294967295) hx hb hown (hts (.constantLong "ZoneFiles$Bytes" 35 4294967295) m_3_212) d_By_unsignedAt_6 ?_
  refine lv_land hx hb d_By_unsignedAt_9 ?_
  have e := rs hf
  subst e
  exact hE _ _ d_By_unsignedAt_10
end
set_option maxHeartbeats 400000 in
set_option maxRecDepth 100000 in
theorem c_By_unsignedAt (l : Launch) (dC : Nat → ClassId) (dI : Nat → Nat → Nat) (h0 : Nat) (byR : Nat) (cAbyR : ClassId) (nf : Nat) (p0 : Int32) (byS : Int32) (byN : Nat) (byA : Nat → Int32) {r0 : Int64} (hf : f_By_unsignedAt nf p0 byS byN byA = some r0) : Met l y_By_unsignedAt (wd y_By_unsignedAt b_By_unsignedAt 2 (some .long)) ({ frames := 2, cells := 0, slots := 0, locals := 46 }) (RO dC dI [(h0, .inr (0, [.ref byR, .int byS])), (byR, .inl (cAbyR, byN, .inl byA))] [(cAbyR, .byte)] [.ref h0, .int p0]) (SV (some (.long r0))) 0 0 (fun _ => False) :=
  met_S (plainFor_of_name (by decide)) (Nat.le_of_ble_eq_true rfl) (fun p e R s m args below meth c ls C0 hST hK hP hl => by
    obtain ⟨hx, hb, hr, hml, hown, hts, hlocks, hRf, hRl⟩ := id C0
    unfold f_By_unsignedAt at hf
    exact k_By_unsignedAt_0 C0 hST hK hP (fun pc ls hd => W.lret hx hb hr (fun t ht hW => ⟨rfl, ht⟩) (fun q h => by cases h) hd) hf (lv_sub hl [0, 1] rfl))
-- java/util/Arrays.copyOf([BI)[B
def f_Arrays_copyOf_0 (nf : Nat) (sN : Nat) (sA : Nat → Int32) (x1 : Int32) : Option ((Nat × (Nat → Int32)) × Nat × Nat) :=
  if x1 = (nI sN) then
  none
  else
  if x1 < 0 ∨ 1000000 < x1.toNatClampNeg then none else
    ad 1 x1.toNatClampNeg (if (0 : Int32) < 0 ∨ (0 : Int32) < 0 ∨ (if x1 < (nI sN) then x1 else (nI sN)) < 0 ∨ sN < (0 : Int32).toNatClampNeg + (if x1 < (nI sN) then x1 else (nI sN)).toNatClampNeg ∨ x1.toNatClampNeg < (0 : Int32).toNatClampNeg + (if x1 < (nI sN) then x1 else (nI sN)).toNatClampNeg then none else
    if ∀ i, i < (if x1 < (nI sN) then x1 else (nI sN)).toNatClampNeg → fits .byte (.int (sA ((0 : Int32).toNatClampNeg + i))) = true then some ((x1.toNatClampNeg, va_cpy sA (fun _ => 0) (0 : Int32).toNatClampNeg (0 : Int32).toNatClampNeg (if x1 < (nI sN) then x1 else (nI sN)).toNatClampNeg), 0, 0) else none)
def f_Arrays_copyOf (nf : Nat) (p1 : Int32) (sN : Nat) (sA : Nat → Int32) : Option ((Nat × (Nat → Int32)) × Nat × Nat) :=
  f_Arrays_copyOf_0 nf sN sA p1
section
variable {p : Program} {l : Launch} {e : Env} {R : Room} {s : State} {m : MethodId} {args : Array Value} {below : List Frame} {meth : Method} {c : Code} {Q : State → Prop} {dC : Nat → ClassId} {dI : Nat → Nat → Nat} {nf : Nat} {A : Nat → Prop}
variable {h0 : Nat} {cAh0 : ClassId} {sN : Nat} {sA : Nat → Int32} {v1_n : Nat} {v1_a : Nat → Int32}
set_option maxHeartbeats 400000 in
set_option maxRecDepth 100000 in
theorem k_Arrays_copyOf_0 (C0 : Cx p s m meth c args R b_Arrays_copyOf "java/util/Arrays" 3 (some (.array (.byte))) 1 19) (hST : ST A s s.heap) (hA : ∀ q, s.heap.size ≤ q → A q) (hE : ∀ (pc : Nat) (ls : Array Slot) {q1 : Nat} {nA1 : ClassId} (H : Heap) (locs : List Loc), decode b_Arrays_copyOf pc = .ok (.areturn, 1) → va_P (dC, dI) classes [(h0, .inl (cAh0, sN, .inl sA)), (q1, .inl (nA1, v1_n, .inl v1_a))] H → va_D A [(h0, .inl (cAh0, sN, .inl sA)), (q1, .inl (nA1, v1_n, .inl v1_a))] → va_S A s.heap H locs → va_K (dC, dI) classes [(cAh0, .byte), (nA1, .byte)] s → W p l e R s m args below meth c H locs R.cells R.slots Q (F0 m pc ls [.ref q1])) {x1 : Int32} {kc ks : Nat} (hf : f_Arrays_copyOf_0 nf sN sA x1 = some ((v1_n, v1_a), kc, ks)) {cells slots : Nat} {H : Heap} {locs : List Loc} {ls : Array Slot} (hK : va_K (dC, dI) classes [(cAh0, .byte)] s) (hP : va_P (dC, dI) classes [(h0, .inl (cAh0, sN, .inl sA))] H) (hD : va_D A [(h0, .inl (cAh0, sN, .inl sA))]) (hS : va_S A s.heap H locs) (hkc : cells + kc = R.cells) (hks : slots + ks = R.slots) (hl : lv_has ls 3 [(0, .ref h0), (1, .int x1)]) : W p l e R s m args below meth c H locs cells slots Q (F0 m 0 ls []) := by
  obtain ⟨hx, hb, hr, hml, hown, hts, hlocks, hRf, hRl⟩ := id C0
  obtain ⟨tms, hZms, hTms, tmg, hZmg, hTmg, hNW⟩ := id hST
  unfold f_Arrays_copyOf_0 at hf
  refine lv_iload_n hx hb d_Arrays_copyOf_0 rfl (lv_at hl 1 rfl) ?_
  refine lv_aload_n hx hb d_Arrays_copyOf_1 rfl (lv_at hl 0 rfl) ?_
  refine va_alen (v := nI sN) hx hb hK hP 0 0 rfl rfl rfl d_Arrays_copyOf_2 ?_
  refine lv_icmp_ne (tgt := 14) hx hb d_Arrays_copyOf_3 (by decide) (fun c_1 => ?_) (fun c_1 => ?_)
  · have hf := it_f c_1 hf
    refine lv_iload_n hx hb d_Arrays_copyOf_14 rfl (lv_at hl 1 rfl) ?_
    obtain ⟨c_4, hf⟩ := it_n hf
    obtain ⟨kc, ks, hf, ekc, eks⟩ := oa hf
    have hz1 := na_byte c_4
    have hz2 : ∀ cA : ClassId, vp_cell cA (x1.toNatClampNeg, .inl (fun _ => 0)) = arrV cA x1.toNatClampNeg (fun _ => defaultValue .byte) := fun cA => rfl
    have hz3 : ¬ x1 < 0 := fun z => c_4 (Or.inl z)
    refine va_newa (atype := .byte) (ty := .byte) (N' := x1.toNatClampNeg) (a0 := (x1.toNatClampNeg, .inl (fun _ => 0))) hx hb (hts (.arrayClass .byte) m_1_50) rfl hK hP hD hS hA hz2 hz3 rfl hz1 (cb hkc ekc) (cb hks eks) d_Arrays_copyOf_15 (fun qn_2 cn_3 H hK hP hD hS => ?_)
    have hP : va_P (dC, dI) classes [(h0, .inl (cAh0, sN, .inl sA)), (qn_2, .inl (cn_3, x1.toNatClampNeg, .inl (fun _ => 0)))] H := hP
    have hD : va_D A [(h0, .inl (cAh0, sN, .inl sA)), (qn_2, .inl (cn_3, x1.toNatClampNeg, .inl (fun _ => 0)))] := hD
    have hK : va_K (dC, dI) classes [(cAh0, .byte), (cn_3, .byte)] s := hK
    have hkc := ck hkc ekc
    have hks := ck hks eks
    generalize cells + 1 = cells at hkc ⊢
    generalize slots + x1.toNatClampNeg = slots at hks ⊢
    refine lv_astore_n (lv' := [(2, .ref qn_2), (0, .ref h0), (1, .int x1)]) hx hb d_Arrays_copyOf_17 rfl hl (by decide) rfl (fun ls hl => ?_)
    refine lv_aload_n hx hb d_Arrays_copyOf_18 rfl (lv_at hl 1 rfl) ?_
    refine lv_iconst (v := 0) hx hb d_Arrays_copyOf_19 (by decide) ?_
    refine lv_aload_n hx hb d_Arrays_copyOf_20 rfl (lv_at hl 0 rfl) ?_
    refine lv_iconst (v := 0) hx hb d_Arrays_copyOf_21 (by decide) ?_
    refine lv_aload_n hx hb d_Arrays_copyOf_22 rfl (lv_at hl 1 rfl) ?_
    refine va_alen (v := nI sN) hx hb hK hP 0 0 rfl rfl rfl d_Arrays_copyOf_23 ?_
    refine lv_iload_n hx hb d_Arrays_copyOf_24 rfl (lv_at hl 2 rfl) ?_
    refine va_mmin hx hb (by rw [hml]; exact hl.1.symm) hown (hts (.methodLink "java/util/Arrays" 304 ⟨"java/lang/Math", "min", "(II)I"⟩) m_2_51) (hts (.static ⟨"java/lang/Math", "min", "(II)I"⟩) m_2_52) (hts (.initialized "java/lang/Math") m_1_7) (hts (.code ⟨"java/lang/Math", "min", "(II)I"⟩ prog_20_method_69_code 2 (some .int)) m_2_53) (Nat.le_trans (Nat.le_of_ble_eq_true rfl) hRf) (Nat.le_trans (Nat.le_of_ble_eq_true rfl) hRl) (c0 hkc) (c0 hks) d_Arrays_copyOf_25 ?_
    obtain ⟨c_5, hf⟩ := it_n hf
    obtain ⟨c_6, hf⟩ := it_g hf
    refine va_copyi hx hb (by rw [hml]; exact hl.1.symm) hown (hts (.methodLink "java/util/Arrays" 150 arraycopyName) m_2_54) (hts (.native arraycopyName) m_2_56) (hts (.static arraycopyName) m_2_55) (hts (.initialized "java/lang/System") m_1_8) hK hP hD hS 0 1 0 1 rfl rfl rfl rfl rfl (fun z => c_5 (Or.inl z)) (fun z => c_5 (Or.inr (Or.inl z))) (fun z => c_5 (Or.inr (Or.inr (Or.inl z)))) (Nat.le_of_not_lt (fun z => c_5 (Or.inr (Or.inr (Or.inr (Or.inl z)))))) (Nat.le_of_not_lt (fun z => c_5 (Or.inr (Or.inr (Or.inr (Or.inr z)))))) c_6 (Nat.le_trans (Nat.le_of_ble_eq_true rfl) hRf) (Nat.le_trans (Nat.le_of_ble_eq_true rfl) hRl) d_Arrays_copyOf_28 (fun H locs hP hD hS => ?_)
    have hP : va_P (dC, dI) classes [(h0, .inl (cAh0, sN, .inl sA)), (qn_2, .inl (cn_3, x1.toNatClampNeg, .inl (va_cpy sA (fun _ => 0) (0 : Int32).toNatClampNeg (0 : Int32).toNatClampNeg (if x1 < (nI sN) then x1 else (nI sN)).toNatClampNeg)))] H := hP
    have hD : va_D A [(h0, .inl (cAh0, sN, .inl sA)), (qn_2, .inl (cn_3, x1.toNatClampNeg, .inl (va_cpy sA (fun _ => 0) (0 : Int32).toNatClampNeg (0 : Int32).toNatClampNeg (if x1 < (nI sN) then x1 else (nI sN)).toNatClampNeg)))] := hD
    refine lv_aload_n hx hb d_Arrays_copyOf_31 rfl (lv_at hl 0 rfl) ?_
    cases rs hf
    have hkc : cells = R.cells := hkc
    have hks : slots = R.slots := hks
    subst hkc; subst hks
    exact hE _ _ _ _ d_Arrays_copyOf_32 hP hD hS hK
  · have hf := it_t c_1 hf
    refine lv_aload_n hx hb d_Arrays_copyOf_6 rfl (lv_at hl 0 rfl) ?_
    exact absurd hf (by simp)
end
set_option maxHeartbeats 400000 in
set_option maxRecDepth 100000 in
theorem c_Arrays_copyOf (l : Launch) (dC : Nat → ClassId) (dI : Nat → Nat → Nat) (h0 : Nat) (cAh0 : ClassId) (sz : Nat) (nf : Nat) (p1 : Int32) (sN : Nat) (sA : Nat → Int32) {v1_n : Nat} {v1_a : Nat → Int32} {kc ks : Nat} (hf : f_Arrays_copyOf nf p1 sN sA = some ((v1_n, v1_a), kc, ks)) : Met l y_Arrays_copyOf (wd y_Arrays_copyOf b_Arrays_copyOf 3 (some (.array (.byte)))) ({ frames := 1, cells := kc, slots := ks, locals := 19 }) (MU dC dI [(h0, .inl (cAh0, sN, .inl sA))] [(cAh0, .byte)] sz [.ref h0, .int p1]) (MR (fun q1 t => ∃ (nA1 : ClassId), va_P (dC, dI) classes [(h0, .inl (cAh0, sN, .inl sA)), (q1, .inl (nA1, v1_n, .inl v1_a))] t.heap ∧ va_K (dC, dI) classes [(cAh0, .byte), (nA1, .byte)] t ∧ va_D (va_A [(h0, .inl (cAh0, sN, .inl sA))] sz) [(h0, .inl (cAh0, sN, .inl sA)), (q1, .inl (nA1, v1_n, .inl v1_a))]) (va_A [(h0, .inl (cAh0, sN, .inl sA))] sz)) kc ks (va_A [(h0, .inl (cAh0, sN, .inl sA))] sz) :=
  met_M (by decide +kernel) (Nat.le_of_ble_eq_true rfl) (fun p e R s m args below meth c ls hRc hRs hsz hin C0 hST hK hP hD hl => by
    obtain ⟨hx, hb, hr, hml, hown, hts, hlocks, hRf, hRl⟩ := id C0
    subst hRc; subst hRs
    subst hsz
    have hA : ∀ q : Nat, s.heap.size ≤ q → va_A [(h0, .inl (cAh0, sN, .inl sA))] s.heap.size q := fun q h => Or.inr h
    have hS : va_S (va_A [(h0, .inl (cAh0, sN, .inl sA))] s.heap.size) s.heap s.heap [] := va_S.rf
    have hkc := Nat.zero_add R.cells
    have hks := Nat.zero_add R.slots
    unfold f_Arrays_copyOf at hf
    exact k_Arrays_copyOf_0 C0 hST hA (fun pc ls {q1} {nA1} H locs hd hP hD hS hK => W.aret hx hb hr (Or.inr ⟨_, rfl⟩) (Or.inr ⟨_, rfl⟩) (fun t ht hW => ⟨⟨q1, rfl, ⟨nA1, by rw [ht]; exact hP, va_K.moved hW.alike hK, hD⟩⟩, hS.F ht⟩) hS.2.2 hd) hf hK hP hD hS hkc hks (lv_sub hl [0, 1] rfl))
-- ZoneFiles$Bytes.clear()V
def f_By_clear_0 (nf : Nat) (w0_1 : Int32) : Option (Int32) :=
  some 0
def f_By_clear (nf : Nat) (byS : Int32) : Option (Int32) :=
  f_By_clear_0 nf byS
section
variable {p : Program} {l : Launch} {e : Env} {R : Room} {s : State} {m : MethodId} {args : Array Value} {below : List Frame} {meth : Method} {c : Code} {Q : State → Prop} {dC : Nat → ClassId} {dI : Nat → Nat → Nat} {nf : Nat} {A : Nat → Prop}
variable {h0 : Nat} {byR : Nat} {byS : Int32} {v0_1 : Int32}
set_option maxHeartbeats 400000 in
set_option maxRecDepth 100000 in
theorem k_By_clear_0 (C0 : Cx p s m meth c args R b_By_clear "ZoneFiles$Bytes" 1 none 0 0) (hST : ST A s s.heap) (hA : ∀ q, s.heap.size ≤ q → A q) (hE : ∀ (pc : Nat) (ls : Array Slot) (H : Heap) (locs : List Loc), decode b_By_clear pc = .ok (.return_, 1) → va_P (dC, dI) classes [(h0, .inr (0, [.ref byR, .int v0_1]))] H → va_D A [(h0, .inr (0, [.ref byR, .int v0_1]))] → va_S A s.heap H locs → va_K (dC, dI) classes [] s → W p l e R s m args below meth c H locs 0 0 Q (F0 m pc ls [])) {w0_1 : Int32} (hf : f_By_clear_0 nf w0_1 = some v0_1) {H : Heap} {locs : List Loc} {ls : Array Slot} (hK : va_K (dC, dI) classes [] s) (hP : va_P (dC, dI) classes [(h0, .inr (0, [.ref byR, .int w0_1]))] H) (hD : va_D A [(h0, .inr (0, [.ref byR, .int w0_1]))]) (hS : va_S A s.heap H locs) (hl : lv_has ls 1 [(0, .ref h0)]) : W p l e R s m args below meth c H locs 0 0 Q (F0 m 0 ls []) := by
  obtain ⟨hx, hb, hr, hml, hown, hts, hlocks, hRf, hRl⟩ := id C0
  obtain ⟨tms, hZms, hTms, tmg, hZmg, hTmg, hNW⟩ := id hST
  unfold f_By_clear_0 at hf
  refine lv_aload_n hx hb d_By_clear_0 rfl (lv_at hl 0 rfl) ?_
  refine lv_iconst (v := 0) hx hb d_By_clear_1 (by decide) ?_
  refine va_put (D := (dC, dI)) (ci := 0) (v := .int 0) (ty := .int) (C := RBytes) (T := TBytes) (N := 2) hx hb hts in_Bytes tyBytes ty_Bytes nm_Bytes hown hK hP hD hS 0 rfl rfl 1 (by decide) (hts (.fieldLink "ZoneFiles$Bytes" 13 "ZoneFiles$Bytes" "size" "I") m_1_38) (fun _ h9 => h9) rfl (by decide +kernel) rfl rfl (Nat.le_of_ble_eq_true rfl) d_By_clear_2 (fun H locs hP hD hS => ?_)
  have hP : va_P (dC, dI) classes [(h0, .inr (0, [.ref byR, .int 0]))] H := hP
  have hD : va_D A [(h0, .inr (0, [.ref byR, .int 0]))] := hD
  cases rs hf
  exact hE _ _ _ _ d_By_clear_5 hP hD hS hK
end
set_option maxHeartbeats 400000 in
set_option maxRecDepth 100000 in
theorem c_By_clear (l : Launch) (dC : Nat → ClassId) (dI : Nat → Nat → Nat) (h0 : Nat) (byR : Nat) (sz : Nat) (nf : Nat) (byS : Int32) {v0_1 : Int32} (hf : f_By_clear nf byS = some v0_1) : Met l y_By_clear (wd y_By_clear b_By_clear 1 none) ({ frames := 0, cells := 0, slots := 0, locals := 0 }) (MU dC dI [(h0, .inr (0, [.ref byR, .int byS]))] [] sz [.ref h0]) (MV none (fun t => va_P (dC, dI) classes [(h0, .inr (0, [.ref byR, .int v0_1]))] t.heap ∧ va_K (dC, dI) classes [] t ∧ va_D (va_A [(h0, .inr (0, [.ref byR, .int byS]))] sz) [(h0, .inr (0, [.ref byR, .int v0_1]))]) (va_A [(h0, .inr (0, [.ref byR, .int byS]))] sz)) 0 0 (va_A [(h0, .inr (0, [.ref byR, .int byS]))] sz) :=
  met_M (plainFor_of_name (by decide)) (Nat.le_of_ble_eq_true rfl) (fun p e R s m args below meth c ls hRc hRs hsz hin C0 hST hK hP hD hl => by
    obtain ⟨hx, hb, hr, hml, hown, hts, hlocks, hRf, hRl⟩ := id C0
    subst hsz
    have hA : ∀ q : Nat, s.heap.size ≤ q → va_A [(h0, .inr (0, [.ref byR, .int byS]))] s.heap.size q := fun q h => Or.inr h
    have hS : va_S (va_A [(h0, .inr (0, [.ref byR, .int byS]))] s.heap.size) s.heap s.heap [] := va_S.rf
    unfold f_By_clear at hf
    exact k_By_clear_0 C0 hST hA (fun pc ls H locs hd hP hD hS hK => W.vret hx hb hr (fun t ht hW => ⟨⟨rfl, ⟨by rw [ht]; exact hP, va_K.moved hW.alike hK, hD⟩⟩, hS.F ht⟩) hS.2.2 hd) hf hK hP hD hS (lv_sub hl [0] rfl))
-- ZoneFiles$Bytes.put(I)V
def f_By_put_30 (nf : Nat) (x1 : Int32) (w0_1 : Int32) (w1_n : Nat) (w1_a : Nat → Int32) : Option ((Int32 × Nat × (Nat → Int32)) × Nat × Nat) :=
  if w0_1 < 0 ∨ w1_n ≤ w0_1.toNatClampNeg then none else
  some ((w0_1 + 1, w1_n, upd w1_a w0_1.toNatClampNeg (vp_nar .byte x1.toInt8.toInt32)), 0, 0)
def f_By_put_0 (nf : Nat) (x1 : Int32) (w0_1 : Int32) (w1_n : Nat) (w1_a : Nat → Int32) : Option ((Int32 × Nat × (Nat → Int32)) × Nat × Nat) :=
  if w0_1 < (nI w1_n) then
  f_By_put_30 nf x1 w0_1 w1_n w1_a
  else
  (f_Arrays_copyOf nf (2 * (nI w1_n)) w1_n w1_a).bind fun ((z_3, z_4), kc_7, ks_8) =>
    ad kc_7 ks_8 (f_By_put_30 nf x1 w0_1 z_3 z_4)
def f_By_put (nf : Nat) (p0 : Int32) (byS : Int32) (byN : Nat) (byA : Nat → Int32) : Option ((Int32 × Nat × (Nat → Int32)) × Nat × Nat) :=
  f_By_put_0 nf p0 byS byN byA
section
variable {p : Program} {l : Launch} {e : Env} {R : Room} {s : State} {m : MethodId} {args : Array Value} {below : List Frame} {meth : Method} {c : Code} {Q : State → Prop} {dC : Nat → ClassId} {dI : Nat → Nat → Nat} {nf : Nat} {A : Nat → Prop}
variable {h0 : Nat} {byR : Nat} {cAbyR : ClassId} {byS : Int32} {byN : Nat} {byA : Nat → Int32} {v0_1 : Int32} {v1_n : Nat} {v1_a : Nat → Int32}
set_option maxHeartbeats 400000 in
set_option maxRecDepth 100000 in
theorem k_By_put_30 (C0 : Cx p s m meth c args R b_By_put "ZoneFiles$Bytes" 2 none 2 41) (hST : ST A s s.heap) (hA : ∀ q, s.heap.size ≤ q → A q) (hE : ∀ (pc : Nat) (ls : Array Slot) {q1 : Nat} {nA1 : ClassId} (H : Heap) (locs : List Loc), decode b_By_put pc = .ok (.return_, 1) → va_P (dC, dI) classes [(h0, .inr (0, [.ref q1, .int v0_1])), (q1, .inl (nA1, v1_n, .inl v1_a))] H → va_D A [(h0, .inr (0, [.ref q1, .int v0_1])), (q1, .inl (nA1, v1_n, .inl v1_a))] → va_S A s.heap H locs → va_K (dC, dI) classes [(nA1, .byte)] s → W p l e R s m args below meth c H locs R.cells R.slots Q (F0 m pc ls [])) {x1 : Int32} {w0_1 : Int32} {w1_n : Nat} {w1_a : Nat → Int32} {kc ks : Nat} (hf : f_By_put_30 nf x1 w0_1 w1_n w1_a = some ((v0_1, v1_n, v1_a), kc, ks)) {q1 : Nat} {nA1 : ClassId} {cells slots : Nat} {H : Heap} {locs : List Loc} {ls : Array Slot} (hK : va_K (dC, dI) classes [(nA1, .byte)] s) (hP : va_P (dC, dI) classes [(h0, .inr (0, [.ref q1, .int w0_1])), (q1, .inl (nA1, w1_n, .inl w1_a))] H) (hD : va_D A [(h0, .inr (0, [.ref q1, .int w0_1])), (q1, .inl (nA1, w1_n, .inl w1_a))]) (hS : va_S A s.heap H locs) (hkc : cells + kc = R.cells) (hks : slots + ks = R.slots) (hl : lv_has ls 2 [(0, .ref h0), (1, .int x1)]) : W p l e R s m args below meth c H locs cells slots Q (F0 m 30 ls []) := by
  obtain ⟨hx, hb, hr, hml, hown, hts, hlocks, hRf, hRl⟩ := id C0
  obtain ⟨tms, hZms, hTms, tmg, hZmg, hTmg, hNW⟩ := id hST
  unfold f_By_put_30 at hf
  refine lv_aload_n hx hb d_By_put_30 rfl (lv_at hl 0 rfl) ?_
  refine va_get (D := (dC, dI)) (ci := 0) (v := .ref q1) (C := RBytes) (T := TBytes) (N := 2) hx hb hts in_Bytes hown hK hP 0 rfl rfl 0 (by decide) (hts (.fieldLink "ZoneFiles$Bytes" 7 "ZoneFiles$Bytes" "row" "[B") m_1_37) (fun _ h9 => h9) rfl d_By_put_31 ?_
  refine lv_aload_n hx hb d_By_put_34 rfl (lv_at hl 0 rfl) ?_
  refine va_get (D := (dC, dI)) (ci := 0) (v := .int w0_1) (C := RBytes) (T := TBytes) (N := 2) hx hb hts in_Bytes hown hK hP 0 rfl rfl 1 (by decide) (hts (.fieldLink "ZoneFiles$Bytes" 13 "ZoneFiles$Bytes" "size" "I") m_1_38) (fun _ h9 => h9) rfl d_By_put_35 ?_
  refine lv_iload_n hx hb d_By_put_38 rfl (lv_at hl 1 rfl) ?_
  refine lv_i2b hx hb d_By_put_39 rfl ?_
  obtain ⟨c_2, hf⟩ := it_n hf
  refine va_bast hx hb hK hP hD hS 1 0 rfl rfl c_2 d_By_put_40 (fun H locs hP hD hS => ?_)
  have hP : va_P (dC, dI) classes [(h0, .inr (0, [.ref q1, .int w0_1])), (q1, .inl (nA1, w1_n, .inl (upd w1_a w0_1.toNatClampNeg (vp_nar .byte x1.toInt8.toInt32))))] H := hP
  have hD : va_D A [(h0, .inr (0, [.ref q1, .int w0_1])), (q1, .inl (nA1, w1_n, .inl (upd w1_a w0_1.toNatClampNeg (vp_nar .byte x1.toInt8.toInt32))))] := hD
  refine lv_aload_n hx hb d_By_put_41 rfl (lv_at hl 0 rfl) ?_
  refine lv_dup hx hb d_By_put_42 rfl ?_
  refine va_get (D := (dC, dI)) (ci := 0) (v := .int w0_1) (C := RBytes) (T := TBytes) (N := 2) hx hb hts in_Bytes hown hK hP 0 rfl rfl 1 (by decide) (hts (.fieldLink "ZoneFiles$Bytes" 13 "ZoneFiles$Bytes" "size" "I") m_1_38) (fun _ h9 => h9) rfl d_By_put_43 ?_
  refine lv_iconst (v := 1) hx hb d_By_put_46 (by decide) ?_
  refine lv_iadd hx hb d_By_put_47 ?_
  refine va_put (D := (dC, dI)) (ci := 0) (v := .int (w0_1 + 1)) (ty := .int) (C := RBytes) (T := TBytes) (N := 2) hx hb hts in_Bytes tyBytes ty_Bytes nm_Bytes hown hK hP hD hS 0 rfl rfl 1 (by decide) (hts (.fieldLink "ZoneFiles$Bytes" 13 "ZoneFiles$Bytes" "size" "I") m_1_38) (fun _ h9 => h9) rfl (by decide +kernel) rfl rfl (Nat.le_of_ble_eq_true rfl) d_By_put_48 (fun H locs hP hD hS => ?_)
  have hP : va_P (dC, dI) classes [(h0, .inr (0, [.ref q1, .int (w0_1 + 1)])), (q1, .inl (nA1, w1_n, .inl (upd w1_a w0_1.toNatClampNeg (vp_nar .byte x1.toInt8.toInt32))))] H := hP
  have hD : va_D A [(h0, .inr (0, [.ref q1, .int (w0_1 + 1)])), (q1, .inl (nA1, w1_n, .inl (upd w1_a w0_1.toNatClampNeg (vp_nar .byte x1.toInt8.toInt32))))] := hD
  cases rs hf
  have hkc : cells = R.cells := hkc
  have hks : slots = R.slots := hks
  subst hkc; subst hks
  exact hE _ _ _ _ d_By_put_51 hP hD hS hK
set_option maxHeartbeats 400000 in
set_option maxRecDepth 100000 in
theorem k_By_put_0 (C0 : Cx p s m meth c args R b_By_put "ZoneFiles$Bytes" 2 none 2 41) (hST : ST A s s.heap) (hA : ∀ q, s.heap.size ≤ q → A q) (hE : ∀ (pc : Nat) (ls : Array Slot) {q1 : Nat} {nA1 : ClassId} (H : Heap) (locs : List Loc), decode b_By_put pc = .ok (.return_, 1) → va_P (dC, dI) classes [(h0, .inr (0, [.ref q1, .int v0_1])), (q1, .inl (nA1, v1_n, .inl v1_a))] H → va_D A [(h0, .inr (0, [.ref q1, .int v0_1])), (q1, .inl (nA1, v1_n, .inl v1_a))] → va_S A s.heap H locs → va_K (dC, dI) classes [(nA1, .byte)] s → W p l e R s m args below meth c H locs R.cells R.slots Q (F0 m pc ls [])) {x1 : Int32} {w0_1 : Int32} {w1_n : Nat} {w1_a : Nat → Int32} {kc ks : Nat} (hf : f_By_put_0 nf x1 w0_1 w1_n w1_a = some ((v0_1, v1_n, v1_a), kc, ks)) {q1 : Nat} {nA1 : ClassId} {cells slots : Nat} {H : Heap} {locs : List Loc} {ls : Array Slot} (hK : va_K (dC, dI) classes [(nA1, .byte)] s) (hP : va_P (dC, dI) classes [(h0, .inr (0, [.ref q1, .int w0_1])), (q1, .inl (nA1, w1_n, .inl w1_a))] H) (hD : va_D A [(h0, .inr (0, [.ref q1, .int w0_1])), (q1, .inl (nA1, w1_n, .inl w1_a))]) (hS : va_S A s.heap H locs) (hkc : cells + kc = R.cells) (hks : slots + ks = R.slots) (hl : lv_has ls 2 [(0, .ref h0), (1, .int x1)]) : W p l e R s m args below meth c H locs cells slots Q (F0 m 0 ls []) := by
  obtain ⟨hx, hb, hr, hml, hown, hts, hlocks, hRf, hRl⟩ := id C0
  obtain ⟨tms, hZms, hTms, tmg, hZmg, hTmg, hNW⟩ := id hST
  unfold f_By_put_0 at hf
  refine lv_aload_n hx hb d_By_put_0 rfl (lv_at hl 0 rfl) ?_
  refine va_get (D := (dC, dI)) (ci := 0) (v := .int w0_1) (C := RBytes) (T := TBytes) (N := 2) hx hb hts in_Bytes hown hK hP 0 rfl rfl 1 (by decide) (hts (.fieldLink "ZoneFiles$Bytes" 13 "ZoneFiles$Bytes" "size" "I") m_1_38) (fun _ h9 => h9) rfl d_By_put_1 ?_
  refine lv_aload_n hx hb d_By_put_4 rfl (lv_at hl 0 rfl) ?_
  refine va_get (D := (dC, dI)) (ci := 0) (v := .ref q1) (C := RBytes) (T := TBytes) (N := 2) hx hb hts in_Bytes hown hK hP 0 rfl rfl 0 (by decide) (hts (.fieldLink "ZoneFiles$Bytes" 7 "ZoneFiles$Bytes" "row" "[B") m_1_37) (fun _ h9 => h9) rfl d_By_put_5 ?_
  refine va_alen (v := nI w1_n) hx hb hK hP 1 0 rfl rfl rfl d_By_put_8 ?_
  refine lv_icmp_lt (tgt := 30) hx hb d_By_put_9 (by decide) (fun c_1 => ?_) (fun c_1 => ?_)
  · have hf := it_t c_1 hf
    exact k_By_put_30 C0 hST hA hE hf hK hP hD hS hkc hks (lv_sub hl [0, 1] rfl)
  · have hf := it_f c_1 hf
    refine lv_aload_n hx hb d_By_put_12 rfl (lv_at hl 0 rfl) ?_
    refine lv_aload_n hx hb d_By_put_13 rfl (lv_at hl 0 rfl) ?_
    refine va_get (D := (dC, dI)) (ci := 0) (v := .ref q1) (C := RBytes) (T := TBytes) (N := 2) hx hb hts in_Bytes hown hK hP 0 rfl rfl 0 (by decide) (hts (.fieldLink "ZoneFiles$Bytes" 7 "ZoneFiles$Bytes" "row" "[B") m_1_37) (fun _ h9 => h9) rfl d_By_put_14 ?_
    refine lv_iconst (v := 2) hx hb d_By_put_17 (by decide) ?_
    refine lv_aload_n hx hb d_By_put_18 rfl (lv_at hl 0 rfl) ?_
    refine va_get (D := (dC, dI)) (ci := 0) (v := .ref q1) (C := RBytes) (T := TBytes) (N := 2) hx hb hts in_Bytes hown hK hP 0 rfl rfl 0 (by decide) (hts (.fieldLink "ZoneFiles$Bytes" 7 "ZoneFiles$Bytes" "row" "[B") m_1_37) (fun _ h9 => h9) rfl d_By_put_19 ?_
    refine va_alen (v := nI w1_n) hx hb hK hP 1 0 rfl rfl rfl d_By_put_22 ?_
    refine lv_imul hx hb d_By_put_23 ?_
    obtain ⟨⟨⟨z_3, z_4⟩, kc_7, ks_8⟩, hc, hf⟩ := ob hf
    obtain ⟨kc, ks, hf, ekc, eks⟩ := oa hf
    have hPc := hP.sub (ws' := [(q1, .inl (nA1, w1_n, .inl w1_a))]) [1] rfl
    have hDc := hD.sub (ws' := [(q1, .inl (nA1, w1_n, .inl w1_a))]) [1] (by decide) rfl
    have hKc := hK.sub (tys' := [(nA1, .byte)]) [0] rfl
    have hFc := va_free (wc := [(q1, .inl (nA1, w1_n, .inl w1_a))]) hD hS hA [1] rfl
    refine cl_R (va_runS (As := [.ref q1, .int (2 * (nI w1_n))]) (rest := [.ref h0]) ⟨hx, hb, hml, hown, hts⟩ (c_Arrays_copyOf l dC dI q1 nA1 H.size nf (2 * (nI w1_n)) w1_n w1_a hc) (va_cwS 2 hts (gdS m_2_41 m_2_42 m_1_6 m_2_43) rfl rfl rfl (by decide +kernel) ⟨Nat.le_trans (Nat.le_of_ble_eq_true rfl) hRf, Nat.le_trans (Nat.le_of_ble_eq_true rfl) hRl⟩) (MU.pre hPc hKc hDc (hST.mu hS hFc)).sta rfl rfl hl.1 rfl (lv_room (Nat.le_of_ble_eq_true rfl)) d_By_put_24 ⟨cb hkc ekc, cb hks eks⟩) hS (fun q _ h => hFc q h) hFc (fun q_5 t H1 locs ht hvm hB hz1 hk1 hS => ?_)
    obtain ⟨cq_6, hP1, hK1, hD1⟩ := hB
    rw [ht] at hP1
    have hK1 := va_K.moved hvm.symm hK1
    obtain ⟨hP, hD⟩ := va_join (wr := [(h0, .inr (0, [.ref q1, .int w0_1]))]) (w1 := [(q1, .inl (nA1, w1_n, .inl w1_a)), (q_5, .inl (cq_6, z_3, .inl z_4))]) hP hD [1] [0] rfl rfl (by decide) (by decide) hk1 hFc hP1 hD1
    have hK := (hK.sub (tys' := []) [] rfl).app hK1
    generalize H1 = H at hP hS ⊢
    have hP := hP.sub (ws' := [(h0, .inr (0, [.ref q1, .int w0_1])), (q1, .inl (nA1, w1_n, .inl w1_a)), (q_5, .inl (cq_6, z_3, .inl z_4))]) [0, 1, 2] rfl
    have hD := hD.sub (ws' := [(h0, .inr (0, [.ref q1, .int w0_1])), (q1, .inl (nA1, w1_n, .inl w1_a)), (q_5, .inl (cq_6, z_3, .inl z_4))]) [0, 1, 2] (by decide) rfl
    have hK := hK.sub (tys' := [(nA1, .byte), (cq_6, .byte)]) [0, 1] rfl
    have hkc := ck hkc ekc
    have hks := ck hks eks
    generalize cells + kc_7 = cells at hkc ⊢
    generalize slots + ks_8 = slots at hks ⊢
    refine va_put (D := (dC, dI)) (ci := 0) (v := .ref q_5) (ty := .array (.byte)) (C := RBytes) (T := TBytes) (N := 2) hx hb hts in_Bytes tyBytes ty_Bytes nm_Bytes hown hK hP hD hS 0 rfl rfl 0 (by decide) (hts (.fieldLink "ZoneFiles$Bytes" 7 "ZoneFiles$Bytes" "row" "[B") m_1_37) (fun _ h9 => h9) rfl (by decide +kernel) rfl rfl (Nat.le_of_ble_eq_true rfl) d_By_put_27 (fun H locs hP hD hS => ?_)
    have hP : va_P (dC, dI) classes [(h0, .inr (0, [.ref q_5, .int w0_1])), (q1, .inl (nA1, w1_n, .inl w1_a)), (q_5, .inl (cq_6, z_3, .inl z_4))] H := hP
    have hD : va_D A [(h0, .inr (0, [.ref q_5, .int w0_1])), (q1, .inl (nA1, w1_n, .inl w1_a)), (q_5, .inl (cq_6, z_3, .inl z_4))] := hD
    have hP := hP.sub (ws' := [(h0, .inr (0, [.ref q_5, .int w0_1])), (q_5, .inl (cq_6, z_3, .inl z_4))]) [0, 2] rfl
    have hD := hD.sub (ws' := [(h0, .inr (0, [.ref q_5, .int w0_1])), (q_5, .inl (cq_6, z_3, .inl z_4))]) [0, 2] (by decide) rfl
    have hK := hK.sub (tys' := [(cq_6, .byte)]) [1] rfl
    exact k_By_put_30 C0 hST hA hE hf hK hP hD hS hkc hks (lv_sub hl [0, 1] rfl)
end
set_option maxHeartbeats 400000 in
set_option maxRecDepth 100000 in
theorem c_By_put (l : Launch) (dC : Nat → ClassId) (dI : Nat → Nat → Nat) (h0 : Nat) (byR : Nat) (cAbyR : ClassId) (sz : Nat) (nf : Nat) (p0 : Int32) (byS : Int32) (byN : Nat) (byA : Nat → Int32) {v0_1 : Int32} {v1_n : Nat} {v1_a : Nat → Int32} {kc ks : Nat} (hf : f_By_put nf p0 byS byN byA = some ((v0_1, v1_n, v1_a), kc, ks)) : Met l y_By_put (wd y_By_put b_By_put 2 none) ({ frames := 2, cells := kc, slots := ks, locals := 41 }) (MU dC dI [(h0, .inr (0, [.ref byR, .int byS])), (byR, .inl (cAbyR, byN, .inl byA))] [(cAbyR, .byte)] sz [.ref h0, .int p0]) (MV none (fun t => ∃ (q1 : Nat) (nA1 : ClassId), va_P (dC, dI) classes [(h0, .inr (0, [.ref q1, .int v0_1])), (q1, .inl (nA1, v1_n, .inl v1_a))] t.heap ∧ va_K (dC, dI) classes [(nA1, .byte)] t ∧ va_D (va_A [(h0, .inr (0, [.ref byR, .int byS])), (byR, .inl (cAbyR, byN, .inl byA))] sz) [(h0, .inr (0, [.ref q1, .int v0_1])), (q1, .inl (nA1, v1_n, .inl v1_a))]) (va_A [(h0, .inr (0, [.ref byR, .int byS])), (byR, .inl (cAbyR, byN, .inl byA))] sz)) kc ks (va_A [(h0, .inr (0, [.ref byR, .int byS])), (byR, .inl (cAbyR, byN, .inl byA))] sz) :=
  met_M (plainFor_of_name (by decide)) (Nat.le_of_ble_eq_true rfl) (fun p e R s m args below meth c ls hRc hRs hsz hin C0 hST hK hP hD hl => by
    obtain ⟨hx, hb, hr, hml, hown, hts, hlocks, hRf, hRl⟩ := id C0
    subst hRc; subst hRs
    subst hsz
    have hA : ∀ q : Nat, s.heap.size ≤ q → va_A [(h0, .inr (0, [.ref byR, .int byS])), (byR, .inl (cAbyR, byN, .inl byA))] s.heap.size q := fun q h => Or.inr h
    have hS : va_S (va_A [(h0, .inr (0, [.ref byR, .int byS])), (byR, .inl (cAbyR, byN, .inl byA))] s.heap.size) s.heap s.heap [] := va_S.rf
    have hkc := Nat.zero_add R.cells
    have hks := Nat.zero_add R.slots
    unfold f_By_put at hf
    exact k_By_put_0 C0 hST hA (fun pc ls {q1} {nA1} H locs hd hP hD hS hK => W.vret hx hb hr (fun t ht hW => ⟨⟨rfl, ⟨q1, nA1, by rw [ht]; exact hP, va_K.moved hW.alike hK, hD⟩⟩, hS.F ht⟩) hS.2.2 hd) hf hK hP hD hS hkc hks (lv_sub hl [0, 1] rfl))
-- ZoneFiles$Bytes.putNumber(JI)V
def f_By_putNumber_5 (nf : Nat) : Nat → Int32 → Int64 → Int32 → Nat → (Nat → Int32) → Option ((Int32 × Nat × (Nat → Int32)) × Nat × Nat)
  | 0, _, _, _, _, _ => none
  | n + 1, x4, x1, w0_1, w1_n, w1_a =>
    if x4 < 0 then
    some ((w0_1, w1_n, w1_a), 0, 0)
    else
    (f_By_put nf (((x1.toUInt64 >>> ((8 * x4).toInt64.toUInt64 &&& Int64.toUInt64 63)).toInt64).toInt32) w0_1 w1_n w1_a).bind fun ((z_2, z_3, z_4), kc_7, ks_8) =>
      ad kc_7 ks_8 (f_By_putNumber_5 nf n (x4 + (-1)) x1 z_2 z_3 z_4)
def f_By_putNumber_0 (nf : Nat) (x1 : Int64) (x3 : Int32) (w0_1 : Int32) (w1_n : Nat) (w1_a : Nat → Int32) : Option ((Int32 × Nat × (Nat → Int32)) × Nat × Nat) :=
  f_By_putNumber_5 nf nf (x3 - 1) x1 w0_1 w1_n w1_a
def f_By_putNumber (nf : Nat) (p0 : Int64) (p1 : Int32) (byS : Int32) (byN : Nat) (byA : Nat → Int32) : Option ((Int32 × Nat × (Nat → Int32)) × Nat × Nat) :=
  f_By_putNumber_0 nf p0 p1 byS byN byA
section
variable {p : Program} {l : Launch} {e : Env} {R : Room} {s : State} {m : MethodId} {args : Array Value} {below : List Frame} {meth : Method} {c : Code} {Q : State → Prop} {dC : Nat → ClassId} {dI : Nat → Nat → Nat} {nf : Nat} {A : Nat → Prop}
variable {h0 : Nat} {byR : Nat} {cAbyR : ClassId} {byS : Int32} {byN : Nat} {byA : Nat → Int32} {v0_1 : Int32} {v1_n : Nat} {v1_a : Nat → Int32}
set_option maxHeartbeats 400000 in
set_option maxRecDepth 100000 in
theorem k_By_putNumber_5 (C0 : Cx p s m meth c args R b_By_putNumber "ZoneFiles$Bytes" 5 none 3 62) (hST : ST A s s.heap) (hA : ∀ q, s.heap.size ≤ q → A q) (hE : ∀ (pc : Nat) (ls : Array Slot) {q1 : Nat} {nA1 : ClassId} (H : Heap) (locs : List Loc), decode b_By_putNumber pc = .ok (.return_, 1) → va_P (dC, dI) classes [(h0, .inr (0, [.ref q1, .int v0_1])), (q1, .inl (nA1, v1_n, .inl v1_a))] H → va_D A [(h0, .inr (0, [.ref q1, .int v0_1])), (q1, .inl (nA1, v1_n, .inl v1_a))] → va_S A s.heap H locs → va_K (dC, dI) classes [(nA1, .byte)] s → W p l e R s m args below meth c H locs R.cells R.slots Q (F0 m pc ls [])) : ∀ (n : Nat) {x4 : Int32} {x1 : Int64} {w0_1 : Int32} {w1_n : Nat} {w1_a : Nat → Int32} {kc ks : Nat}, f_By_putNumber_5 nf n x4 x1 w0_1 w1_n w1_a = some ((v0_1, v1_n, v1_a), kc, ks) → ∀ {q1 : Nat} {nA1 : ClassId} {cells slots : Nat} {H : Heap} {locs : List Loc} {ls : Array Slot}, va_K (dC, dI) classes [(nA1, .byte)] s → va_P (dC, dI) classes [(h0, .inr (0, [.ref q1, .int w0_1])), (q1, .inl (nA1, w1_n, .inl w1_a))] H → va_D A [(h0, .inr (0, [.ref q1, .int w0_1])), (q1, .inl (nA1, w1_n, .inl w1_a))] → va_S A s.heap H locs → cells + kc = R.cells → slots + ks = R.slots → lv_has ls 5 [(4, .int x4), (0, .ref h0), (1, .long x1)] → W p l e R s m args below meth c H locs cells slots Q (F0 m 5 ls []) := by
  obtain ⟨hx, hb, hr, hml, hown, hts, hlocks, hRf, hRl⟩ := id C0
  obtain ⟨tms, hZms, hTms, tmg, hZmg, hTmg, hNW⟩ := id hST
  intro n
  induction n with
  | zero =>
    intro x4 x1 w0_1 w1_n w1_a kc ks hf
    exact absurd hf (by simp [f_By_putNumber_5])
  | succ n ih =>
    intro x4 x1 w0_1 w1_n w1_a kc ks hf q1 nA1 cells slots H locs ls hK hP hD hS hkc hks hl
    unfold f_By_putNumber_5 at hf
    refine lv_iload hx hb d_By_putNumber_5 (lv_at hl 0 rfl) ?_
    refine lv_if_lt (tgt := 28) hx hb d_By_putNumber_7 (by decide) (fun c_1 => ?_) (fun c_1 => ?_)
    · have hf := it_t c_1 hf
      cases rs hf
      have hkc : cells = R.cells := hkc
      have hks : slots = R.slots := hks
      subst hkc; subst hks
      exact hE _ _ _ _ d_By_putNumber_28 hP hD hS hK
    · have hf := it_f c_1 hf
      refine lv_aload_n hx hb d_By_putNumber_10 rfl (lv_at hl 1 rfl) ?_
      refine lv_lload_n hx hb d_By_putNumber_11 rfl (lv_at hl 2 rfl) ?_
      refine lv_bipush (v := 8) hx hb d_By_putNumber_12 (by decide) ?_
      refine lv_iload hx hb d_By_putNumber_14 (lv_at hl 0 rfl) ?_
      refine lv_imul hx hb d_By_putNumber_16 ?_
      refine lv_lushr hx hb d_By_putNumber_17 rfl ?_
      refine lv_l2i hx hb d_By_putNumber_18 rfl ?_
      obtain ⟨⟨⟨z_2, z_3, z_4⟩, kc_7, ks_8⟩, hc, hf⟩ := ob hf
      obtain ⟨kc, ks, hf, ekc, eks⟩ := oa hf
      have hPc := hP.sub (ws' := [(h0, .inr (0, [.ref q1, .int w0_1])), (q1, .inl (nA1, w1_n, .inl w1_a))]) [0, 1] rfl
      have hDc := hD.sub (ws' := [(h0, .inr (0, [.ref q1, .int w0_1])), (q1, .inl (nA1, w1_n, .inl w1_a))]) [0, 1] (by decide) rfl
      have hKc := hK.sub (tys' := [(nA1, .byte)]) [0] rfl
      have hFc := va_free (wc := [(h0, .inr (0, [.ref q1, .int w0_1])), (q1, .inl (nA1, w1_n, .inl w1_a))]) hD hS hA [0, 1] rfl
      refine cl_M (v := none) (st1 := []) (va_runV (As := [.int (((x1.toUInt64 >>> ((8 * x4).toInt64.toUInt64 &&& Int64.toUInt64 63)).toInt64).toInt32)]) (rest := []) ⟨hx, hb, hml, hown, hts⟩ (c_By_put l dC dI h0 q1 nA1 H.size nf (((x1.toUInt64 >>> ((8 * x4).toInt64.toUInt64 &&& Int64.toUInt64 63)).toInt64).toInt32) w0_1 w1_n w1_a hc) (cwV 1 hts (gdV m_3_12 m_2_38 m_2_39 m_1_2 m_2_40) rfl rfl rfl (by decide +kernel) ⟨Nat.le_trans (Nat.le_of_ble_eq_true rfl) hRf, Nat.le_trans (Nat.le_of_ble_eq_true rfl) hRl⟩) ((MU.pre hPc hKc hDc (hST.mu hS hFc)).vir (va_recv hKc hPc (ci := 0) (q0 := 0) rfl rfl)) rfl rfl hl.1 rfl (lv_room (Nat.le_of_ble_eq_true rfl)) d_By_putNumber_19 ⟨cb hkc ekc, cb hks eks⟩) rfl hS (fun q _ h => hFc q h) hFc (fun t H1 locs ht hvm hB hz1 hk1 hS => ?_)
      obtain ⟨q_5, cq_6, hP1, hK1, hD1⟩ := hB
      rw [ht] at hP1
      have hK1 := va_K.moved hvm.symm hK1
      obtain ⟨hP, hD⟩ := va_join (wr := []) (w1 := [(h0, .inr (0, [.ref q_5, .int z_2])), (q_5, .inl (cq_6, z_3, .inl z_4))]) hP hD [0, 1] [] rfl rfl (by decide) (by decide) hk1 hFc hP1 hD1
      have hK := (hK.sub (tys' := []) [] rfl).app hK1
      generalize H1 = H at hP hS ⊢
      have hP := hP.sub (ws' := [(h0, .inr (0, [.ref q_5, .int z_2])), (q_5, .inl (cq_6, z_3, .inl z_4))]) [0, 1] rfl
      have hD := hD.sub (ws' := [(h0, .inr (0, [.ref q_5, .int z_2])), (q_5, .inl (cq_6, z_3, .inl z_4))]) [0, 1] (by decide) rfl
      have hK := hK.sub (tys' := [(cq_6, .byte)]) [0] rfl
      have hkc := ck hkc ekc
      have hks := ck hks eks
      generalize cells + kc_7 = cells at hkc ⊢
      generalize slots + ks_8 = slots at hks ⊢
      refine lv_iinc (v := x4 + (-1)) (lv' := [(4, .int (x4 + (-1))), (0, .ref h0), (1, .long x1)]) hx hb d_By_putNumber_22 hl (k := 0) rfl rfl (by decide) rfl (fun ls hl => ?_)
      refine lv_goto (tgt := 5) hx hb d_By_putNumber_25 (by decide) ?_
      exact ih hf hK hP hD hS hkc hks (lv_sub hl [0, 1, 2] rfl)
set_option maxHeartbeats 400000 in
set_option maxRecDepth 100000 in
theorem k_By_putNumber_0 (C0 : Cx p s m meth c args R b_By_putNumber "ZoneFiles$Bytes" 5 none 3 62) (hST : ST A s s.heap) (hA : ∀ q, s.heap.size ≤ q → A q) (hE : ∀ (pc : Nat) (ls : Array Slot) {q1 : Nat} {nA1 : ClassId} (H : Heap) (locs : List Loc), decode b_By_putNumber pc = .ok (.return_, 1) → va_P (dC, dI) classes [(h0, .inr (0, [.ref q1, .int v0_1])), (q1, .inl (nA1, v1_n, .inl v1_a))] H → va_D A [(h0, .inr (0, [.ref q1, .int v0_1])), (q1, .inl (nA1, v1_n, .inl v1_a))] → va_S A s.heap H locs → va_K (dC, dI) classes [(nA1, .byte)] s → W p l e R s m args below meth c H locs R.cells R.slots Q (F0 m pc ls [])) {x1 : Int64} {x3 : Int32} {w0_1 : Int32} {w1_n : Nat} {w1_a : Nat → Int32} {kc ks : Nat} (hf : f_By_putNumber_0 nf x1 x3 w0_1 w1_n w1_a = some ((v0_1, v1_n, v1_a), kc, ks)) {q1 : Nat} {nA1 : ClassId} {cells slots : Nat} {H : Heap} {locs : List Loc} {ls : Array Slot} (hK : va_K (dC, dI) classes [(nA1, .byte)] s) (hP : va_P (dC, dI) classes [(h0, .inr (0, [.ref q1, .int w0_1])), (q1, .inl (nA1, w1_n, .inl w1_a))] H) (hD : va_D A [(h0, .inr (0, [.ref q1, .int w0_1])), (q1, .inl (nA1, w1_n, .inl w1_a))]) (hS : va_S A s.heap H locs) (hkc : cells + kc = R.cells) (hks : slots + ks = R.slots) (hl : lv_has ls 5 [(0, .ref h0), (1, .long x1), (3, .int x3)]) : W p l e R s m args below meth c H locs cells slots Q (F0 m 0 ls []) := by
  obtain ⟨hx, hb, hr, hml, hown, hts, hlocks, hRf, hRl⟩ := id C0
  obtain ⟨tms, hZms, hTms, tmg, hZmg, hTmg, hNW⟩ := id hST
  unfold f_By_putNumber_0 at hf
  refine lv_iload_n hx hb d_By_putNumber_0 rfl (lv_at hl 2 rfl) ?_
  refine lv_iconst (v := 1) hx hb d_By_putNumber_1 (by decide) ?_
  refine lv_isub hx hb d_By_putNumber_2 ?_
  refine lv_istore (lv' := [(4, .int (x3 - 1)), (0, .ref h0), (1, .long x1), (3, .int x3)]) hx hb d_By_putNumber_3 hl (by decide) rfl (fun ls hl => ?_)
  exact k_By_putNumber_5 C0 hST hA hE nf hf hK hP hD hS hkc hks (lv_sub hl [0, 1, 2] rfl)
end
set_option maxHeartbeats 400000 in
set_option maxRecDepth 100000 in
theorem c_By_putNumber (l : Launch) (dC : Nat → ClassId) (dI : Nat → Nat → Nat) (h0 : Nat) (byR : Nat) (cAbyR : ClassId) (sz : Nat) (nf : Nat) (p0 : Int64) (p1 : Int32) (byS : Int32) (byN : Nat) (byA : Nat → Int32) {v0_1 : Int32} {v1_n : Nat} {v1_a : Nat → Int32} {kc ks : Nat} (hf : f_By_putNumber nf p0 p1 byS byN byA = some ((v0_1, v1_n, v1_a), kc, ks)) : Met l y_By_putNumber (wd y_By_putNumber b_By_putNumber 5 none) ({ frames := 3, cells := kc, slots := ks, locals := 62 }) (MU dC dI [(h0, .inr (0, [.ref byR, .int byS])), (byR, .inl (cAbyR, byN, .inl byA))] [(cAbyR, .byte)] sz [.ref h0, .long p0, .int p1]) (MV none (fun t => ∃ (q1 : Nat) (nA1 : ClassId), va_P (dC, dI) classes [(h0, .inr (0, [.ref q1, .int v0_1])), (q1, .inl (nA1, v1_n, .inl v1_a))] t.heap ∧ va_K (dC, dI) classes [(nA1, .byte)] t ∧ va_D (va_A [(h0, .inr (0, [.ref byR, .int byS])), (byR, .inl (cAbyR, byN, .inl byA))] sz) [(h0, .inr (0, [.ref q1, .int v0_1])), (q1, .inl (nA1, v1_n, .inl v1_a))]) (va_A [(h0, .inr (0, [.ref byR, .int byS])), (byR, .inl (cAbyR, byN, .inl byA))] sz)) kc ks (va_A [(h0, .inr (0, [.ref byR, .int byS])), (byR, .inl (cAbyR, byN, .inl byA))] sz) :=
  met_M (plainFor_of_name (by decide)) (Nat.le_of_ble_eq_true rfl) (fun p e R s m args below meth c ls hRc hRs hsz hin C0 hST hK hP hD hl => by
    obtain ⟨hx, hb, hr, hml, hown, hts, hlocks, hRf, hRl⟩ := id C0
    subst hRc; subst hRs
    subst hsz
    have hA : ∀ q : Nat, s.heap.size ≤ q → va_A [(h0, .inr (0, [.ref byR, .int byS])), (byR, .inl (cAbyR, byN, .inl byA))] s.heap.size q := fun q h => Or.inr h
    have hS : va_S (va_A [(h0, .inr (0, [.ref byR, .int byS])), (byR, .inl (cAbyR, byN, .inl byA))] s.heap.size) s.heap s.heap [] := va_S.rf
    have hkc := Nat.zero_add R.cells
    have hks := Nat.zero_add R.slots
    unfold f_By_putNumber at hf
    exact k_By_putNumber_0 C0 hST hA (fun pc ls {q1} {nA1} H locs hd hP hD hS hK => W.vret hx hb hr (fun t ht hW => ⟨⟨rfl, ⟨q1, nA1, by rw [ht]; exact hP, va_K.moved hW.alike hK, hD⟩⟩, hS.F ht⟩) hS.2.2 hd) hf hK hP hD hS hkc hks (lv_sub hl [0, 1, 2] rfl))
-- ZoneFiles$Bytes.putZeros(I)V
def f_By_putZeros_2 (nf : Nat) : Nat → Int32 → Int32 → Int32 → Nat → (Nat → Int32) → Option ((Int32 × Nat × (Nat → Int32)) × Nat × Nat)
  | 0, _, _, _, _, _ => none
  | n + 1, x2, x1, w0_1, w1_n, w1_a =>
    if x1 ≤ x2 then
    some ((w0_1, w1_n, w1_a), 0, 0)
    else
    (f_By_put nf 0 w0_1 w1_n w1_a).bind fun ((z_2, z_3, z_4), kc_7, ks_8) =>
      ad kc_7 ks_8 (f_By_putZeros_2 nf n (x2 + 1) x1 z_2 z_3 z_4)
def f_By_putZeros_0 (nf : Nat) (x1 : Int32) (w0_1 : Int32) (w1_n : Nat) (w1_a : Nat → Int32) : Option ((Int32 × Nat × (Nat → Int32)) × Nat × Nat) :=
  f_By_putZeros_2 nf nf 0 x1 w0_1 w1_n w1_a
def f_By_putZeros (nf : Nat) (p0 : Int32) (byS : Int32) (byN : Nat) (byA : Nat → Int32) : Option ((Int32 × Nat × (Nat → Int32)) × Nat × Nat) :=
  f_By_putZeros_0 nf p0 byS byN byA
section
variable {p : Program} {l : Launch} {e : Env} {R : Room} {s : State} {m : MethodId} {args : Array Value} {below : List Frame} {meth : Method} {c : Code} {Q : State → Prop} {dC : Nat → ClassId} {dI : Nat → Nat → Nat} {nf : Nat} {A : Nat → Prop}
variable {h0 : Nat} {byR : Nat} {cAbyR : ClassId} {byS : Int32} {byN : Nat} {byA : Nat → Int32} {v0_1 : Int32} {v1_n : Nat} {v1_a : Nat → Int32}
set_option maxHeartbeats 400000 in
set_option maxRecDepth 100000 in
theorem k_By_putZeros_2 (C0 : Cx p s m meth c args R b_By_putZeros "ZoneFiles$Bytes" 3 none 3 62) (hST : ST A s s.heap) (hA : ∀ q, s.heap.size ≤ q → A q) (hE : ∀ (pc : Nat) (ls : Array Slot) {q1 : Nat} {nA1 : ClassId} (H : Heap) (locs : List Loc), decode b_By_putZeros pc = .ok (.return_, 1) → va_P (dC, dI) classes [(h0, .inr (0, [.ref q1, .int v0_1])), (q1, .inl (nA1, v1_n, .inl v1_a))] H → va_D A [(h0, .inr (0, [.ref q1, .int v0_1])), (q1, .inl (nA1, v1_n, .inl v1_a))] → va_S A s.heap H locs → va_K (dC, dI) classes [(nA1, .byte)] s → W p l e R s m args below meth c H locs R.cells R.slots Q (F0 m pc ls [])) : ∀ (n : Nat) {x2 : Int32} {x1 : Int32} {w0_1 : Int32} {w1_n : Nat} {w1_a : Nat → Int32} {kc ks : Nat}, f_By_putZeros_2 nf n x2 x1 w0_1 w1_n w1_a = some ((v0_1, v1_n, v1_a), kc, ks) → ∀ {q1 : Nat} {nA1 : ClassId} {cells slots : Nat} {H : Heap} {locs : List Loc} {ls : Array Slot}, va_K (dC, dI) classes [(nA1, .byte)] s → va_P (dC, dI) classes [(h0, .inr (0, [.ref q1, .int w0_1])), (q1, .inl (nA1, w1_n, .inl w1_a))] H → va_D A [(h0, .inr (0, [.ref q1, .int w0_1])), (q1, .inl (nA1, w1_n, .inl w1_a))] → va_S A s.heap H locs → cells + kc = R.cells → slots + ks = R.slots → lv_has ls 3 [(2, .int x2), (0, .ref h0), (1, .int x1)] → W p l e R s m args below meth c H locs cells slots Q (F0 m 2 ls []) := by
  obtain ⟨hx, hb, hr, hml, hown, hts, hlocks, hRf, hRl⟩ := id C0
  obtain ⟨tms, hZms, hTms, tmg, hZmg, hTmg, hNW⟩ := id hST
  intro n
  induction n with
  | zero =>
    intro x2 x1 w0_1 w1_n w1_a kc ks hf
    exact absurd hf (by simp [f_By_putZeros_2])
  | succ n ih =>
    intro x2 x1 w0_1 w1_n w1_a kc ks hf q1 nA1 cells slots H locs ls hK hP hD hS hkc hks hl
    unfold f_By_putZeros_2 at hf
    refine lv_iload_n hx hb d_By_putZeros_2 rfl (lv_at hl 0 rfl) ?_
    refine lv_iload_n hx hb d_By_putZeros_3 rfl (lv_at hl 2 rfl) ?_
    refine lv_icmp_ge (tgt := 18) hx hb d_By_putZeros_4 (by decide) (fun c_1 => ?_) (fun c_1 => ?_)
    · have hf := it_t c_1 hf
      cases rs hf
      have hkc : cells = R.cells := hkc
      have hks : slots = R.slots := hks
      subst hkc; subst hks
      exact hE _ _ _ _ d_By_putZeros_18 hP hD hS hK
    · have hf := it_f c_1 hf
      refine lv_aload_n hx hb d_By_putZeros_7 rfl (lv_at hl 1 rfl) ?_
      refine lv_iconst (v := 0) hx hb d_By_putZeros_8 (by decide) ?_
      obtain ⟨⟨⟨z_2, z_3, z_4⟩, kc_7, ks_8⟩, hc, hf⟩ := ob hf
      obtain ⟨kc, ks, hf, ekc, eks⟩ := oa hf
      have hPc := hP.sub (ws' := [(h0, .inr (0, [.ref q1, .int w0_1])), (q1, .inl (nA1, w1_n, .inl w1_a))]) [0, 1] rfl
      have hDc := hD.sub (ws' := [(h0, .inr (0, [.ref q1, .int w0_1])), (q1, .inl (nA1, w1_n, .inl w1_a))]) [0, 1] (by decide) rfl
      have hKc := hK.sub (tys' := [(nA1, .byte)]) [0] rfl
      have hFc := va_free (wc := [(h0, .inr (0, [.ref q1, .int w0_1])), (q1, .inl (nA1, w1_n, .inl w1_a))]) hD hS hA [0, 1] rfl
      refine cl_M (v := none) (st1 := []) (va_runV (As := [.int 0]) (rest := []) ⟨hx, hb, hml, hown, hts⟩ (c_By_put l dC dI h0 q1 nA1 H.size nf 0 w0_1 w1_n w1_a hc) (cwV 1 hts (gdV m_3_12 m_2_38 m_2_39 m_1_2 m_2_40) rfl rfl rfl (by decide +kernel) ⟨Nat.le_trans (Nat.le_of_ble_eq_true rfl) hRf, Nat.le_trans (Nat.le_of_ble_eq_true rfl) hRl⟩) ((MU.pre hPc hKc hDc (hST.mu hS hFc)).vir (va_recv hKc hPc (ci := 0) (q0 := 0) rfl rfl)) rfl rfl hl.1 rfl (lv_room (Nat.le_of_ble_eq_true rfl)) d_By_putZeros_9 ⟨cb hkc ekc, cb hks eks⟩) rfl hS (fun q _ h => hFc q h) hFc (fun t H1 locs ht hvm hB hz1 hk1 hS => ?_)
      obtain ⟨q_5, cq_6, hP1, hK1, hD1⟩ := hB
      rw [ht] at hP1
      have hK1 := va_K.moved hvm.symm hK1
      obtain ⟨hP, hD⟩ := va_join (wr := []) (w1 := [(h0, .inr (0, [.ref q_5, .int z_2])), (q_5, .inl (cq_6, z_3, .inl z_4))]) hP hD [0, 1] [] rfl rfl (by decide) (by decide) hk1 hFc hP1 hD1
      have hK := (hK.sub (tys' := []) [] rfl).app hK1
      generalize H1 = H at hP hS ⊢
      have hP := hP.sub (ws' := [(h0, .inr (0, [.ref q_5, .int z_2])), (q_5, .inl (cq_6, z_3, .inl z_4))]) [0, 1] rfl
      have hD := hD.sub (ws' := [(h0, .inr (0, [.ref q_5, .int z_2])), (q_5, .inl (cq_6, z_3, .inl z_4))]) [0, 1] (by decide) rfl
      have hK := hK.sub (tys' := [(cq_6, .byte)]) [0] rfl
      have hkc := ck hkc ekc
      have hks := ck hks eks
      generalize cells + kc_7 = cells at hkc ⊢
      generalize slots + ks_8 = slots at hks ⊢
      refine lv_iinc (v := x2 + 1) (lv' := [(2, .int (x2 + 1)), (0, .ref h0), (1, .int x1)]) hx hb d_By_putZeros_12 hl (k := 0) rfl rfl (by decide) rfl (fun ls hl => ?_)
      refine lv_goto (tgt := 2) hx hb d_By_putZeros_15 (by decide) ?_
      exact ih hf hK hP hD hS hkc hks (lv_sub hl [0, 1, 2] rfl)
set_option maxHeartbeats 400000 in
set_option maxRecDepth 100000 in
theorem k_By_putZeros_0 (C0 : Cx p s m meth c args R b_By_putZeros "ZoneFiles$Bytes" 3 none 3 62) (hST : ST A s s.heap) (hA : ∀ q, s.heap.size ≤ q → A q) (hE : ∀ (pc : Nat) (ls : Array Slot) {q1 : Nat} {nA1 : ClassId} (H : Heap) (locs : List Loc), decode b_By_putZeros pc = .ok (.return_, 1) → va_P (dC, dI) classes [(h0, .inr (0, [.ref q1, .int v0_1])), (q1, .inl (nA1, v1_n, .inl v1_a))] H → va_D A [(h0, .inr (0, [.ref q1, .int v0_1])), (q1, .inl (nA1, v1_n, .inl v1_a))] → va_S A s.heap H locs → va_K (dC, dI) classes [(nA1, .byte)] s → W p l e R s m args below meth c H locs R.cells R.slots Q (F0 m pc ls [])) {x1 : Int32} {w0_1 : Int32} {w1_n : Nat} {w1_a : Nat → Int32} {kc ks : Nat} (hf : f_By_putZeros_0 nf x1 w0_1 w1_n w1_a = some ((v0_1, v1_n, v1_a), kc, ks)) {q1 : Nat} {nA1 : ClassId} {cells slots : Nat} {H : Heap} {locs : List Loc} {ls : Array Slot} (hK : va_K (dC, dI) classes [(nA1, .byte)] s) (hP : va_P (dC, dI) classes [(h0, .inr (0, [.ref q1, .int w0_1])), (q1, .inl (nA1, w1_n, .inl w1_a))] H) (hD : va_D A [(h0, .inr (0, [.ref q1, .int w0_1])), (q1, .inl (nA1, w1_n, .inl w1_a))]) (hS : va_S A s.heap H locs) (hkc : cells + kc = R.cells) (hks : slots + ks = R.slots) (hl : lv_has ls 3 [(0, .ref h0), (1, .int x1)]) : W p l e R s m args below meth c H locs cells slots Q (F0 m 0 ls []) := by
  obtain ⟨hx, hb, hr, hml, hown, hts, hlocks, hRf, hRl⟩ := id C0
  obtain ⟨tms, hZms, hTms, tmg, hZmg, hTmg, hNW⟩ := id hST
  unfold f_By_putZeros_0 at hf
  refine lv_iconst (v := 0) hx hb d_By_putZeros_0 (by decide) ?_
  refine lv_istore_n (lv' := [(2, .int 0), (0, .ref h0), (1, .int x1)]) hx hb d_By_putZeros_1 rfl hl (by decide) rfl (fun ls hl => ?_)
  exact k_By_putZeros_2 C0 hST hA hE nf hf hK hP hD hS hkc hks (lv_sub hl [0, 1, 2] rfl)
end
set_option maxHeartbeats 400000 in
set_option maxRecDepth 100000 in
theorem c_By_putZeros (l : Launch) (dC : Nat → ClassId) (dI : Nat → Nat → Nat) (h0 : Nat) (byR : Nat) (cAbyR : ClassId) (sz : Nat) (nf : Nat) (p0 : Int32) (byS : Int32) (byN : Nat) (byA : Nat → Int32) {v0_1 : Int32} {v1_n : Nat} {v1_a : Nat → Int32} {kc ks : Nat} (hf : f_By_putZeros nf p0 byS byN byA = some ((v0_1, v1_n, v1_a), kc, ks)) : Met l y_By_putZeros (wd y_By_putZeros b_By_putZeros 3 none) ({ frames := 3, cells := kc, slots := ks, locals := 62 }) (MU dC dI [(h0, .inr (0, [.ref byR, .int byS])), (byR, .inl (cAbyR, byN, .inl byA))] [(cAbyR, .byte)] sz [.ref h0, .int p0]) (MV none (fun t => ∃ (q1 : Nat) (nA1 : ClassId), va_P (dC, dI) classes [(h0, .inr (0, [.ref q1, .int v0_1])), (q1, .inl (nA1, v1_n, .inl v1_a))] t.heap ∧ va_K (dC, dI) classes [(nA1, .byte)] t ∧ va_D (va_A [(h0, .inr (0, [.ref byR, .int byS])), (byR, .inl (cAbyR, byN, .inl byA))] sz) [(h0, .inr (0, [.ref q1, .int v0_1])), (q1, .inl (nA1, v1_n, .inl v1_a))]) (va_A [(h0, .inr (0, [.ref byR, .int byS])), (byR, .inl (cAbyR, byN, .inl byA))] sz)) kc ks (va_A [(h0, .inr (0, [.ref byR, .int byS])), (byR, .inl (cAbyR, byN, .inl byA))] sz) :=
  met_M (plainFor_of_name (by decide)) (Nat.le_of_ble_eq_true rfl) (fun p e R s m args below meth c ls hRc hRs hsz hin C0 hST hK hP hD hl => by
    obtain ⟨hx, hb, hr, hml, hown, hts, hlocks, hRf, hRl⟩ := id C0
    subst hRc; subst hRs
    subst hsz
    have hA : ∀ q : Nat, s.heap.size ≤ q → va_A [(h0, .inr (0, [.ref byR, .int byS])), (byR, .inl (cAbyR, byN, .inl byA))] s.heap.size q := fun q h => Or.inr h
    have hS : va_S (va_A [(h0, .inr (0, [.ref byR, .int byS])), (byR, .inl (cAbyR, byN, .inl byA))] s.heap.size) s.heap s.heap [] := va_S.rf
    have hkc := Nat.zero_add R.cells
    have hks := Nat.zero_add R.slots
    unfold f_By_putZeros at hf
    exact k_By_putZeros_0 C0 hST hA (fun pc ls {q1} {nA1} H locs hd hP hD hS hK => W.vret hx hb hr (fun t ht hW => ⟨⟨rfl, ⟨q1, nA1, by rw [ht]; exact hP, va_K.moved hW.alike hK, hD⟩⟩, hS.F ht⟩) hS.2.2 hd) hf hK hP hD hS hkc hks (lv_sub hl [0, 1] rfl))
