theorem m_1_11 : Cond.initialized "java/lang/Throwable" ∈ T0 := tb_1 11 rfl rfl
theorem m_3_55 : Cond.instantiable "java/lang/IllegalArgumentException" 6 ∈ T0 := tb_3 55 rfl rfl
theorem m_3_63 : Cond.selects "java/lang/IllegalArgumentException" ⟨"java/lang/Throwable", "fillInStackTrace", "(I)Ljava/lang/Throwable;"⟩ ⟨"java/lang/Throwable", "fillInStackTrace", "(I)Ljava/lang/Throwable;"⟩ ∈ T0 := tb_3 63 rfl rfl
theorem m_3_64 : Cond.selects "java/lang/IllegalArgumentException" ⟨"java/lang/Throwable", "fillInStackTrace", "()Ljava/lang/Throwable;"⟩ ⟨"java/lang/Throwable", "fillInStackTrace", "()Ljava/lang/Throwable;"⟩ ∈ T0 := tb_3 64 rfl rfl
theorem m_3_65 : Cond.lays "java/lang/IllegalArgumentException" "java/lang/Throwable" "cause" "Ljava/lang/Throwable;" ∈ T0 := tb_3 65 rfl rfl
theorem m_3_66 : Cond.lays "java/lang/Throwable" "java/lang/Throwable" "cause" "Ljava/lang/Throwable;" ∈ T0 := tb_3 66 rfl rfl
theorem m_3_67 : Cond.lays "java/lang/IllegalArgumentException" "java/lang/Throwable" "stackTrace" "[Ljava/lang/StackTraceElement;" ∈ T0 := tb_3 67 rfl rfl
theorem m_3_68 : Cond.lays "java/lang/Throwable" "java/lang/Throwable" "stackTrace" "[Ljava/lang/StackTraceElement;" ∈ T0 := tb_3 68 rfl rfl
theorem m_3_69 : Cond.lays "java/lang/IllegalArgumentException" "java/lang/Throwable" "suppressedExceptions" "Ljava/util/List;" ∈ T0 := tb_3 69 rfl rfl
theorem m_3_70 : Cond.lays "java/lang/Throwable" "java/lang/Throwable" "suppressedExceptions" "Ljava/util/List;" ∈ T0 := tb_3 70 rfl rfl
theorem m_3_71 : Cond.lays "java/lang/IllegalArgumentException" "java/lang/Throwable" "detailMessage" "Ljava/lang/String;" ∈ T0 := tb_3 71 rfl rfl
theorem m_3_72 : Cond.lays "java/lang/Throwable" "java/lang/Throwable" "detailMessage" "Ljava/lang/String;" ∈ T0 := tb_3 72 rfl rfl
theorem m_3_73 : Cond.lays "java/lang/IllegalArgumentException" "java/lang/Throwable" "backtrace" "Ljava/lang/Object;" ∈ T0 := tb_3 73 rfl rfl
theorem m_3_74 : Cond.lays "java/lang/Throwable" "java/lang/Throwable" "backtrace" "Ljava/lang/Object;" ∈ T0 := tb_3 74 rfl rfl
theorem m_3_75 : Cond.fieldLink "java/lang/Throwable" 198 "java/lang/Throwable" "backtrace" "Ljava/lang/Object;" ∈ T0 := tb_3 75 rfl rfl
theorem m_3_76 : Cond.superclass "java/lang/Throwable" "java/lang/Object" ∈ T0 := tb_3 76 rfl rfl
theorem m_3_77 : Cond.instanceMethod ⟨"java/lang/Throwable", "<init>", "()V"⟩ ∈ T0 := tb_3 77 rfl rfl
theorem m_3_78 : Cond.code ⟨"java/lang/Throwable", "<init>", "()V"⟩ prog_24_method_1_code 1 none ∈ T0 := tb_3 78 rfl rfl
theorem m_3_79 : Cond.methodLink "java/lang/Throwable" 1 ⟨"java/lang/Object", "<init>", "()V"⟩ ∈ T0 := tb_3 79 rfl rfl
theorem m_3_80 : Cond.fieldLink "java/lang/Throwable" 13 "java/lang/Throwable" "UNASSIGNED_STACK" "[Ljava/lang/StackTraceElement;" ∈ T0 := tb_3 80 rfl rfl
theorem m_3_82 : Cond.fieldLink "java/lang/Throwable" 20 "java/lang/Throwable" "SUPPRESSED_SENTINEL" "Ljava/util/List;" ∈ T0 := tb_3 82 rfl rfl
theorem m_3_84 : Cond.methodLink "java/lang/Throwable" 27 ⟨"java/lang/Throwable", "fillInStackTrace", "()Ljava/lang/Throwable;"⟩ ∈ T0 := tb_3 84 rfl rfl
theorem m_3_85 : Cond.instanceMethod ⟨"java/lang/Throwable", "fillInStackTrace", "()Ljava/lang/Throwable;"⟩ ∈ T0 := tb_3 85 rfl rfl
theorem m_3_87 : Cond.selects "java/lang/IllegalStateException" ⟨"java/lang/Throwable", "fillInStackTrace", "()Ljava/lang/Throwable;"⟩ ⟨"java/lang/Throwable", "fillInStackTrace", "()Ljava/lang/Throwable;"⟩ ∈ T0 := tb_3 87 rfl rfl
theorem m_3_88 : Cond.selects "java/lang/IndexOutOfBoundsException" ⟨"java/lang/Throwable", "fillInStackTrace", "()Ljava/lang/Throwable;"⟩ ⟨"java/lang/Throwable", "fillInStackTrace", "()Ljava/lang/Throwable;"⟩ ∈ T0 := tb_3 88 rfl rfl
theorem m_3_89 : Cond.codeSync ⟨"java/lang/Throwable", "fillInStackTrace", "()Ljava/lang/Throwable;"⟩ prog_24_method_18_code 1 (some (.object "java/lang/Throwable")) ∈ T0 := tb_3 89 rfl rfl
theorem m_3_90 : Cond.methodLink "java/lang/Throwable" 202 ⟨"java/lang/Throwable", "fillInStackTrace", "(I)Ljava/lang/Throwable;"⟩ ∈ T0 := tb_3 90 rfl rfl
theorem m_3_92 : Cond.instanceMethod ⟨"java/lang/Throwable", "fillInStackTrace", "(I)Ljava/lang/Throwable;"⟩ ∈ T0 := tb_3 92 rfl rfl
theorem m_3_94 : Cond.native ⟨"java/lang/Throwable", "fillInStackTrace", "(I)Ljava/lang/Throwable;"⟩ ∈ T0 := tb_3 94 rfl rfl
theorem m_3_96 : Cond.methodLink "ZoneFiles" 60 ⟨"java/lang/IllegalArgumentException", "<init>", "(Ljava/lang/String;)V"⟩ ∈ T0 := tb_3 96 rfl rfl
theorem m_3_97 : Cond.instanceMethod ⟨"java/lang/IllegalArgumentException", "<init>", "(Ljava/lang/String;)V"⟩ ∈ T0 := tb_3 97 rfl rfl
theorem m_3_98 : Cond.code ⟨"java/lang/IllegalArgumentException", "<init>", "(Ljava/lang/String;)V"⟩ prog_17_method_2_code 2 none ∈ T0 := tb_3 98 rfl rfl
theorem m_3_99 : Cond.methodLink "java/lang/IllegalArgumentException" 7 ⟨"java/lang/RuntimeException", "<init>", "(Ljava/lang/String;)V"⟩ ∈ T0 := tb_3 99 rfl rfl
theorem m_3_100 : Cond.instanceMethod ⟨"java/lang/RuntimeException", "<init>", "(Ljava/lang/String;)V"⟩ ∈ T0 := tb_3 100 rfl rfl
theorem m_3_101 : Cond.code ⟨"java/lang/RuntimeException", "<init>", "(Ljava/lang/String;)V"⟩ prog_21_method_2_code 2 none ∈ T0 := tb_3 101 rfl rfl
theorem m_3_102 : Cond.methodLink "java/lang/RuntimeException" 7 ⟨"java/lang/Exception", "<init>", "(Ljava/lang/String;)V"⟩ ∈ T0 := tb_3 102 rfl rfl
theorem m_3_103 : Cond.instanceMethod ⟨"java/lang/Exception", "<init>", "(Ljava/lang/String;)V"⟩ ∈ T0 := tb_3 103 rfl rfl
theorem m_3_104 : Cond.code ⟨"java/lang/Exception", "<init>", "(Ljava/lang/String;)V"⟩ prog_16_method_2_code 2 none ∈ T0 := tb_3 104 rfl rfl
theorem m_3_105 : Cond.methodLink "java/lang/Exception" 7 ⟨"java/lang/Throwable", "<init>", "(Ljava/lang/String;)V"⟩ ∈ T0 := tb_3 105 rfl rfl
theorem m_3_106 : Cond.instanceMethod ⟨"java/lang/Throwable", "<init>", "(Ljava/lang/String;)V"⟩ ∈ T0 := tb_3 106 rfl rfl
theorem m_3_107 : Cond.code ⟨"java/lang/Throwable", "<init>", "(Ljava/lang/String;)V"⟩ prog_24_method_2_code 2 none ∈ T0 := tb_3 107 rfl rfl
theorem m_3_109 : Cond.fieldLink "java/lang/Throwable" 31 "java/lang/Throwable" "detailMessage" "Ljava/lang/String;" ∈ T0 := tb_3 109 rfl rfl
theorem m_3_110 : Cond.fieldLink "java/lang/Throwable" 7 "java/lang/Throwable" "cause" "Ljava/lang/Throwable;" ∈ T0 := tb_3 110 rfl rfl
theorem m_3_111 : Cond.fieldLink "java/lang/Throwable" 17 "java/lang/Throwable" "stackTrace" "[Ljava/lang/StackTraceElement;" ∈ T0 := tb_3 111 rfl rfl
theorem m_3_112 : Cond.fieldLink "java/lang/Throwable" 24 "java/lang/Throwable" "suppressedExceptions" "Ljava/util/List;" ∈ T0 := tb_3 112 rfl rfl
theorem m_3_135 : Cond.instantiable "java/lang/IndexOutOfBoundsException" 6 ∈ T0 := tb_3 135 rfl rfl
theorem m_3_137 : Cond.selects "java/lang/IndexOutOfBoundsException" ⟨"java/lang/Throwable", "fillInStackTrace", "(I)Ljava/lang/Throwable;"⟩ ⟨"java/lang/Throwable", "fillInStackTrace", "(I)Ljava/lang/Throwable;"⟩ ∈ T0 := tb_3 137 rfl rfl
theorem m_3_138 : Cond.lays "java/lang/IndexOutOfBoundsException" "java/lang/Throwable" "cause" "Ljava/lang/Throwable;" ∈ T0 := tb_3 138 rfl rfl
theorem m_3_139 : Cond.lays "java/lang/IndexOutOfBoundsException" "java/lang/Throwable" "stackTrace" "[Ljava/lang/StackTraceElement;" ∈ T0 := tb_3 139 rfl rfl
theorem m_3_140 : Cond.lays "java/lang/IndexOutOfBoundsException" "java/lang/Throwable" "suppressedExceptions" "Ljava/util/List;" ∈ T0 := tb_3 140 rfl rfl
theorem m_3_141 : Cond.lays "java/lang/IndexOutOfBoundsException" "java/lang/Throwable" "detailMessage" "Ljava/lang/String;" ∈ T0 := tb_3 141 rfl rfl
theorem m_3_142 : Cond.lays "java/lang/IndexOutOfBoundsException" "java/lang/Throwable" "backtrace" "Ljava/lang/Object;" ∈ T0 := tb_3 142 rfl rfl
theorem m_3_144 : Cond.methodLink "ZoneFiles" 165 ⟨"java/lang/IndexOutOfBoundsException", "<init>", "(Ljava/lang/String;)V"⟩ ∈ T0 := tb_3 144 rfl rfl
theorem m_3_145 : Cond.instanceMethod ⟨"java/lang/IndexOutOfBoundsException", "<init>", "(Ljava/lang/String;)V"⟩ ∈ T0 := tb_3 145 rfl rfl
theorem m_3_146 : Cond.code ⟨"java/lang/IndexOutOfBoundsException", "<init>", "(Ljava/lang/String;)V"⟩ prog_19_method_2_code 2 none ∈ T0 := tb_3 146 rfl rfl
theorem m_3_147 : Cond.methodLink "java/lang/IndexOutOfBoundsException" 7 ⟨"java/lang/RuntimeException", "<init>", "(Ljava/lang/String;)V"⟩ ∈ T0 := tb_3 147 rfl rfl
theorem m_5_54 : Cond.instantiable "java/lang/IllegalStateException" 6 ∈ T0 := tb_5 54 rfl rfl
theorem m_5_56 : Cond.selects "java/lang/IllegalStateException" ⟨"java/lang/Throwable", "fillInStackTrace", "(I)Ljava/lang/Throwable;"⟩ ⟨"java/lang/Throwable", "fillInStackTrace", "(I)Ljava/lang/Throwable;"⟩ ∈ T0 := tb_5 56 rfl rfl
theorem m_5_57 : Cond.lays "java/lang/IllegalStateException" "java/lang/Throwable" "cause" "Ljava/lang/Throwable;" ∈ T0 := tb_5 57 rfl rfl
theorem m_5_58 : Cond.lays "java/lang/IllegalStateException" "java/lang/Throwable" "stackTrace" "[Ljava/lang/StackTraceElement;" ∈ T0 := tb_5 58 rfl rfl
theorem m_5_59 : Cond.lays "java/lang/IllegalStateException" "java/lang/Throwable" "suppressedExceptions" "Ljava/util/List;" ∈ T0 := tb_5 59 rfl rfl
theorem m_5_60 : Cond.lays "java/lang/IllegalStateException" "java/lang/Throwable" "detailMessage" "Ljava/lang/String;" ∈ T0 := tb_5 60 rfl rfl
theorem m_5_61 : Cond.lays "java/lang/IllegalStateException" "java/lang/Throwable" "backtrace" "Ljava/lang/Object;" ∈ T0 := tb_5 61 rfl rfl
theorem m_5_63 : Cond.methodLink "ZoneFiles" 225 ⟨"java/lang/IllegalStateException", "<init>", "(Ljava/lang/String;)V"⟩ ∈ T0 := tb_5 63 rfl rfl
theorem m_5_64 : Cond.instanceMethod ⟨"java/lang/IllegalStateException", "<init>", "(Ljava/lang/String;)V"⟩ ∈ T0 := tb_5 64 rfl rfl
theorem m_5_65 : Cond.code ⟨"java/lang/IllegalStateException", "<init>", "(Ljava/lang/String;)V"⟩ prog_18_method_2_code 2 none ∈ T0 := tb_5 65 rfl rfl
theorem m_5_66 : Cond.methodLink "java/lang/IllegalStateException" 7 ⟨"java/lang/RuntimeException", "<init>", "(Ljava/lang/String;)V"⟩ ∈ T0 := tb_5 66 rfl rfl
def xn : Nat → String
  | 1 => "java/lang/IndexOutOfBoundsException"
  | 2 => "java/lang/IllegalArgumentException"
  | _ => "java/lang/IllegalStateException"
def SR (U : State) : Prop := (∃ a : Nat, vk_R "ZoneFiles" 58 "n is not 1 .. 8" a U) ∧ (∃ a : Nat, vk_R "ZoneFiles" 66 "the tape is full" a U) ∧ (∃ a : Nat, vk_R "ZoneFiles" 340 "there is no such zone" a U) ∧ (∃ a : Nat, vk_R "ZoneFiles" 163 "what is not 0 .. 7" a U) ∧ (∃ a : Nat, vk_R "ZoneFiles" 342 "there is no such number" a U) ∧ (∃ a : Nat, vk_R "ZoneFiles" 195 "what is not 0 .. 5" a U) ∧ (∃ a : Nat, vk_R "ZoneFiles" 348 "this is no instant" a U) ∧ (∃ a : Nat, vk_R "ZoneFiles" 223 "there is no such byte of a name" a U) ∧ (∃ a : Nat, vk_R "ZoneFiles" 250 "there is no such year" a U) ∧ (∃ a : Nat, vk_R "ZoneFiles" 252 "there is no such month" a U) ∧ (∃ a : Nat, vk_R "ZoneFiles" 262 "there is no such day" a U) ∧ (∃ a : Nat, vk_R "ZoneFiles" 264 "there is no such second" a U) ∧ (∃ a : Nat, vk_R "ZoneFiles" 285 "the year is not 1970 .. 2400" a U) ∧ (∃ a : Nat, vk_R "ZoneFiles" 291 "there is no rule with a summer" a U) ∧ (∃ a : Nat, vk_R "ZoneFiles" 296 "there is no such version" a U) ∧ (∃ a : Nat, vk_R "ZoneFiles" 301 "a time needs more than four bytes" a U) ∧ (∃ a : Nat, vk_R "ZoneFiles" 306 "the rule text needs version 51" a U) ∧ (∃ a : Nat, vk_R "ZoneFiles" 321 "there is no table" a U)
theorem SR.warm {s U : State} (hW : s.WarmedH U.vm) (h : SR s) : SR U := by
  obtain ⟨⟨a0, h0⟩, ⟨a1, h1⟩, ⟨a2, h2⟩, ⟨a3, h3⟩, ⟨a4, h4⟩, ⟨a5, h5⟩, ⟨a6, h6⟩, ⟨a7, h7⟩, ⟨a8, h8⟩, ⟨a9, h9⟩, ⟨a10, h10⟩, ⟨a11, h11⟩, ⟨a12, h12⟩, ⟨a13, h13⟩, ⟨a14, h14⟩, ⟨a15, h15⟩, ⟨a16, h16⟩, ⟨a17, h17⟩⟩ := h
  exact ⟨⟨a0, vk_R.warm hW h0⟩, ⟨a1, vk_R.warm hW h1⟩, ⟨a2, vk_R.warm hW h2⟩, ⟨a3, vk_R.warm hW h3⟩, ⟨a4, vk_R.warm hW h4⟩, ⟨a5, vk_R.warm hW h5⟩, ⟨a6, vk_R.warm hW h6⟩, ⟨a7, vk_R.warm hW h7⟩, ⟨a8, vk_R.warm hW h8⟩, ⟨a9, vk_R.warm hW h9⟩, ⟨a10, vk_R.warm hW h10⟩, ⟨a11, vk_R.warm hW h11⟩, ⟨a12, vk_R.warm hW h12⟩, ⟨a13, vk_R.warm hW h13⟩, ⟨a14, vk_R.warm hW h14⟩, ⟨a15, vk_R.warm hW h15⟩, ⟨a16, vk_R.warm hW h16⟩, ⟨a17, vk_R.warm hW h17⟩⟩
theorem SR.same {u U : State} (e : u.vm = U.vm) (h : SR u) : SR U := by
  obtain ⟨⟨a0, h0⟩, ⟨a1, h1⟩, ⟨a2, h2⟩, ⟨a3, h3⟩, ⟨a4, h4⟩, ⟨a5, h5⟩, ⟨a6, h6⟩, ⟨a7, h7⟩, ⟨a8, h8⟩, ⟨a9, h9⟩, ⟨a10, h10⟩, ⟨a11, h11⟩, ⟨a12, h12⟩, ⟨a13, h13⟩, ⟨a14, h14⟩, ⟨a15, h15⟩, ⟨a16, h16⟩, ⟨a17, h17⟩⟩ := h
  exact ⟨⟨a0, vk_R.same e.symm h0⟩, ⟨a1, vk_R.same e.symm h1⟩, ⟨a2, vk_R.same e.symm h2⟩, ⟨a3, vk_R.same e.symm h3⟩, ⟨a4, vk_R.same e.symm h4⟩, ⟨a5, vk_R.same e.symm h5⟩, ⟨a6, vk_R.same e.symm h6⟩, ⟨a7, vk_R.same e.symm h7⟩, ⟨a8, vk_R.same e.symm h8⟩, ⟨a9, vk_R.same e.symm h9⟩, ⟨a10, vk_R.same e.symm h10⟩, ⟨a11, vk_R.same e.symm h11⟩, ⟨a12, vk_R.same e.symm h12⟩, ⟨a13, vk_R.same e.symm h13⟩, ⟨a14, vk_R.same e.symm h14⟩, ⟨a15, vk_R.same e.symm h15⟩, ⟨a16, vk_R.same e.symm h16⟩, ⟨a17, vk_R.same e.symm h17⟩⟩
def th_NC (X Y : String) (U : State) : Prop := ∃ x y, U.vm.findClass X = some x ∧ U.vm.findClass Y = some y ∧ U.vm.assignable x y = false
theorem th_NC.moved {X Y : String} {u U : State} (h : u.vm.Alike U.vm) (z : th_NC X Y u) : th_NC X Y U := by
  obtain ⟨x, y, h1, h2, h3⟩ := z
  exact ⟨x, y, (h.findClass X none).trans h1, (h.findClass Y none).trans h2, (h.assignable x y).trans h3⟩
def th_L (C n d : String) (A : Nat → Prop) (U : State) (H : Heap) : Prop := ∃ (c : ClassId) (k : Class) (i : Nat) (f : Field) (a : Nat) (cell : Cell), U.vm.findClass C = some c ∧ U.fieldFound? C n d = some (c, k, i, f) ∧ f.isStatic = true ∧ k.statics = some a ∧ cell.vm.isStatics = true ∧ cell.cls = c ∧ f.slot < cell.slots.size ∧ k.staticTypes[f.slot]? = some f.type ∧ H[a]? = some cell ∧ ¬ A a
theorem th_L.moved {C n d : String} {A : Nat → Prop} {u U : State} {H : Heap} (hvm : u.vm.Alike U.vm) (h : th_L C n d A u H) : th_L C n d A U H := by
  obtain ⟨c, k, i, f, a, cell, h1, h2, h3, h4, h5, h6, h7, h8, h9, h10⟩ := h
  obtain ⟨k', hi', he⟩ := State.fieldFound?_setVm hvm h2
  exact ⟨c, k', i, f, a, cell, (hvm.findClass C none).trans h1, hi', h3, by rw [he]; exact h4, h5, h6, h7, by rw [he]; exact h8, h9, h10⟩
theorem th_L.kept {C n d : String} {A : Nat → Prop} {U : State} {H H1 : Heap} (h : th_L C n d A U H) (hq : ∀ a : Nat, a < H.size → ¬ A a → H1[a]? = H[a]?) : th_L C n d A U H1 := by
  obtain ⟨c, k, i, f, a, cell, h1, h2, h3, h4, h5, h6, h7, h8, h9, h10⟩ := h
  exact ⟨c, k, i, f, a, cell, h1, h2, h3, h4, h5, h6, h7, h8, by rw [hq a (Array.getElem?_eq_some_iff.mp h9).1 h10]; exact h9, h10⟩
theorem th_L.narrow {C n d : String} {A B : Nat → Prop} {U : State} {H : Heap} (h : th_L C n d A U H) (hAB : ∀ q, B q → A q) : th_L C n d B U H := by
  obtain ⟨c, k, i, f, a, cell, h1, h2, h3, h4, h5, h6, h7, h8, h9, h10⟩ := h
  exact ⟨c, k, i, f, a, cell, h1, h2, h3, h4, h5, h6, h7, h8, h9, fun z => h10 (hAB a z)⟩
theorem th_L.lays {C n d : String} {A : Nat → Prop} {s : State} {args : Array Value} (h : th_L C n d A s s.heap) : (Cond.laysStatic C n d).before args s = true := by
  obtain ⟨c, k, i, f, a, cell, h1, h2, h3, h4, h5, h6, h7, h8, h9, h10⟩ := h
  exact Cond.laysStatic_of h1 h2 h3 h4 h9 h5 h6 h7 h8
theorem th_L.of {C n d : String} {A : Nat → Prop} {s : State} {args : Array Value} (h : (Cond.laysStatic C n d).before args s = true) (hA : ∀ a : Nat, a < s.heap.size → ¬ A a) : th_L C n d A s s.heap := by
  obtain ⟨c, k, i, f, a, cell, hc, hi, hst, ha, hcell, hs, hcls, hlt, hty⟩ := Cond.laysStatic_spec h
  exact ⟨c, k, i, f, a, cell, hc, hi, hst, ha, hs, hcls, hlt, hty, hcell, hA a (Array.getElem?_eq_some_iff.mp hcell).1⟩
def FX (U : State) : Prop := va_Nw (.declares ⟨"java/lang/RuntimeException", "<init>", "(Ljava/lang/String;)V"⟩) U ∧ va_Nw (.declares ⟨"java/lang/Exception", "<init>", "(Ljava/lang/String;)V"⟩) U ∧ va_Nw (.declares ⟨"java/lang/Throwable", "<init>", "(Ljava/lang/String;)V"⟩) U ∧ va_Nw (.castable "java/lang/IndexOutOfBoundsException" "java/lang/IndexOutOfBoundsException") U ∧ va_Nw (.castable "java/lang/IllegalArgumentException" "java/lang/IllegalArgumentException") U ∧ va_Nw (.castable "java/lang/IllegalStateException" "java/lang/IllegalStateException") U ∧ th_NC "java/lang/IndexOutOfBoundsException" "java/lang/IllegalArgumentException" U ∧ th_NC "java/lang/IndexOutOfBoundsException" "java/lang/IllegalStateException" U ∧ th_NC "java/lang/IllegalArgumentException" "java/lang/IndexOutOfBoundsException" U ∧ th_NC "java/lang/IllegalArgumentException" "java/lang/IllegalStateException" U ∧ th_NC "java/lang/IllegalStateException" "java/lang/IndexOutOfBoundsException" U ∧ th_NC "java/lang/IllegalStateException" "java/lang/IllegalArgumentException" U
theorem FX.warm {s U : State} (hW : s.WarmedH U.vm) (h : FX s) : FX U := by
  obtain ⟨h0, h1, h2, h3, h4, h5, h6, h7, h8, h9, h10, h11⟩ := h
  exact ⟨va_Nw.warmD hW h0, va_Nw.warmD hW h1, va_Nw.warmD hW h2, va_Nw.warmC hW h3, va_Nw.warmC hW h4, va_Nw.warmC hW h5, th_NC.moved hW.alike h6, th_NC.moved hW.alike h7, th_NC.moved hW.alike h8, th_NC.moved hW.alike h9, th_NC.moved hW.alike h10, th_NC.moved hW.alike h11⟩
theorem FX.same {u U : State} (e : u.vm = U.vm) (h : FX u) : FX U := by
  have hv : u.vm.Alike U.vm := by rw [e]; exact Vm.Alike.refl _
  obtain ⟨h0, h1, h2, h3, h4, h5, h6, h7, h8, h9, h10, h11⟩ := h
  exact ⟨va_Nw.same rfl e h0, va_Nw.same rfl e h1, va_Nw.same rfl e h2, va_Nw.same rfl e h3, va_Nw.same rfl e h4, va_Nw.same rfl e h5, th_NC.moved hv h6, th_NC.moved hv h7, th_NC.moved hv h8, th_NC.moved hv h9, th_NC.moved hv h10, th_NC.moved hv h11⟩
/-- what a throw needs of the statics and of the constants -/
def XH (A : Nat → Prop) (U : State) (H : Heap) : Prop := va_Zq "java/lang/Throwable" "UNASSIGNED_STACK" "[Ljava/lang/StackTraceElement;" A U H ∧ va_Zq "java/lang/Throwable" "SUPPRESSED_SENTINEL" "Ljava/util/List;" A U H ∧ th_L "java/lang/Throwable" "UNASSIGNED_STACK" "[Ljava/lang/StackTraceElement;" A U H ∧ th_L "java/lang/Throwable" "SUPPRESSED_SENTINEL" "Ljava/util/List;" A U H
def XT (A : Nat → Prop) (U : State) (H : Heap) : Prop := XH A U H ∧ FX U ∧ SR U
theorem XH.moved {A : Nat → Prop} {s U : State} {H : Heap} (hv : s.vm.Alike U.vm) (h : XH A s H) : XH A U H := ⟨h.1.moved hv, h.2.1.moved hv, h.2.2.1.moved hv, h.2.2.2.moved hv⟩
theorem XT.warm {A : Nat → Prop} {s U : State} {H : Heap} (hW : s.WarmedH U.vm) (h : XT A s H) : XT A U H := ⟨h.1.moved hW.alike, h.2.1.warm hW, h.2.2.warm hW⟩
theorem XT.same {A : Nat → Prop} {u U : State} {H : Heap} (e : u.vm = U.vm) (h : XT A u H) : XT A U H := by
  have hv : u.vm.Alike U.vm := by rw [e]; exact Vm.Alike.refl _
  exact ⟨h.1.moved hv, h.2.1.same e, h.2.2.same e⟩
theorem XT.kept {A : Nat → Prop} {U : State} {H H1 : Heap} (h : XT A U H) (hq : ∀ a : Nat, a < H.size → ¬ A a → H1[a]? = H[a]?) : XT A U H1 := ⟨⟨h.1.1.kept hq, h.1.2.1.kept hq, h.1.2.2.1.kept hq, h.1.2.2.2.kept hq⟩, h.2⟩
theorem XT.narrow {A B : Nat → Prop} {U : State} {H : Heap} (h : XT A U H) (hAB : ∀ q, B q → A q) : XT B U H := ⟨⟨h.1.1.narrow hAB, h.1.2.1.narrow hAB, h.1.2.2.1.narrow hAB, h.1.2.2.2.narrow hAB⟩, h.2⟩
theorem XT.ro {A : Nat → Prop} {s : State} {H : Heap} {locs : List Loc} (h : XT A s s.heap) (hS : va_S A s.heap H locs) : XT (fun _ => False) s H := (h.kept hS.2.1).narrow (fun _ h => h.elim)
theorem zq_ref {C n d : String} {A : Nat → Prop} {s : State} {args : Array Value} (h : va_Zq C n d A s s.heap) : (Cond.isRef (.static C n d)).before args s = true := by
  rcases h with ⟨cf, kf, fi, f, a, cell, h1, h2, h3, h4, h5, h6, h7, -⟩ | ⟨t, cf, kf, fi, f, a, cell, h1, h2, h3, h4, h5, h6, h7, -⟩ <;>
    simp [Cond.before, Cond.holds, Cond.value, Term.eval, State.fieldNamed?, h1, h2, h4, h5, h6, h7, Value.isRef]
theorem fc {α : Type} {P : α → Prop} {a : α} {l : List α} (h : P a) (t : ∀ x ∈ l, P x) : ∀ x ∈ a :: l, P x := List.forall_mem_cons.mpr ⟨h, t⟩
theorem fnil {α : Type} {P : α → Prop} : ∀ x ∈ ([] : List α), P x := fun _ h => by cases h
theorem xa_1 {args : Array Value} {s : State} (hts : ∀ w ∈ T0, w.before args s = true) (hXT : XT (fun _ => False) s s.heap) : ∀ a ∈ Bundle.ownAtoms "ZoneFiles" 165 "java/lang/IndexOutOfBoundsException" ["java/lang/RuntimeException", "java/lang/Exception"], a.before args s = true :=
  List.forall_mem_append.mpr ⟨List.forall_mem_append.mpr ⟨List.forall_mem_append.mpr ⟨(fc (hts _ m_1_11) (fc (hts _ m_3_76) (fc (hts _ m_3_85) (fc (hts _ m_3_89) (fc (hts _ m_3_92) (fc (hts _ m_3_94) (fc (hts _ m_3_77) (fc (hts _ m_3_78) (fc (hts _ m_1_29) (fc (hts _ m_1_30) (fc (hts _ m_3_79) (fc (hts _ m_3_84) (fc (hts _ m_3_90) (fc (hts _ m_3_110) (fc (hts _ m_3_66) (fc (hts _ m_3_111) (fc (hts _ m_3_68) (fc (hts _ m_3_112) (fc (hts _ m_3_70) (fc (hts _ m_3_80) (fc (th_L.lays hXT.1.2.2.1) (fc (hts _ m_3_82) (fc (th_L.lays hXT.1.2.2.2) (fc (hts _ m_3_72) fnil)))))))))))))))))))))))), (fc (hts _ m_3_106) (fc (hts _ m_3_107) (fc (hts _ m_3_109) (fc (hts _ m_3_72) fnil))))⟩, List.forall_mem_append.mpr ⟨(fc (hts _ m_3_145) (fc (hts _ m_3_146) (fc (hts _ m_3_147) (fc (hts _ m_3_100) (fc (va_Nw.use rfl hXT.2.1.1) fnil))))), List.forall_mem_append.mpr ⟨(fc (hts _ m_3_100) (fc (hts _ m_3_101) (fc (hts _ m_3_102) (fc (hts _ m_3_103) (fc (va_Nw.use rfl hXT.2.1.2.1) fnil))))), (fc (hts _ m_3_103) (fc (hts _ m_3_104) (fc (hts _ m_3_105) (fc (hts _ m_3_106) (fc (va_Nw.use rfl hXT.2.1.2.2.1) fnil)))))⟩⟩⟩, (fc (hts _ m_3_144) (fc (hts _ m_3_135) (fc (va_Nw.use rfl hXT.2.1.2.2.2.1) (fc (hts _ m_3_137) (fc (hts _ m_3_88) (fc (hts _ m_3_138) (fc (hts _ m_3_139) (fc (hts _ m_3_140) (fc (hts _ m_3_141) (fc (zq_ref hXT.1.1) (fc (zq_ref hXT.1.2.1) (fc (hts _ m_3_75) (fc (hts _ m_3_74) (fc (hts _ m_3_142) fnil))))))))))))))⟩
theorem xa_2 {args : Array Value} {s : State} (hts : ∀ w ∈ T0, w.before args s = true) (hXT : XT (fun _ => False) s s.heap) : ∀ a ∈ Bundle.ownAtoms "ZoneFiles" 60 "java/lang/IllegalArgumentException" ["java/lang/RuntimeException", "java/lang/Exception"], a.before args s = true :=
  List.forall_mem_append.mpr ⟨List.forall_mem_append.mpr ⟨List.forall_mem_append.mpr ⟨(fc (hts _ m_1_11) (fc (hts _ m_3_76) (fc (hts _ m_3_85) (fc (hts _ m_3_89) (fc (hts _ m_3_92) (fc (hts _ m_3_94) (fc (hts _ m_3_77) (fc (hts _ m_3_78) (fc (hts _ m_1_29) (fc (hts _ m_1_30) (fc (hts _ m_3_79) (fc (hts _ m_3_84) (fc (hts _ m_3_90) (fc (hts _ m_3_110) (fc (hts _ m_3_66) (fc (hts _ m_3_111) (fc (hts _ m_3_68) (fc (hts _ m_3_112) (fc (hts _ m_3_70) (fc (hts _ m_3_80) (fc (th_L.lays hXT.1.2.2.1) (fc (hts _ m_3_82) (fc (th_L.lays hXT.1.2.2.2) (fc (hts _ m_3_72) fnil)))))))))))))))))))))))), (fc (hts _ m_3_106) (fc (hts _ m_3_107) (fc (hts _ m_3_109) (fc (hts _ m_3_72) fnil))))⟩, List.forall_mem_append.mpr ⟨(fc (hts _ m_3_97) (fc (hts _ m_3_98) (fc (hts _ m_3_99) (fc (hts _ m_3_100) (fc (va_Nw.use rfl hXT.2.1.1) fnil))))), List.forall_mem_append.mpr ⟨(fc (hts _ m_3_100) (fc (hts _ m_3_101) (fc (hts _ m_3_102) (fc (hts _ m_3_103) (fc (va_Nw.use rfl hXT.2.1.2.1) fnil))))), (fc (hts _ m_3_103) (fc (hts _ m_3_104) (fc (hts _ m_3_105) (fc (hts _ m_3_106) (fc (va_Nw.use rfl hXT.2.1.2.2.1) fnil)))))⟩⟩⟩, (fc (hts _ m_3_96) (fc (hts _ m_3_55) (fc (va_Nw.use rfl hXT.2.1.2.2.2.2.1) (fc (hts _ m_3_63) (fc (hts _ m_3_64) (fc (hts _ m_3_65) (fc (hts _ m_3_67) (fc (hts _ m_3_69) (fc (hts _ m_3_71) (fc (zq_ref hXT.1.1) (fc (zq_ref hXT.1.2.1) (fc (hts _ m_3_75) (fc (hts _ m_3_74) (fc (hts _ m_3_73) fnil))))))))))))))⟩
theorem xa_3 {args : Array Value} {s : State} (hts : ∀ w ∈ T0, w.before args s = true) (hXT : XT (fun _ => False) s s.heap) : ∀ a ∈ Bundle.ownAtoms "ZoneFiles" 225 "java/lang/IllegalStateException" ["java/lang/RuntimeException", "java/lang/Exception"], a.before args s = true :=
  List.forall_mem_append.mpr ⟨List.forall_mem_append.mpr ⟨List.forall_mem_append.mpr ⟨(fc (hts _ m_1_11) (fc (hts _ m_3_76) (fc (hts _ m_3_85) (fc (hts _ m_3_89) (fc (hts _ m_3_92) (fc (hts _ m_3_94) (fc (hts _ m_3_77) (fc (hts _ m_3_78) (fc (hts _ m_1_29) (fc (hts _ m_1_30) (fc (hts _ m_3_79) (fc (hts _ m_3_84) (fc (hts _ m_3_90) (fc (hts _ m_3_110) (fc (hts _ m_3_66) (fc (hts _ m_3_111) (fc (hts _ m_3_68) (fc (hts _ m_3_112) (fc (hts _ m_3_70) (fc (hts _ m_3_80) (fc (th_L.lays hXT.1.2.2.1) (fc (hts _ m_3_82) (fc (th_L.lays hXT.1.2.2.2) (fc (hts _ m_3_72) fnil)))))))))))))))))))))))), (fc (hts _ m_3_106) (fc (hts _ m_3_107) (fc (hts _ m_3_109) (fc (hts _ m_3_72) fnil))))⟩, List.forall_mem_append.mpr ⟨(fc (hts _ m_5_64) (fc (hts _ m_5_65) (fc (hts _ m_5_66) (fc (hts _ m_3_100) (fc (va_Nw.use rfl hXT.2.1.1) fnil))))), List.forall_mem_append.mpr ⟨(fc (hts _ m_3_100) (fc (hts _ m_3_101) (fc (hts _ m_3_102) (fc (hts _ m_3_103) (fc (va_Nw.use rfl hXT.2.1.2.1) fnil))))), (fc (hts _ m_3_103) (fc (hts _ m_3_104) (fc (hts _ m_3_105) (fc (hts _ m_3_106) (fc (va_Nw.use rfl hXT.2.1.2.2.1) fnil)))))⟩⟩⟩, (fc (hts _ m_5_63) (fc (hts _ m_5_54) (fc (va_Nw.use rfl hXT.2.1.2.2.2.2.2.1) (fc (hts _ m_5_56) (fc (hts _ m_3_87) (fc (hts _ m_5_57) (fc (hts _ m_5_58) (fc (hts _ m_5_59) (fc (hts _ m_5_60) (fc (zq_ref hXT.1.1) (fc (zq_ref hXT.1.2.1) (fc (hts _ m_3_75) (fc (hts _ m_3_74) (fc (hts _ m_5_61) fnil))))))))))))))⟩
def orT (t r : Option Nat) : Option Nat := match t with
  | some k => some k
  | none => r
theorem orT_c {t r : Option Nat} {k : Nat} (h : orT t r = some k) : t = some k ∨ r = some k := by
  cases t with
  | none => exact Or.inr h
  | some j => exact Or.inl h
def ROX (dC : Nat → ClassId) (dI : Nat → Nat → Nat) (ws : va_W) (tys : List (ClassId × FieldType)) (av : List Value) : Array Value → State → Prop :=
  va_Pc av (fun U => va_P (dC, dI) classes ws U.heap ∧ va_K (dC, dI) classes tys U ∧ ST (fun _ => False) U U.heap ∧ XT (fun _ => False) U U.heap)
section
variable {s : State} {H : Heap} {dC : Nat → ClassId} {dI : Nat → Nat → Nat} {ws : va_W} {tys : List (ClassId × FieldType)} {av : List Value} {b : Addr} {As : List Value} {C : String}
theorem ROX.blind : FrameBlind (ROX dC dI ws tys av) := fun a U g mk q => by
  obtain ⟨q0, qP, qK, qS, qX⟩ := q
  exact ⟨q0, qP, va_K.moved (u := U) (U := U.calling g mk a) (Vm.Alike.refl U.vm) qK, ST.same (u := U) (U := U.calling g mk a) rfl qS, XT.same (u := U) (U := U.calling g mk a) rfl qX⟩
theorem ROXsta (h : ROat s H dC dI ws tys) (hX : XT (fun _ => False) s H) : PreS s H (ROX dC dI ws tys As) As :=
  ⟨ROX.blind, fun U hU hW => ⟨rfl, by rw [hU]; exact h.1, va_K.moved hW.alike h.2.1, by rw [hU]; exact ST.warm hW h.2.2, by rw [hU]; exact XT.warm hW hX⟩⟩
theorem ROXvir (h : ROat s H dC dI ws tys) (hX : XT (fun _ => False) s H) (hr : ∃ cellB : Cell, H[b]? = some cellB ∧ cellB.vm.isStatics = false ∧ s.vm.findClass C = some cellB.cls) : PreV s H C b (ROX dC dI ws tys (.ref b :: As)) As :=
  ⟨ROX.blind, hr, fun U hU hW => ⟨rfl, by rw [hU]; exact h.1, va_K.moved hW.alike h.2.1, by rw [hU]; exact ST.warm hW h.2.2, by rw [hU]; exact XT.warm hW hX⟩⟩
end
/-- a contract of a method that throws, out of the walk of its body -/
theorem met_TX {l : Launch} {y : MethodName} {b : ByteArray} {nL F Lc : Nat} {ret : Option FieldType} {X : String} {dC : Nat → ClassId} {dI : Nat → Nat → Nat} {ws : va_W} {tys : List (ClassId × FieldType)} {av : List Value} (hy : plainFor y = true) (hn : (lg_sl av).length ≤ nL)
    (hbody : ∀ (p : Program) (e : Env) (R : Room) (s : State) (m : MethodId) (args : Array Value) (below : List Frame) (meth : Method) (c : Code) (ls : Array Slot), 1 ≤ R.cells → 6 ≤ R.slots → c.exceptionTable.isEmpty = true → Cx p s m meth c args R b y.cls nL ret F Lc → ST (fun _ => False) s s.heap → XT (fun _ => False) s s.heap → va_K (dC, dI) classes tys s → va_P (dC, dI) classes ws s.heap → lv_has ls nL (lv_args 0 av) →
      W p l e R s m args below meth c s.heap [] 0 0 (MQT below (TQ X) args s 1 6) (F0 m 0 ls [])) : MetT l y (wd y b nL ret) ({ frames := F, cells := 1, slots := 6, locals := Lc }) (ROX dC dI ws tys av) (TQ X) 1 6 := by
  refine met_T (cc := b) (maxL := nL) (ret := ret) hy rfl ?_
  intro p e s m args below meth c s₁ B hml0 hemp hv
  obtain ⟨ha, hP, hK, hST, hXT⟩ := hv
  have C0 := Cx.of B hml0
  have ef : entryFrame m args nL = F0 m 0 ((lg_sl av ++ List.replicate (nL - (lg_sl av).length) Slot.unset).toArray) [] := by rw [ha]; exact lg_entry_eq _ _ _
  rw [ef]
  exact hbody p e _ s m args below meth c _ (Nat.le_refl _) (Nat.le_refl _) hemp C0 hST hXT hK hP (lv_entry av hn)

