theorem m_8_112 : Cond.methodLink "ZoneFilesModel" 467 ⟨"ZoneFilesModel", "fitsShort", "(I)Z"⟩ ∈ T0 := tb_8 112 rfl rfl
theorem m_8_114 : Cond.instanceMethod ⟨"ZoneFilesModel", "fitsShort", "(I)Z"⟩ ∈ T0 := tb_8 114 rfl rfl
theorem m_8_115 : Cond.code ⟨"ZoneFilesModel", "fitsShort", "(I)Z"⟩ prog_14_method_73_code 4 (some .boolean) ∈ T0 := tb_8 115 rfl rfl
theorem m_8_116 : Cond.methodLink "ZoneFilesModel" 470 ⟨"ZoneFilesModel", "isNarrow", "(I)Z"⟩ ∈ T0 := tb_8 116 rfl rfl
theorem m_8_118 : Cond.instanceMethod ⟨"ZoneFilesModel", "isNarrow", "(I)Z"⟩ ∈ T0 := tb_8 118 rfl rfl
theorem m_8_119 : Cond.code ⟨"ZoneFilesModel", "isNarrow", "(I)Z"⟩ prog_14_method_74_code 5 (some .boolean) ∈ T0 := tb_8 119 rfl rfl
theorem m_8_120 : Cond.methodLink "ZoneFilesModel" 473 ⟨"ZoneFilesModel", "putHeader", "(IIIIIII)V"⟩ ∈ T0 := tb_8 120 rfl rfl
theorem m_8_122 : Cond.instanceMethod ⟨"ZoneFilesModel", "putHeader", "(IIIIIII)V"⟩ ∈ T0 := tb_8 122 rfl rfl
theorem m_8_123 : Cond.code ⟨"ZoneFilesModel", "putHeader", "(IIIIIII)V"⟩ prog_14_method_71_code 9 none ∈ T0 := tb_8 123 rfl rfl
theorem m_8_128 : Cond.methodLink "ZoneFilesModel" 477 ⟨"ZoneFilesModel", "putBlock", "(II)V"⟩ ∈ T0 := tb_8 128 rfl rfl
theorem m_8_130 : Cond.instanceMethod ⟨"ZoneFilesModel", "putBlock", "(II)V"⟩ ∈ T0 := tb_8 130 rfl rfl
theorem m_8_131 : Cond.code ⟨"ZoneFilesModel", "putBlock", "(II)V"⟩ prog_14_method_72_code 4 none ∈ T0 := tb_8 131 rfl rfl
theorem m_8_132 : Cond.constantLong "ZoneFilesModel" 480 10 ∈ T0 := tb_8 132 rfl rfl
theorem msel_92 : Cond.selects "ZoneFilesModel" ⟨"ZoneFilesModel", "fitsShort", "(I)Z"⟩ ⟨"ZoneFilesModel", "fitsShort", "(I)Z"⟩ ∈ T0 := ps_6 (q := (⟨"ZoneFilesModel", "fitsShort", "(I)Z"⟩, 72)) 12 rfl
theorem msel_93 : Cond.selects "ZoneFilesModel" ⟨"ZoneFilesModel", "isNarrow", "(I)Z"⟩ ⟨"ZoneFilesModel", "isNarrow", "(I)Z"⟩ ∈ T0 := ps_6 (q := (⟨"ZoneFilesModel", "isNarrow", "(I)Z"⟩, 72)) 13 rfl
theorem msel_94 : Cond.selects "ZoneFilesModel" ⟨"ZoneFilesModel", "putHeader", "(IIIIIII)V"⟩ ⟨"ZoneFilesModel", "putHeader", "(IIIIIII)V"⟩ ∈ T0 := ps_6 (q := (⟨"ZoneFilesModel", "putHeader", "(IIIIIII)V"⟩, 72)) 14 rfl
theorem msel_96 : Cond.selects "ZoneFilesModel" ⟨"ZoneFilesModel", "putBlock", "(II)V"⟩ ⟨"ZoneFilesModel", "putBlock", "(II)V"⟩ ∈ T0 := ps_7 (q := (⟨"ZoneFilesModel", "putBlock", "(II)V"⟩, 72)) 0 rfl
abbrev b_Mo_putBlock : ByteArray := prog_14_method_72_code
def y_Mo_putBlock : MethodName := ⟨"ZoneFilesModel", "putBlock", "(II)V"⟩
theorem d_Mo_putBlock_0 : decode b_Mo_putBlock 0 = .ok (.sipush 200, 3) := by decide +kernel
theorem d_Mo_putBlock_3 : decode b_Mo_putBlock 3 = .ok (.iload_n 1, 1) := by decide +kernel
theorem d_Mo_putBlock_4 : decode b_Mo_putBlock 4 = .ok (.imul, 1) := by decide +kernel
theorem d_Mo_putBlock_5 : decode b_Mo_putBlock 5 = .ok (.istore_n 3, 1) := by decide +kernel
theorem d_Mo_putBlock_6 : decode b_Mo_putBlock 6 = .ok (.iload_n 3, 1) := by decide +kernel
theorem d_Mo_putBlock_7 : decode b_Mo_putBlock 7 = .ok (.sipush 200, 3) := by decide +kernel
theorem d_Mo_putBlock_10 : decode b_Mo_putBlock 10 = .ok (.iload_n 1, 1) := by decide +kernel
theorem d_Mo_putBlock_11 : decode b_Mo_putBlock 11 = .ok (.imul, 1) := by decide +kernel
theorem d_Mo_putBlock_12 : decode b_Mo_putBlock 12 = .ok (.aload_n 0, 1) := by decide +kernel
theorem d_Mo_putBlock_13 : decode b_Mo_putBlock 13 = .ok (.getfield 20, 3) := by decide +kernel
theorem d_Mo_putBlock_16 : decode b_Mo_putBlock 16 = .ok (.iload_n 1, 1) := by decide +kernel
theorem d_Mo_putBlock_17 : decode b_Mo_putBlock 17 = .ok (.iaload, 1) := by decide +kernel
theorem d_Mo_putBlock_18 : decode b_Mo_putBlock 18 = .ok (.iadd, 1) := by decide +kernel
theorem d_Mo_putBlock_19 : decode b_Mo_putBlock 19 = .ok (.if_icmp .ge 20, 3) := by decide +kernel
theorem d_Mo_putBlock_22 : decode b_Mo_putBlock 22 = .ok (.aload_n 0, 1) := by decide +kernel
theorem d_Mo_putBlock_23 : decode b_Mo_putBlock 23 = .ok (.aload_n 0, 1) := by decide +kernel
theorem d_Mo_putBlock_24 : decode b_Mo_putBlock 24 = .ok (.getfield 41, 3) := by decide +kernel
theorem d_Mo_putBlock_27 : decode b_Mo_putBlock 27 = .ok (.iload_n 3, 1) := by decide +kernel
theorem d_Mo_putBlock_28 : decode b_Mo_putBlock 28 = .ok (.laload, 1) := by decide +kernel
theorem d_Mo_putBlock_29 : decode b_Mo_putBlock 29 = .ok (.iload_n 2, 1) := by decide +kernel
theorem d_Mo_putBlock_30 : decode b_Mo_putBlock 30 = .ok (.invokevirtual 463, 3) := by decide +kernel
theorem d_Mo_putBlock_33 : decode b_Mo_putBlock 33 = .ok (.iinc 3 1, 3) := by decide +kernel
theorem d_Mo_putBlock_36 : decode b_Mo_putBlock 36 = .ok (.goto (-30), 3) := by decide +kernel
theorem d_Mo_putBlock_39 : decode b_Mo_putBlock 39 = .ok (.sipush 200, 3) := by decide +kernel
theorem d_Mo_putBlock_42 : decode b_Mo_putBlock 42 = .ok (.iload_n 1, 1) := by decide +kernel
theorem d_Mo_putBlock_43 : decode b_Mo_putBlock 43 = .ok (.imul, 1) := by decide +kernel
theorem d_Mo_putBlock_44 : decode b_Mo_putBlock 44 = .ok (.istore_n 3, 1) := by decide +kernel
theorem d_Mo_putBlock_45 : decode b_Mo_putBlock 45 = .ok (.iload_n 3, 1) := by decide +kernel
theorem d_Mo_putBlock_46 : decode b_Mo_putBlock 46 = .ok (.sipush 200, 3) := by decide +kernel
theorem d_Mo_putBlock_49 : decode b_Mo_putBlock 49 = .ok (.iload_n 1, 1) := by decide +kernel
theorem d_Mo_putBlock_50 : decode b_Mo_putBlock 50 = .ok (.imul, 1) := by decide +kernel
theorem d_Mo_putBlock_51 : decode b_Mo_putBlock 51 = .ok (.aload_n 0, 1) := by decide +kernel
theorem d_Mo_putBlock_52 : decode b_Mo_putBlock 52 = .ok (.getfield 20, 3) := by decide +kernel
theorem d_Mo_putBlock_55 : decode b_Mo_putBlock 55 = .ok (.iload_n 1, 1) := by decide +kernel
theorem d_Mo_putBlock_56 : decode b_Mo_putBlock 56 = .ok (.iaload, 1) := by decide +kernel
theorem d_Mo_putBlock_57 : decode b_Mo_putBlock 57 = .ok (.iadd, 1) := by decide +kernel
theorem d_Mo_putBlock_58 : decode b_Mo_putBlock 58 = .ok (.if_icmp .ge 21, 3) := by decide +kernel
theorem d_Mo_putBlock_61 : decode b_Mo_putBlock 61 = .ok (.aload_n 0, 1) := by decide +kernel
theorem d_Mo_putBlock_62 : decode b_Mo_putBlock 62 = .ok (.aload_n 0, 1) := by decide +kernel
theorem d_Mo_putBlock_63 : decode b_Mo_putBlock 63 = .ok (.getfield 45, 3) := by decide +kernel
theorem d_Mo_putBlock_66 : decode b_Mo_putBlock 66 = .ok (.iload_n 3, 1) := by decide +kernel
theorem d_Mo_putBlock_67 : decode b_Mo_putBlock 67 = .ok (.iaload, 1) := by decide +kernel
theorem d_Mo_putBlock_68 : decode b_Mo_putBlock 68 = .ok (.i2l, 1) := by decide +kernel
theorem d_Mo_putBlock_69 : decode b_Mo_putBlock 69 = .ok (.iconst 1, 1) := by decide +kernel
theorem d_Mo_putBlock_70 : decode b_Mo_putBlock 70 = .ok (.invokevirtual 463, 3) := by decide +kernel
theorem d_Mo_putBlock_73 : decode b_Mo_putBlock 73 = .ok (.iinc 3 1, 3) := by decide +kernel
theorem d_Mo_putBlock_76 : decode b_Mo_putBlock 76 = .ok (.goto (-31), 3) := by decide +kernel
theorem d_Mo_putBlock_79 : decode b_Mo_putBlock 79 = .ok (.bipush 40, 2) := by decide +kernel
theorem d_Mo_putBlock_81 : decode b_Mo_putBlock 81 = .ok (.iload_n 1, 1) := by decide +kernel
theorem d_Mo_putBlock_82 : decode b_Mo_putBlock 82 = .ok (.imul, 1) := by decide +kernel
theorem d_Mo_putBlock_83 : decode b_Mo_putBlock 83 = .ok (.istore_n 3, 1) := by decide +kernel
theorem d_Mo_putBlock_84 : decode b_Mo_putBlock 84 = .ok (.iload_n 3, 1) := by decide +kernel
theorem d_Mo_putBlock_85 : decode b_Mo_putBlock 85 = .ok (.bipush 40, 2) := by decide +kernel
theorem d_Mo_putBlock_87 : decode b_Mo_putBlock 87 = .ok (.iload_n 1, 1) := by decide +kernel
theorem d_Mo_putBlock_88 : decode b_Mo_putBlock 88 = .ok (.imul, 1) := by decide +kernel
theorem d_Mo_putBlock_89 : decode b_Mo_putBlock 89 = .ok (.aload_n 0, 1) := by decide +kernel
theorem d_Mo_putBlock_90 : decode b_Mo_putBlock 90 = .ok (.getfield 23, 3) := by decide +kernel
theorem d_Mo_putBlock_93 : decode b_Mo_putBlock 93 = .ok (.iload_n 1, 1) := by decide +kernel
theorem d_Mo_putBlock_94 : decode b_Mo_putBlock 94 = .ok (.iaload, 1) := by decide +kernel
theorem d_Mo_putBlock_95 : decode b_Mo_putBlock 95 = .ok (.iadd, 1) := by decide +kernel
theorem d_Mo_putBlock_96 : decode b_Mo_putBlock 96 = .ok (.if_icmp .ge 45, 3) := by decide +kernel
theorem d_Mo_putBlock_99 : decode b_Mo_putBlock 99 = .ok (.aload_n 0, 1) := by decide +kernel
theorem d_Mo_putBlock_100 : decode b_Mo_putBlock 100 = .ok (.aload_n 0, 1) := by decide +kernel
theorem d_Mo_putBlock_101 : decode b_Mo_putBlock 101 = .ok (.getfield 48, 3) := by decide +kernel
theorem d_Mo_putBlock_104 : decode b_Mo_putBlock 104 = .ok (.iload_n 3, 1) := by decide +kernel
theorem d_Mo_putBlock_105 : decode b_Mo_putBlock 105 = .ok (.iaload, 1) := by decide +kernel
theorem d_Mo_putBlock_106 : decode b_Mo_putBlock 106 = .ok (.i2l, 1) := by decide +kernel
theorem d_Mo_putBlock_107 : decode b_Mo_putBlock 107 = .ok (.iconst 4, 1) := by decide +kernel
theorem d_Mo_putBlock_108 : decode b_Mo_putBlock 108 = .ok (.invokevirtual 463, 3) := by decide +kernel
theorem d_Mo_putBlock_111 : decode b_Mo_putBlock 111 = .ok (.aload_n 0, 1) := by decide +kernel
theorem d_Mo_putBlock_112 : decode b_Mo_putBlock 112 = .ok (.aload_n 0, 1) := by decide +kernel
theorem d_Mo_putBlock_113 : decode b_Mo_putBlock 113 = .ok (.getfield 51, 3) := by decide +kernel
theorem d_Mo_putBlock_116 : decode b_Mo_putBlock 116 = .ok (.iload_n 3, 1) := by decide +kernel
theorem d_Mo_putBlock_117 : decode b_Mo_putBlock 117 = .ok (.iaload, 1) := by decide +kernel
theorem d_Mo_putBlock_118 : decode b_Mo_putBlock 118 = .ok (.i2l, 1) := by decide +kernel
theorem d_Mo_putBlock_119 : decode b_Mo_putBlock 119 = .ok (.iconst 1, 1) := by decide +kernel
theorem d_Mo_putBlock_120 : decode b_Mo_putBlock 120 = .ok (.invokevirtual 463, 3) := by decide +kernel
theorem d_Mo_putBlock_123 : decode b_Mo_putBlock 123 = .ok (.aload_n 0, 1) := by decide +kernel
theorem d_Mo_putBlock_124 : decode b_Mo_putBlock 124 = .ok (.aload_n 0, 1) := by decide +kernel
theorem d_Mo_putBlock_125 : decode b_Mo_putBlock 125 = .ok (.getfield 54, 3) := by decide +kernel
theorem d_Mo_putBlock_128 : decode b_Mo_putBlock 128 = .ok (.iload_n 3, 1) := by decide +kernel
theorem d_Mo_putBlock_129 : decode b_Mo_putBlock 129 = .ok (.iaload, 1) := by decide +kernel
theorem d_Mo_putBlock_130 : decode b_Mo_putBlock 130 = .ok (.i2l, 1) := by decide +kernel
theorem d_Mo_putBlock_131 : decode b_Mo_putBlock 131 = .ok (.iconst 1, 1) := by decide +kernel
theorem d_Mo_putBlock_132 : decode b_Mo_putBlock 132 = .ok (.invokevirtual 463, 3) := by decide +kernel
theorem d_Mo_putBlock_135 : decode b_Mo_putBlock 135 = .ok (.iinc 3 1, 3) := by decide +kernel
theorem d_Mo_putBlock_138 : decode b_Mo_putBlock 138 = .ok (.goto (-54), 3) := by decide +kernel
theorem d_Mo_putBlock_141 : decode b_Mo_putBlock 141 = .ok (.sipush 200, 3) := by decide +kernel
theorem d_Mo_putBlock_144 : decode b_Mo_putBlock 144 = .ok (.iload_n 1, 1) := by decide +kernel
theorem d_Mo_putBlock_145 : decode b_Mo_putBlock 145 = .ok (.imul, 1) := by decide +kernel
theorem d_Mo_putBlock_146 : decode b_Mo_putBlock 146 = .ok (.istore_n 3, 1) := by decide +kernel
theorem d_Mo_putBlock_147 : decode b_Mo_putBlock 147 = .ok (.iload_n 3, 1) := by decide +kernel
theorem d_Mo_putBlock_148 : decode b_Mo_putBlock 148 = .ok (.sipush 200, 3) := by decide +kernel
theorem d_Mo_putBlock_151 : decode b_Mo_putBlock 151 = .ok (.iload_n 1, 1) := by decide +kernel
theorem d_Mo_putBlock_152 : decode b_Mo_putBlock 152 = .ok (.imul, 1) := by decide +kernel
theorem d_Mo_putBlock_153 : decode b_Mo_putBlock 153 = .ok (.aload_n 0, 1) := by decide +kernel
theorem d_Mo_putBlock_154 : decode b_Mo_putBlock 154 = .ok (.getfield 26, 3) := by decide +kernel
theorem d_Mo_putBlock_157 : decode b_Mo_putBlock 157 = .ok (.iload_n 1, 1) := by decide +kernel
theorem d_Mo_putBlock_158 : decode b_Mo_putBlock 158 = .ok (.iaload, 1) := by decide +kernel
theorem d_Mo_putBlock_159 : decode b_Mo_putBlock 159 = .ok (.iadd, 1) := by decide +kernel
theorem d_Mo_putBlock_160 : decode b_Mo_putBlock 160 = .ok (.if_icmp .ge 21, 3) := by decide +kernel
theorem d_Mo_putBlock_163 : decode b_Mo_putBlock 163 = .ok (.aload_n 0, 1) := by decide +kernel
theorem d_Mo_putBlock_164 : decode b_Mo_putBlock 164 = .ok (.aload_n 0, 1) := by decide +kernel
theorem d_Mo_putBlock_165 : decode b_Mo_putBlock 165 = .ok (.getfield 57, 3) := by decide +kernel
theorem d_Mo_putBlock_168 : decode b_Mo_putBlock 168 = .ok (.iload_n 3, 1) := by decide +kernel
theorem d_Mo_putBlock_169 : decode b_Mo_putBlock 169 = .ok (.iaload, 1) := by decide +kernel
theorem d_Mo_putBlock_170 : decode b_Mo_putBlock 170 = .ok (.i2l, 1) := by decide +kernel
theorem d_Mo_putBlock_171 : decode b_Mo_putBlock 171 = .ok (.iconst 1, 1) := by decide +kernel
theorem d_Mo_putBlock_172 : decode b_Mo_putBlock 172 = .ok (.invokevirtual 463, 3) := by decide +kernel
theorem d_Mo_putBlock_175 : decode b_Mo_putBlock 175 = .ok (.iinc 3 1, 3) := by decide +kernel
theorem d_Mo_putBlock_178 : decode b_Mo_putBlock 178 = .ok (.goto (-31), 3) := by decide +kernel
theorem d_Mo_putBlock_181 : decode b_Mo_putBlock 181 = .ok (.bipush 40, 2) := by decide +kernel
theorem d_Mo_putBlock_183 : decode b_Mo_putBlock 183 = .ok (.iload_n 1, 1) := by decide +kernel
theorem d_Mo_putBlock_184 : decode b_Mo_putBlock 184 = .ok (.imul, 1) := by decide +kernel
theorem d_Mo_putBlock_185 : decode b_Mo_putBlock 185 = .ok (.istore_n 3, 1) := by decide +kernel
theorem d_Mo_putBlock_186 : decode b_Mo_putBlock 186 = .ok (.iload_n 3, 1) := by decide +kernel
theorem d_Mo_putBlock_187 : decode b_Mo_putBlock 187 = .ok (.bipush 40, 2) := by decide +kernel
theorem d_Mo_putBlock_189 : decode b_Mo_putBlock 189 = .ok (.iload_n 1, 1) := by decide +kernel
theorem d_Mo_putBlock_190 : decode b_Mo_putBlock 190 = .ok (.imul, 1) := by decide +kernel
theorem d_Mo_putBlock_191 : decode b_Mo_putBlock 191 = .ok (.aload_n 0, 1) := by decide +kernel
theorem d_Mo_putBlock_192 : decode b_Mo_putBlock 192 = .ok (.getfield 29, 3) := by decide +kernel
theorem d_Mo_putBlock_195 : decode b_Mo_putBlock 195 = .ok (.iload_n 1, 1) := by decide +kernel
theorem d_Mo_putBlock_196 : decode b_Mo_putBlock 196 = .ok (.iaload, 1) := by decide +kernel
theorem d_Mo_putBlock_197 : decode b_Mo_putBlock 197 = .ok (.iadd, 1) := by decide +kernel
theorem d_Mo_putBlock_198 : decode b_Mo_putBlock 198 = .ok (.if_icmp .ge 31, 3) := by decide +kernel
theorem d_Mo_putBlock_201 : decode b_Mo_putBlock 201 = .ok (.aload_n 0, 1) := by decide +kernel
theorem d_Mo_putBlock_202 : decode b_Mo_putBlock 202 = .ok (.aload_n 0, 1) := by decide +kernel
theorem d_Mo_putBlock_203 : decode b_Mo_putBlock 203 = .ok (.getfield 60, 3) := by decide +kernel
theorem d_Mo_putBlock_206 : decode b_Mo_putBlock 206 = .ok (.iload_n 3, 1) := by decide +kernel
theorem d_Mo_putBlock_207 : decode b_Mo_putBlock 207 = .ok (.laload, 1) := by decide +kernel
theorem d_Mo_putBlock_208 : decode b_Mo_putBlock 208 = .ok (.iload_n 2, 1) := by decide +kernel
theorem d_Mo_putBlock_209 : decode b_Mo_putBlock 209 = .ok (.invokevirtual 463, 3) := by decide +kernel
theorem d_Mo_putBlock_212 : decode b_Mo_putBlock 212 = .ok (.aload_n 0, 1) := by decide +kernel
theorem d_Mo_putBlock_213 : decode b_Mo_putBlock 213 = .ok (.aload_n 0, 1) := by decide +kernel
theorem d_Mo_putBlock_214 : decode b_Mo_putBlock 214 = .ok (.getfield 63, 3) := by decide +kernel
theorem d_Mo_putBlock_217 : decode b_Mo_putBlock 217 = .ok (.iload_n 3, 1) := by decide +kernel
theorem d_Mo_putBlock_218 : decode b_Mo_putBlock 218 = .ok (.laload, 1) := by decide +kernel
theorem d_Mo_putBlock_219 : decode b_Mo_putBlock 219 = .ok (.iconst 4, 1) := by decide +kernel
theorem d_Mo_putBlock_220 : decode b_Mo_putBlock 220 = .ok (.invokevirtual 463, 3) := by decide +kernel
theorem d_Mo_putBlock_223 : decode b_Mo_putBlock 223 = .ok (.iinc 3 1, 3) := by decide +kernel
theorem d_Mo_putBlock_226 : decode b_Mo_putBlock 226 = .ok (.goto (-40), 3) := by decide +kernel
theorem d_Mo_putBlock_229 : decode b_Mo_putBlock 229 = .ok (.bipush 40, 2) := by decide +kernel
theorem d_Mo_putBlock_231 : decode b_Mo_putBlock 231 = .ok (.iload_n 1, 1) := by decide +kernel
theorem d_Mo_putBlock_232 : decode b_Mo_putBlock 232 = .ok (.imul, 1) := by decide +kernel
theorem d_Mo_putBlock_233 : decode b_Mo_putBlock 233 = .ok (.istore_n 3, 1) := by decide +kernel
theorem d_Mo_putBlock_234 : decode b_Mo_putBlock 234 = .ok (.iload_n 3, 1) := by decide +kernel
theorem d_Mo_putBlock_235 : decode b_Mo_putBlock 235 = .ok (.bipush 40, 2) := by decide +kernel
theorem d_Mo_putBlock_237 : decode b_Mo_putBlock 237 = .ok (.iload_n 1, 1) := by decide +kernel
theorem d_Mo_putBlock_238 : decode b_Mo_putBlock 238 = .ok (.imul, 1) := by decide +kernel
theorem d_Mo_putBlock_239 : decode b_Mo_putBlock 239 = .ok (.aload_n 0, 1) := by decide +kernel
theorem d_Mo_putBlock_240 : decode b_Mo_putBlock 240 = .ok (.getfield 32, 3) := by decide +kernel
theorem d_Mo_putBlock_243 : decode b_Mo_putBlock 243 = .ok (.iload_n 1, 1) := by decide +kernel
theorem d_Mo_putBlock_244 : decode b_Mo_putBlock 244 = .ok (.iaload, 1) := by decide +kernel
theorem d_Mo_putBlock_245 : decode b_Mo_putBlock 245 = .ok (.iadd, 1) := by decide +kernel
theorem d_Mo_putBlock_246 : decode b_Mo_putBlock 246 = .ok (.if_icmp .ge 21, 3) := by decide +kernel
theorem d_Mo_putBlock_249 : decode b_Mo_putBlock 249 = .ok (.aload_n 0, 1) := by decide +kernel
theorem d_Mo_putBlock_250 : decode b_Mo_putBlock 250 = .ok (.aload_n 0, 1) := by decide +kernel
theorem d_Mo_putBlock_251 : decode b_Mo_putBlock 251 = .ok (.getfield 66, 3) := by decide +kernel
theorem d_Mo_putBlock_254 : decode b_Mo_putBlock 254 = .ok (.iload_n 3, 1) := by decide +kernel
theorem d_Mo_putBlock_255 : decode b_Mo_putBlock 255 = .ok (.iaload, 1) := by decide +kernel
theorem d_Mo_putBlock_256 : decode b_Mo_putBlock 256 = .ok (.i2l, 1) := by decide +kernel
theorem d_Mo_putBlock_257 : decode b_Mo_putBlock 257 = .ok (.iconst 1, 1) := by decide +kernel
theorem d_Mo_putBlock_258 : decode b_Mo_putBlock 258 = .ok (.invokevirtual 463, 3) := by decide +kernel
theorem d_Mo_putBlock_261 : decode b_Mo_putBlock 261 = .ok (.iinc 3 1, 3) := by decide +kernel
theorem d_Mo_putBlock_264 : decode b_Mo_putBlock 264 = .ok (.goto (-30), 3) := by decide +kernel
theorem d_Mo_putBlock_267 : decode b_Mo_putBlock 267 = .ok (.bipush 40, 2) := by decide +kernel
theorem d_Mo_putBlock_269 : decode b_Mo_putBlock 269 = .ok (.iload_n 1, 1) := by decide +kernel
theorem d_Mo_putBlock_270 : decode b_Mo_putBlock 270 = .ok (.imul, 1) := by decide +kernel
theorem d_Mo_putBlock_271 : decode b_Mo_putBlock 271 = .ok (.istore_n 3, 1) := by decide +kernel
theorem d_Mo_putBlock_272 : decode b_Mo_putBlock 272 = .ok (.iload_n 3, 1) := by decide +kernel
theorem d_Mo_putBlock_273 : decode b_Mo_putBlock 273 = .ok (.bipush 40, 2) := by decide +kernel
theorem d_Mo_putBlock_275 : decode b_Mo_putBlock 275 = .ok (.iload_n 1, 1) := by decide +kernel
theorem d_Mo_putBlock_276 : decode b_Mo_putBlock 276 = .ok (.imul, 1) := by decide +kernel
theorem d_Mo_putBlock_277 : decode b_Mo_putBlock 277 = .ok (.aload_n 0, 1) := by decide +kernel
theorem d_Mo_putBlock_278 : decode b_Mo_putBlock 278 = .ok (.getfield 35, 3) := by decide +kernel
theorem d_Mo_putBlock_281 : decode b_Mo_putBlock 281 = .ok (.iload_n 1, 1) := by decide +kernel
theorem d_Mo_putBlock_282 : decode b_Mo_putBlock 282 = .ok (.iaload, 1) := by decide +kernel
theorem d_Mo_putBlock_283 : decode b_Mo_putBlock 283 = .ok (.iadd, 1) := by decide +kernel
theorem d_Mo_putBlock_284 : decode b_Mo_putBlock 284 = .ok (.if_icmp .ge 21, 3) := by decide +kernel
theorem d_Mo_putBlock_287 : decode b_Mo_putBlock 287 = .ok (.aload_n 0, 1) := by decide +kernel
theorem d_Mo_putBlock_288 : decode b_Mo_putBlock 288 = .ok (.aload_n 0, 1) := by decide +kernel
theorem d_Mo_putBlock_289 : decode b_Mo_putBlock 289 = .ok (.getfield 69, 3) := by decide +kernel
theorem d_Mo_putBlock_292 : decode b_Mo_putBlock 292 = .ok (.iload_n 3, 1) := by decide +kernel
theorem d_Mo_putBlock_293 : decode b_Mo_putBlock 293 = .ok (.iaload, 1) := by decide +kernel
theorem d_Mo_putBlock_294 : decode b_Mo_putBlock 294 = .ok (.i2l, 1) := by decide +kernel
theorem d_Mo_putBlock_295 : decode b_Mo_putBlock 295 = .ok (.iconst 1, 1) := by decide +kernel
theorem d_Mo_putBlock_296 : decode b_Mo_putBlock 296 = .ok (.invokevirtual 463, 3) := by decide +kernel
theorem d_Mo_putBlock_299 : decode b_Mo_putBlock 299 = .ok (.iinc 3 1, 3) := by decide +kernel
theorem d_Mo_putBlock_302 : decode b_Mo_putBlock 302 = .ok (.goto (-30), 3) := by decide +kernel
theorem d_Mo_putBlock_305 : decode b_Mo_putBlock 305 = .ok (.return_, 1) := by decide +kernel
abbrev b_Mo_fitsShort : ByteArray := prog_14_method_73_code
def y_Mo_fitsShort : MethodName := ⟨"ZoneFilesModel", "fitsShort", "(I)Z"⟩
theorem d_Mo_fitsShort_0 : decode b_Mo_fitsShort 0 = .ok (.iconst 1, 1) := by decide +kernel
theorem d_Mo_fitsShort_1 : decode b_Mo_fitsShort 1 = .ok (.istore_n 2, 1) := by decide +kernel
theorem d_Mo_fitsShort_2 : decode b_Mo_fitsShort 2 = .ok (.sipush 200, 3) := by decide +kernel
theorem d_Mo_fitsShort_5 : decode b_Mo_fitsShort 5 = .ok (.iload_n 1, 1) := by decide +kernel
theorem d_Mo_fitsShort_6 : decode b_Mo_fitsShort 6 = .ok (.imul, 1) := by decide +kernel
theorem d_Mo_fitsShort_7 : decode b_Mo_fitsShort 7 = .ok (.istore_n 3, 1) := by decide +kernel
theorem d_Mo_fitsShort_8 : decode b_Mo_fitsShort 8 = .ok (.iload_n 3, 1) := by decide +kernel
theorem d_Mo_fitsShort_9 : decode b_Mo_fitsShort 9 = .ok (.sipush 200, 3) := by decide +kernel
theorem d_Mo_fitsShort_12 : decode b_Mo_fitsShort 12 = .ok (.iload_n 1, 1) := by decide +kernel
theorem d_Mo_fitsShort_13 : decode b_Mo_fitsShort 13 = .ok (.imul, 1) := by decide +kernel
theorem d_Mo_fitsShort_14 : decode b_Mo_fitsShort 14 = .ok (.aload_n 0, 1) := by decide +kernel
theorem d_Mo_fitsShort_15 : decode b_Mo_fitsShort 15 = .ok (.getfield 20, 3) := by decide +kernel
theorem d_Mo_fitsShort_18 : decode b_Mo_fitsShort 18 = .ok (.iload_n 1, 1) := by decide +kernel
theorem d_Mo_fitsShort_19 : decode b_Mo_fitsShort 19 = .ok (.iaload, 1) := by decide +kernel
theorem d_Mo_fitsShort_20 : decode b_Mo_fitsShort 20 = .ok (.iadd, 1) := by decide +kernel
theorem d_Mo_fitsShort_21 : decode b_Mo_fitsShort 21 = .ok (.if_icmp .ge 35, 3) := by decide +kernel
theorem d_Mo_fitsShort_24 : decode b_Mo_fitsShort 24 = .ok (.iload_n 2, 1) := by decide +kernel
theorem d_Mo_fitsShort_25 : decode b_Mo_fitsShort 25 = .ok (.aload_n 0, 1) := by decide +kernel
theorem d_Mo_fitsShort_26 : decode b_Mo_fitsShort 26 = .ok (.getfield 41, 3) := by decide +kernel
theorem d_Mo_fitsShort_29 : decode b_Mo_fitsShort 29 = .ok (.iload_n 3, 1) := by decide +kernel
theorem d_Mo_fitsShort_30 : decode b_Mo_fitsShort 30 = .ok (.laload, 1) := by decide +kernel
theorem d_Mo_fitsShort_31 : decode b_Mo_fitsShort 31 = .ok (.aload_n 0, 1) := by decide +kernel
theorem d_Mo_fitsShort_32 : decode b_Mo_fitsShort 32 = .ok (.getfield 41, 3) := by decide +kernel
theorem d_Mo_fitsShort_35 : decode b_Mo_fitsShort 35 = .ok (.iload_n 3, 1) := by decide +kernel
theorem d_Mo_fitsShort_36 : decode b_Mo_fitsShort 36 = .ok (.laload, 1) := by decide +kernel
theorem d_Mo_fitsShort_37 : decode b_Mo_fitsShort 37 = .ok (.l2i, 1) := by decide +kernel
theorem d_Mo_fitsShort_38 : decode b_Mo_fitsShort 38 = .ok (.i2l, 1) := by decide +kernel
theorem d_Mo_fitsShort_39 : decode b_Mo_fitsShort 39 = .ok (.lcmp, 1) := by decide +kernel
theorem d_Mo_fitsShort_40 : decode b_Mo_fitsShort 40 = .ok (.ifCond .ne 7, 3) := by decide +kernel
theorem d_Mo_fitsShort_43 : decode b_Mo_fitsShort 43 = .ok (.iconst 1, 1) := by decide +kernel
theorem d_Mo_fitsShort_44 : decode b_Mo_fitsShort 44 = .ok (.goto 4, 3) := by decide +kernel
theorem d_Mo_fitsShort_47 : decode b_Mo_fitsShort 47 = .ok (.iconst 0, 1) := by decide +kernel
theorem d_Mo_fitsShort_48 : decode b_Mo_fitsShort 48 = .ok (.iand, 1) := by decide +kernel
theorem d_Mo_fitsShort_49 : decode b_Mo_fitsShort 49 = .ok (.istore_n 2, 1) := by decide +kernel
theorem d_Mo_fitsShort_50 : decode b_Mo_fitsShort 50 = .ok (.iinc 3 1, 3) := by decide +kernel
theorem d_Mo_fitsShort_53 : decode b_Mo_fitsShort 53 = .ok (.goto (-45), 3) := by decide +kernel
theorem d_Mo_fitsShort_56 : decode b_Mo_fitsShort 56 = .ok (.bipush 40, 2) := by decide +kernel
theorem d_Mo_fitsShort_58 : decode b_Mo_fitsShort 58 = .ok (.iload_n 1, 1) := by decide +kernel
theorem d_Mo_fitsShort_59 : decode b_Mo_fitsShort 59 = .ok (.imul, 1) := by decide +kernel
theorem d_Mo_fitsShort_60 : decode b_Mo_fitsShort 60 = .ok (.istore_n 3, 1) := by decide +kernel
theorem d_Mo_fitsShort_61 : decode b_Mo_fitsShort 61 = .ok (.iload_n 3, 1) := by decide +kernel
theorem d_Mo_fitsShort_62 : decode b_Mo_fitsShort 62 = .ok (.bipush 40, 2) := by decide +kernel
theorem d_Mo_fitsShort_64 : decode b_Mo_fitsShort 64 = .ok (.iload_n 1, 1) := by decide +kernel
theorem d_Mo_fitsShort_65 : decode b_Mo_fitsShort 65 = .ok (.imul, 1) := by decide +kernel
theorem d_Mo_fitsShort_66 : decode b_Mo_fitsShort 66 = .ok (.aload_n 0, 1) := by decide +kernel
theorem d_Mo_fitsShort_67 : decode b_Mo_fitsShort 67 = .ok (.getfield 29, 3) := by decide +kernel
theorem d_Mo_fitsShort_70 : decode b_Mo_fitsShort 70 = .ok (.iload_n 1, 1) := by decide +kernel
theorem d_Mo_fitsShort_71 : decode b_Mo_fitsShort 71 = .ok (.iaload, 1) := by decide +kernel
theorem d_Mo_fitsShort_72 : decode b_Mo_fitsShort 72 = .ok (.iadd, 1) := by decide +kernel
theorem d_Mo_fitsShort_73 : decode b_Mo_fitsShort 73 = .ok (.if_icmp .ge 35, 3) := by decide +kernel
theorem d_Mo_fitsShort_76 : decode b_Mo_fitsShort 76 = .ok (.iload_n 2, 1) := by decide +kernel
theorem d_Mo_fitsShort_77 : decode b_Mo_fitsShort 77 = .ok (.aload_n 0, 1) := by decide +kernel
theorem d_Mo_fitsShort_78 : decode b_Mo_fitsShort 78 = .ok (.getfield 60, 3) := by decide +kernel
theorem d_Mo_fitsShort_81 : decode b_Mo_fitsShort 81 = .ok (.iload_n 3, 1) := by decide +kernel
theorem d_Mo_fitsShort_82 : decode b_Mo_fitsShort 82 = .ok (.laload, 1) := by decide +kernel
theorem d_Mo_fitsShort_83 : decode b_Mo_fitsShort 83 = .ok (.aload_n 0, 1) := by decide +kernel
theorem d_Mo_fitsShort_84 : decode b_Mo_fitsShort 84 = .ok (.getfield 60, 3) := by decide +kernel
theorem d_Mo_fitsShort_87 : decode b_Mo_fitsShort 87 = .ok (.iload_n 3, 1) := by decide +kernel
theorem d_Mo_fitsShort_88 : decode b_Mo_fitsShort 88 = .ok (.laload, 1) := by decide +kernel
theorem d_Mo_fitsShort_89 : decode b_Mo_fitsShort 89 = .ok (.l2i, 1) := by decide +kernel
theorem d_Mo_fitsShort_90 : decode b_Mo_fitsShort 90 = .ok (.i2l, 1) := by decide +kernel
theorem d_Mo_fitsShort_91 : decode b_Mo_fitsShort 91 = .ok (.lcmp, 1) := by decide +kernel
theorem d_Mo_fitsShort_92 : decode b_Mo_fitsShort 92 = .ok (.ifCond .ne 7, 3) := by decide +kernel
theorem d_Mo_fitsShort_95 : decode b_Mo_fitsShort 95 = .ok (.iconst 1, 1) := by decide +kernel
theorem d_Mo_fitsShort_96 : decode b_Mo_fitsShort 96 = .ok (.goto 4, 3) := by decide +kernel
theorem d_Mo_fitsShort_99 : decode b_Mo_fitsShort 99 = .ok (.iconst 0, 1) := by decide +kernel
theorem d_Mo_fitsShort_100 : decode b_Mo_fitsShort 100 = .ok (.iand, 1) := by decide +kernel
theorem d_Mo_fitsShort_101 : decode b_Mo_fitsShort 101 = .ok (.istore_n 2, 1) := by decide +kernel
theorem d_Mo_fitsShort_102 : decode b_Mo_fitsShort 102 = .ok (.iinc 3 1, 3) := by decide +kernel
theorem d_Mo_fitsShort_105 : decode b_Mo_fitsShort 105 = .ok (.goto (-44), 3) := by decide +kernel
theorem d_Mo_fitsShort_108 : decode b_Mo_fitsShort 108 = .ok (.iload_n 2, 1) := by decide +kernel
theorem d_Mo_fitsShort_109 : decode b_Mo_fitsShort 109 = .ok (.ireturn, 1) := by decide +kernel
abbrev b_Mo_isNarrow : ByteArray := prog_14_method_74_code
def y_Mo_isNarrow : MethodName := ⟨"ZoneFilesModel", "isNarrow", "(I)Z"⟩
theorem d_Mo_isNarrow_0 : decode b_Mo_isNarrow 0 = .ok (.aload_n 0, 1) := by decide +kernel
theorem d_Mo_isNarrow_1 : decode b_Mo_isNarrow 1 = .ok (.getfield 38, 3) := by decide +kernel
theorem d_Mo_isNarrow_4 : decode b_Mo_isNarrow 4 = .ok (.iload_n 1, 1) := by decide +kernel
theorem d_Mo_isNarrow_5 : decode b_Mo_isNarrow 5 = .ok (.iaload, 1) := by decide +kernel
theorem d_Mo_isNarrow_6 : decode b_Mo_isNarrow 6 = .ok (.ifCond .ne 5, 3) := by decide +kernel
theorem d_Mo_isNarrow_9 : decode b_Mo_isNarrow 9 = .ok (.iconst 1, 1) := by decide +kernel
theorem d_Mo_isNarrow_10 : decode b_Mo_isNarrow 10 = .ok (.ireturn, 1) := by decide +kernel
theorem d_Mo_isNarrow_11 : decode b_Mo_isNarrow 11 = .ok (.aload_n 0, 1) := by decide +kernel
theorem d_Mo_isNarrow_12 : decode b_Mo_isNarrow 12 = .ok (.iconst 4, 1) := by decide +kernel
theorem d_Mo_isNarrow_13 : decode b_Mo_isNarrow 13 = .ok (.iload_n 1, 1) := by decide +kernel
theorem d_Mo_isNarrow_14 : decode b_Mo_isNarrow 14 = .ok (.invokevirtual 146, 3) := by decide +kernel
theorem d_Mo_isNarrow_17 : decode b_Mo_isNarrow 17 = .ok (.aload_n 0, 1) := by decide +kernel
theorem d_Mo_isNarrow_18 : decode b_Mo_isNarrow 18 = .ok (.getfield 38, 3) := by decide +kernel
theorem d_Mo_isNarrow_21 : decode b_Mo_isNarrow 21 = .ok (.iload_n 1, 1) := by decide +kernel
theorem d_Mo_isNarrow_22 : decode b_Mo_isNarrow 22 = .ok (.iaload, 1) := by decide +kernel
theorem d_Mo_isNarrow_23 : decode b_Mo_isNarrow 23 = .ok (.istore_n 2, 1) := by decide +kernel
theorem d_Mo_isNarrow_24 : decode b_Mo_isNarrow 24 = .ok (.iconst 0, 1) := by decide +kernel
theorem d_Mo_isNarrow_25 : decode b_Mo_isNarrow 25 = .ok (.istore_n 3, 1) := by decide +kernel
theorem d_Mo_isNarrow_26 : decode b_Mo_isNarrow 26 = .ok (.iload_n 3, 1) := by decide +kernel
theorem d_Mo_isNarrow_27 : decode b_Mo_isNarrow 27 = .ok (.iload_n 2, 1) := by decide +kernel
theorem d_Mo_isNarrow_28 : decode b_Mo_isNarrow 28 = .ok (.if_icmp .ge 39, 3) := by decide +kernel
theorem d_Mo_isNarrow_31 : decode b_Mo_isNarrow 31 = .ok (.aload_n 0, 1) := by decide +kernel
theorem d_Mo_isNarrow_32 : decode b_Mo_isNarrow 32 = .ok (.getfield 120, 3) := by decide +kernel
theorem d_Mo_isNarrow_35 : decode b_Mo_isNarrow 35 = .ok (.iload_n 3, 1) := by decide +kernel
theorem d_Mo_isNarrow_36 : decode b_Mo_isNarrow 36 = .ok (.aload_n 0, 1) := by decide +kernel
theorem d_Mo_isNarrow_37 : decode b_Mo_isNarrow 37 = .ok (.getfield 7, 3) := by decide +kernel
theorem d_Mo_isNarrow_40 : decode b_Mo_isNarrow 40 = .ok (.iload_n 3, 1) := by decide +kernel
theorem d_Mo_isNarrow_41 : decode b_Mo_isNarrow 41 = .ok (.iaload, 1) := by decide +kernel
theorem d_Mo_isNarrow_42 : decode b_Mo_isNarrow 42 = .ok (.iastore, 1) := by decide +kernel
theorem d_Mo_isNarrow_43 : decode b_Mo_isNarrow 43 = .ok (.aload_n 0, 1) := by decide +kernel
theorem d_Mo_isNarrow_44 : decode b_Mo_isNarrow 44 = .ok (.getfield 7, 3) := by decide +kernel
theorem d_Mo_isNarrow_47 : decode b_Mo_isNarrow 47 = .ok (.iload_n 3, 1) := by decide +kernel
theorem d_Mo_isNarrow_48 : decode b_Mo_isNarrow 48 = .ok (.aload_n 0, 1) := by decide +kernel
theorem d_Mo_isNarrow_49 : decode b_Mo_isNarrow 49 = .ok (.getfield 72, 3) := by decide +kernel
theorem d_Mo_isNarrow_52 : decode b_Mo_isNarrow 52 = .ok (.sipush 128, 3) := by decide +kernel
theorem d_Mo_isNarrow_55 : decode b_Mo_isNarrow 55 = .ok (.iload_n 1, 1) := by decide +kernel
theorem d_Mo_isNarrow_56 : decode b_Mo_isNarrow 56 = .ok (.imul, 1) := by decide +kernel
theorem d_Mo_isNarrow_57 : decode b_Mo_isNarrow 57 = .ok (.iload_n 3, 1) := by decide +kernel
theorem d_Mo_isNarrow_58 : decode b_Mo_isNarrow 58 = .ok (.iadd, 1) := by decide +kernel
theorem d_Mo_isNarrow_59 : decode b_Mo_isNarrow 59 = .ok (.iaload, 1) := by decide +kernel
theorem d_Mo_isNarrow_60 : decode b_Mo_isNarrow 60 = .ok (.iastore, 1) := by decide +kernel
theorem d_Mo_isNarrow_61 : decode b_Mo_isNarrow 61 = .ok (.iinc 3 1, 3) := by decide +kernel
theorem d_Mo_isNarrow_64 : decode b_Mo_isNarrow 64 = .ok (.goto (-38), 3) := by decide +kernel
theorem d_Mo_isNarrow_67 : decode b_Mo_isNarrow 67 = .ok (.aload_n 0, 1) := by decide +kernel
theorem d_Mo_isNarrow_68 : decode b_Mo_isNarrow 68 = .ok (.bipush 50, 2) := by decide +kernel
theorem d_Mo_isNarrow_70 : decode b_Mo_isNarrow 70 = .ok (.iconst 0, 1) := by decide +kernel
theorem d_Mo_isNarrow_71 : decode b_Mo_isNarrow 71 = .ok (.iload_n 2, 1) := by decide +kernel
theorem d_Mo_isNarrow_72 : decode b_Mo_isNarrow 72 = .ok (.invokevirtual 138, 3) := by decide +kernel
theorem d_Mo_isNarrow_75 : decode b_Mo_isNarrow 75 = .ok (.istore_n 3, 1) := by decide +kernel
theorem d_Mo_isNarrow_76 : decode b_Mo_isNarrow 76 = .ok (.iconst 0, 1) := by decide +kernel
theorem d_Mo_isNarrow_77 : decode b_Mo_isNarrow 77 = .ok (.istore 4, 2) := by decide +kernel
theorem d_Mo_isNarrow_79 : decode b_Mo_isNarrow 79 = .ok (.iload 4, 2) := by decide +kernel
theorem d_Mo_isNarrow_81 : decode b_Mo_isNarrow 81 = .ok (.iload_n 2, 1) := by decide +kernel
theorem d_Mo_isNarrow_82 : decode b_Mo_isNarrow 82 = .ok (.if_icmp .ge 23, 3) := by decide +kernel
theorem d_Mo_isNarrow_85 : decode b_Mo_isNarrow 85 = .ok (.aload_n 0, 1) := by decide +kernel
theorem d_Mo_isNarrow_86 : decode b_Mo_isNarrow 86 = .ok (.getfield 7, 3) := by decide +kernel
theorem d_Mo_isNarrow_89 : decode b_Mo_isNarrow 89 = .ok (.iload 4, 2) := by decide +kernel
theorem d_Mo_isNarrow_91 : decode b_Mo_isNarrow 91 = .ok (.aload_n 0, 1) := by decide +kernel
theorem d_Mo_isNarrow_92 : decode b_Mo_isNarrow 92 = .ok (.getfield 120, 3) := by decide +kernel
theorem d_Mo_isNarrow_95 : decode b_Mo_isNarrow 95 = .ok (.iload 4, 2) := by decide +kernel
theorem d_Mo_isNarrow_97 : decode b_Mo_isNarrow 97 = .ok (.iaload, 1) := by decide +kernel
theorem d_Mo_isNarrow_98 : decode b_Mo_isNarrow 98 = .ok (.iastore, 1) := by decide +kernel
theorem d_Mo_isNarrow_99 : decode b_Mo_isNarrow 99 = .ok (.iinc 4 1, 3) := by decide +kernel
theorem d_Mo_isNarrow_102 : decode b_Mo_isNarrow 102 = .ok (.goto (-23), 3) := by decide +kernel
theorem d_Mo_isNarrow_105 : decode b_Mo_isNarrow 105 = .ok (.iload_n 3, 1) := by decide +kernel
theorem d_Mo_isNarrow_106 : decode b_Mo_isNarrow 106 = .ok (.ireturn, 1) := by decide +kernel
abbrev b_Mo_write : ByteArray := prog_14_method_75_code
def y_Mo_write : MethodName := ⟨"ZoneFilesModel", "write", "(II)I"⟩
theorem d_Mo_write_0 : decode b_Mo_write 0 = .ok (.aload_n 0, 1) := by decide +kernel
theorem d_Mo_write_1 : decode b_Mo_write 1 = .ok (.aload_n 0, 1) := by decide +kernel
theorem d_Mo_write_2 : decode b_Mo_write 2 = .ok (.iload_n 1, 1) := by decide +kernel
theorem d_Mo_write_3 : decode b_Mo_write 3 = .ok (.invokevirtual 423, 3) := by decide +kernel
theorem d_Mo_write_6 : decode b_Mo_write 6 = .ok (.ifCond .eq 7, 3) := by decide +kernel
theorem d_Mo_write_9 : decode b_Mo_write 9 = .ok (.iconst 1, 1) := by decide +kernel
theorem d_Mo_write_10 : decode b_Mo_write 10 = .ok (.goto 54, 3) := by decide +kernel
theorem d_Mo_write_13 : decode b_Mo_write 13 = .ok (.iload_n 2, 1) := by decide +kernel
theorem d_Mo_write_14 : decode b_Mo_write 14 = .ok (.ifCond .eq 19, 3) := by decide +kernel
theorem d_Mo_write_17 : decode b_Mo_write 17 = .ok (.iload_n 2, 1) := by decide +kernel
theorem d_Mo_write_18 : decode b_Mo_write 18 = .ok (.bipush 50, 2) := by decide +kernel
theorem d_Mo_write_20 : decode b_Mo_write 20 = .ok (.if_icmp .eq 13, 3) := by decide +kernel
theorem d_Mo_write_23 : decode b_Mo_write 23 = .ok (.iload_n 2, 1) := by decide +kernel
theorem d_Mo_write_24 : decode b_Mo_write 24 = .ok (.bipush 51, 2) := by decide +kernel
theorem d_Mo_write_26 : decode b_Mo_write 26 = .ok (.if_icmp .eq 7, 3) := by decide +kernel
theorem d_Mo_write_29 : decode b_Mo_write 29 = .ok (.iconst 2, 1) := by decide +kernel
theorem d_Mo_write_30 : decode b_Mo_write 30 = .ok (.goto 34, 3) := by decide +kernel
theorem d_Mo_write_33 : decode b_Mo_write 33 = .ok (.iload_n 2, 1) := by decide +kernel
theorem d_Mo_write_34 : decode b_Mo_write 34 = .ok (.ifCond .ne 11, 3) := by decide +kernel
theorem d_Mo_write_37 : decode b_Mo_write 37 = .ok (.aload_n 0, 1) := by decide +kernel
theorem d_Mo_write_38 : decode b_Mo_write 38 = .ok (.iload_n 1, 1) := by decide +kernel
theorem d_Mo_write_39 : decode b_Mo_write 39 = .ok (.invokevirtual 467, 3) := by decide +kernel
theorem d_Mo_write_42 : decode b_Mo_write 42 = .ok (.ifCond .eq 17, 3) := by decide +kernel
theorem d_Mo_write_45 : decode b_Mo_write 45 = .ok (.iload_n 2, 1) := by decide +kernel
theorem d_Mo_write_46 : decode b_Mo_write 46 = .ok (.bipush 50, 2) := by decide +kernel
theorem d_Mo_write_48 : decode b_Mo_write 48 = .ok (.if_icmp .ne 15, 3) := by decide +kernel
theorem d_Mo_write_51 : decode b_Mo_write 51 = .ok (.aload_n 0, 1) := by decide +kernel
theorem d_Mo_write_52 : decode b_Mo_write 52 = .ok (.iload_n 1, 1) := by decide +kernel
theorem d_Mo_write_53 : decode b_Mo_write 53 = .ok (.invokevirtual 470, 3) := by decide +kernel
theorem d_Mo_write_56 : decode b_Mo_write 56 = .ok (.ifCond .ne 7, 3) := by decide +kernel
theorem d_Mo_write_59 : decode b_Mo_write 59 = .ok (.iconst 3, 1) := by decide +kernel
theorem d_Mo_write_60 : decode b_Mo_write 60 = .ok (.goto 4, 3) := by decide +kernel
theorem d_Mo_write_63 : decode b_Mo_write 63 = .ok (.iconst 0, 1) := by decide +kernel
theorem d_Mo_write_64 : decode b_Mo_write 64 = .ok (.putfield 150, 3) := by decide +kernel
theorem d_Mo_write_67 : decode b_Mo_write 67 = .ok (.aload_n 0, 1) := by decide +kernel
theorem d_Mo_write_68 : decode b_Mo_write 68 = .ok (.getfield 150, 3) := by decide +kernel
theorem d_Mo_write_71 : decode b_Mo_write 71 = .ok (.ifCond .le 5, 3) := by decide +kernel
theorem d_Mo_write_74 : decode b_Mo_write 74 = .ok (.iconst 0, 1) := by decide +kernel
theorem d_Mo_write_75 : decode b_Mo_write 75 = .ok (.ireturn, 1) := by decide +kernel
theorem d_Mo_write_76 : decode b_Mo_write 76 = .ok (.aload_n 0, 1) := by decide +kernel
theorem d_Mo_write_77 : decode b_Mo_write 77 = .ok (.iconst 0, 1) := by decide +kernel
theorem d_Mo_write_78 : decode b_Mo_write 78 = .ok (.putfield 460, 3) := by decide +kernel
theorem d_Mo_write_81 : decode b_Mo_write 81 = .ok (.iload_n 2, 1) := by decide +kernel
theorem d_Mo_write_82 : decode b_Mo_write 82 = .ok (.ifCond .le 21, 3) := by decide +kernel
theorem d_Mo_write_85 : decode b_Mo_write 85 = .ok (.aload_n 0, 1) := by decide +kernel
theorem d_Mo_write_86 : decode b_Mo_write 86 = .ok (.iload_n 2, 1) := by decide +kernel
theorem d_Mo_write_87 : decode b_Mo_write 87 = .ok (.iconst 0, 1) := by decide +kernel
theorem d_Mo_write_88 : decode b_Mo_write 88 = .ok (.iconst 0, 1) := by decide +kernel
theorem d_Mo_write_89 : decode b_Mo_write 89 = .ok (.iconst 0, 1) := by decide +kernel
theorem d_Mo_write_90 : decode b_Mo_write 90 = .ok (.iconst 0, 1) := by decide +kernel
theorem d_Mo_write_91 : decode b_Mo_write 91 = .ok (.iconst 1, 1) := by decide +kernel
theorem d_Mo_write_92 : decode b_Mo_write 92 = .ok (.iconst 1, 1) := by decide +kernel
theorem d_Mo_write_93 : decode b_Mo_write 93 = .ok (.invokevirtual 473, 3) := by decide +kernel
theorem d_Mo_write_96 : decode b_Mo_write 96 = .ok (.aload_n 0, 1) := by decide +kernel
theorem d_Mo_write_97 : decode b_Mo_write 97 = .ok (.lconst 0, 1) := by decide +kernel
theorem d_Mo_write_98 : decode b_Mo_write 98 = .ok (.bipush 7, 2) := by decide +kernel
theorem d_Mo_write_100 : decode b_Mo_write 100 = .ok (.invokevirtual 463, 3) := by decide +kernel
theorem d_Mo_write_103 : decode b_Mo_write 103 = .ok (.aload_n 0, 1) := by decide +kernel
theorem d_Mo_write_104 : decode b_Mo_write 104 = .ok (.iload_n 2, 1) := by decide +kernel
theorem d_Mo_write_105 : decode b_Mo_write 105 = .ok (.aload_n 0, 1) := by decide +kernel
theorem d_Mo_write_106 : decode b_Mo_write 106 = .ok (.getfield 35, 3) := by decide +kernel
theorem d_Mo_write_109 : decode b_Mo_write 109 = .ok (.iload_n 1, 1) := by decide +kernel
theorem d_Mo_write_110 : decode b_Mo_write 110 = .ok (.iaload, 1) := by decide +kernel
theorem d_Mo_write_111 : decode b_Mo_write 111 = .ok (.aload_n 0, 1) := by decide +kernel
theorem d_Mo_write_112 : decode b_Mo_write 112 = .ok (.getfield 32, 3) := by decide +kernel
theorem d_Mo_write_115 : decode b_Mo_write 115 = .ok (.iload_n 1, 1) := by decide +kernel
theorem d_Mo_write_116 : decode b_Mo_write 116 = .ok (.iaload, 1) := by decide +kernel
theorem d_Mo_write_117 : decode b_Mo_write 117 = .ok (.aload_n 0, 1) := by decide +kernel
theorem d_Mo_write_118 : decode b_Mo_write 118 = .ok (.getfield 29, 3) := by decide +kernel
theorem d_Mo_write_121 : decode b_Mo_write 121 = .ok (.iload_n 1, 1) := by decide +kernel
theorem d_Mo_write_122 : decode b_Mo_write 122 = .ok (.iaload, 1) := by decide +kernel
theorem d_Mo_write_123 : decode b_Mo_write 123 = .ok (.aload_n 0, 1) := by decide +kernel
theorem d_Mo_write_124 : decode b_Mo_write 124 = .ok (.getfield 20, 3) := by decide +kernel
theorem d_Mo_write_127 : decode b_Mo_write 127 = .ok (.iload_n 1, 1) := by decide +kernel
theorem d_Mo_write_128 : decode b_Mo_write 128 = .ok (.iaload, 1) := by decide +kernel
theorem d_Mo_write_129 : decode b_Mo_write 129 = .ok (.aload_n 0, 1) := by decide +kernel
theorem d_Mo_write_130 : decode b_Mo_write 130 = .ok (.getfield 23, 3) := by decide +kernel
theorem d_Mo_write_133 : decode b_Mo_write 133 = .ok (.iload_n 1, 1) := by decide +kernel
theorem d_Mo_write_134 : decode b_Mo_write 134 = .ok (.iaload, 1) := by decide +kernel
theorem d_Mo_write_135 : decode b_Mo_write 135 = .ok (.aload_n 0, 1) := by decide +kernel
theorem d_Mo_write_136 : decode b_Mo_write 136 = .ok (.getfield 26, 3) := by decide +kernel
theorem d_Mo_write_139 : decode b_Mo_write 139 = .ok (.iload_n 1, 1) := by decide +kernel
theorem d_Mo_write_140 : decode b_Mo_write 140 = .ok (.iaload, 1) := by decide +kernel
theorem d_Mo_write_141 : decode b_Mo_write 141 = .ok (.invokevirtual 473, 3) := by decide +kernel
theorem d_Mo_write_144 : decode b_Mo_write 144 = .ok (.aload_n 0, 1) := by decide +kernel
theorem d_Mo_write_145 : decode b_Mo_write 145 = .ok (.iload_n 1, 1) := by decide +kernel
theorem d_Mo_write_146 : decode b_Mo_write 146 = .ok (.iload_n 2, 1) := by decide +kernel
theorem d_Mo_write_147 : decode b_Mo_write 147 = .ok (.ifCond .le 8, 3) := by decide +kernel
theorem d_Mo_write_150 : decode b_Mo_write 150 = .ok (.bipush 8, 2) := by decide +kernel
theorem d_Mo_write_152 : decode b_Mo_write 152 = .ok (.goto 4, 3) := by decide +kernel
theorem d_Mo_write_155 : decode b_Mo_write 155 = .ok (.iconst 4, 1) := by decide +kernel
theorem d_Mo_write_156 : decode b_Mo_write 156 = .ok (.invokevirtual 477, 3) := by decide +kernel
theorem d_Mo_write_159 : decode b_Mo_write 159 = .ok (.iload_n 2, 1) := by decide +kernel
theorem d_Mo_write_160 : decode b_Mo_write 160 = .ok (.ifCond .le 55, 3) := by decide +kernel
theorem d_Mo_write_163 : decode b_Mo_write 163 = .ok (.aload_n 0, 1) := by decide +kernel
theorem d_Mo_write_164 : decode b_Mo_write 164 = .ok (.ldc2_w 480, 3) := by decide +kernel
theorem d_Mo_write_167 : decode b_Mo_write 167 = .ok (.iconst 1, 1) := by decide +kernel
theorem d_Mo_write_168 : decode b_Mo_write 168 = .ok (.invokevirtual 463, 3) := by decide +kernel
theorem d_Mo_write_171 : decode b_Mo_write 171 = .ok (.iconst 0, 1) := by decide +kernel
theorem d_Mo_write_172 : decode b_Mo_write 172 = .ok (.istore_n 3, 1) := by decide +kernel
theorem d_Mo_write_173 : decode b_Mo_write 173 = .ok (.iload_n 3, 1) := by decide +kernel
theorem d_Mo_write_174 : decode b_Mo_write 174 = .ok (.aload_n 0, 1) := by decide +kernel
theorem d_Mo_write_175 : decode b_Mo_write 175 = .ok (.getfield 38, 3) := by decide +kernel
theorem d_Mo_write_178 : decode b_Mo_write 178 = .ok (.iload_n 1, 1) := by decide +kernel
theorem d_Mo_write_179 : decode b_Mo_write 179 = .ok (.iaload, 1) := by decide +kernel
theorem d_Mo_write_180 : decode b_Mo_write 180 = .ok (.if_icmp .ge 27, 3) := by decide +kernel
theorem d_Mo_write_183 : decode b_Mo_write 183 = .ok (.aload_n 0, 1) := by decide +kernel
theorem d_Mo_write_184 : decode b_Mo_write 184 = .ok (.aload_n 0, 1) := by decide +kernel
theorem d_Mo_write_185 : decode b_Mo_write 185 = .ok (.getfield 72, 3) := by decide +kernel
theorem d_Mo_write_188 : decode b_Mo_write 188 = .ok (.sipush 128, 3) := by decide +kernel
theorem d_Mo_write_191 : decode b_Mo_write 191 = .ok (.iload_n 1, 1) := by decide +kernel
theorem d_Mo_write_192 : decode b_Mo_write 192 = .ok (.imul, 1) := by decide +kernel
theorem d_Mo_write_193 : decode b_Mo_write 193 = .ok (.iload_n 3, 1) := by decide +kernel
theorem d_Mo_write_194 : decode b_Mo_write 194 = .ok (.iadd, 1) := by decide +kernel
theorem d_Mo_write_195 : decode b_Mo_write 195 = .ok (.iaload, 1) := by decide +kernel
theorem d_Mo_write_196 : decode b_Mo_write 196 = .ok (.i2l, 1) := by decide +kernel
theorem d_Mo_write_197 : decode b_Mo_write 197 = .ok (.iconst 1, 1) := by decide +kernel
theorem d_Mo_write_198 : decode b_Mo_write 198 = .ok (.invokevirtual 463, 3) := by decide +kernel
theorem d_Mo_write_201 : decode b_Mo_write 201 = .ok (.iinc 3 1, 3) := by decide +kernel
theorem d_Mo_write_204 : decode b_Mo_write 204 = .ok (.goto (-31), 3) := by decide +kernel
theorem d_Mo_write_207 : decode b_Mo_write 207 = .ok (.aload_n 0, 1) := by decide +kernel
theorem d_Mo_write_208 : decode b_Mo_write 208 = .ok (.ldc2_w 480, 3) := by decide +kernel
theorem d_Mo_write_211 : decode b_Mo_write 211 = .ok (.iconst 1, 1) := by decide +kernel
theorem d_Mo_write_212 : decode b_Mo_write 212 = .ok (.invokevirtual 463, 3) := by decide +kernel
theorem d_Mo_write_215 : decode b_Mo_write 215 = .ok (.iconst 0, 1) := by decide +kernel
theorem d_Mo_write_216 : decode b_Mo_write 216 = .ok (.istore_n 3, 1) := by decide +kernel
theorem d_Mo_write_217 : decode b_Mo_write 217 = .ok (.iload_n 3, 1) := by decide +kernel
theorem d_Mo_write_218 : decode b_Mo_write 218 = .ok (.aload_n 0, 1) := by decide +kernel
theorem d_Mo_write_219 : decode b_Mo_write 219 = .ok (.getfield 460, 3) := by decide +kernel
theorem d_Mo_write_222 : decode b_Mo_write 222 = .ok (.if_icmp .ge 21, 3) := by decide +kernel
theorem d_Mo_write_225 : decode b_Mo_write 225 = .ok (.aload_n 0, 1) := by decide +kernel
theorem d_Mo_write_226 : decode b_Mo_write 226 = .ok (.getfield 114, 3) := by decide +kernel
theorem d_Mo_write_229 : decode b_Mo_write 229 = .ok (.iload_n 3, 1) := by decide +kernel
theorem d_Mo_write_230 : decode b_Mo_write 230 = .ok (.aload_n 0, 1) := by decide +kernel
theorem d_Mo_write_231 : decode b_Mo_write 231 = .ok (.getfield 117, 3) := by decide +kernel
theorem d_Mo_write_234 : decode b_Mo_write 234 = .ok (.iload_n 3, 1) := by decide +kernel
theorem d_Mo_write_235 : decode b_Mo_write 235 = .ok (.iaload, 1) := by decide +kernel
theorem d_Mo_write_236 : decode b_Mo_write 236 = .ok (.iastore, 1) := by decide +kernel
theorem d_Mo_write_237 : decode b_Mo_write 237 = .ok (.iinc 3 1, 3) := by decide +kernel
theorem d_Mo_write_240 : decode b_Mo_write 240 = .ok (.goto (-23), 3) := by decide +kernel
theorem d_Mo_write_243 : decode b_Mo_write 243 = .ok (.aload_n 0, 1) := by decide +kernel
theorem d_Mo_write_244 : decode b_Mo_write 244 = .ok (.aload_n 0, 1) := by decide +kernel
theorem d_Mo_write_245 : decode b_Mo_write 245 = .ok (.getfield 460, 3) := by decide +kernel
theorem d_Mo_write_248 : decode b_Mo_write 248 = .ok (.putfield 482, 3) := by decide +kernel
theorem d_Mo_write_251 : decode b_Mo_write 251 = .ok (.aload_n 0, 1) := by decide +kernel
theorem d_Mo_write_252 : decode b_Mo_write 252 = .ok (.getfield 482, 3) := by decide +kernel
theorem d_Mo_write_255 : decode b_Mo_write 255 = .ok (.ireturn, 1) := by decide +kernel
abbrev b_Mo_out : ByteArray := prog_14_method_76_code
def y_Mo_out : MethodName := ⟨"ZoneFilesModel", "out", "(I)I"⟩
theorem d_Mo_out_0 : decode b_Mo_out 0 = .ok (.aload_n 0, 1) := by decide +kernel
theorem d_Mo_out_1 : decode b_Mo_out 1 = .ok (.iload_n 1, 1) := by decide +kernel
theorem d_Mo_out_2 : decode b_Mo_out 2 = .ok (.ifCond .lt 11, 3) := by decide +kernel
theorem d_Mo_out_5 : decode b_Mo_out 5 = .ok (.iload_n 1, 1) := by decide +kernel
theorem d_Mo_out_6 : decode b_Mo_out 6 = .ok (.aload_n 0, 1) := by decide +kernel
theorem d_Mo_out_7 : decode b_Mo_out 7 = .ok (.getfield 482, 3) := by decide +kernel
theorem d_Mo_out_10 : decode b_Mo_out 10 = .ok (.if_icmp .lt 7, 3) := by decide +kernel
theorem d_Mo_out_13 : decode b_Mo_out 13 = .ok (.iconst 1, 1) := by decide +kernel
theorem d_Mo_out_14 : decode b_Mo_out 14 = .ok (.goto 4, 3) := by decide +kernel
theorem d_Mo_out_17 : decode b_Mo_out 17 = .ok (.iconst 0, 1) := by decide +kernel
theorem d_Mo_out_18 : decode b_Mo_out 18 = .ok (.putfield 150, 3) := by decide +kernel
theorem d_Mo_out_21 : decode b_Mo_out 21 = .ok (.aload_n 0, 1) := by decide +kernel
theorem d_Mo_out_22 : decode b_Mo_out 22 = .ok (.getfield 150, 3) := by decide +kernel
theorem d_Mo_out_25 : decode b_Mo_out 25 = .ok (.ifCond .le 7, 3) := by decide +kernel
theorem d_Mo_out_28 : decode b_Mo_out 28 = .ok (.iconst 0, 1) := by decide +kernel
theorem d_Mo_out_29 : decode b_Mo_out 29 = .ok (.goto 9, 3) := by decide +kernel
theorem d_Mo_out_32 : decode b_Mo_out 32 = .ok (.aload_n 0, 1) := by decide +kernel
theorem d_Mo_out_33 : decode b_Mo_out 33 = .ok (.getfield 114, 3) := by decide +kernel
theorem d_Mo_out_36 : decode b_Mo_out 36 = .ok (.iload_n 1, 1) := by decide +kernel
theorem d_Mo_out_37 : decode b_Mo_out 37 = .ok (.iaload, 1) := by decide +kernel
theorem d_Mo_out_38 : decode b_Mo_out 38 = .ok (.ireturn, 1) := by decide +kernel
abbrev b_Mo_again : ByteArray := prog_14_method_77_code
def y_Mo_again : MethodName := ⟨"ZoneFilesModel", "again", "()I"⟩
theorem d_Mo_again_0 : decode b_Mo_again 0 = .ok (.aload_n 0, 1) := by decide +kernel
theorem d_Mo_again_1 : decode b_Mo_again 1 = .ok (.iconst 0, 1) := by decide +kernel
theorem d_Mo_again_2 : decode b_Mo_again 2 = .ok (.putfield 150, 3) := by decide +kernel
theorem d_Mo_again_5 : decode b_Mo_again 5 = .ok (.iconst 0, 1) := by decide +kernel
theorem d_Mo_again_6 : decode b_Mo_again 6 = .ok (.istore_n 1, 1) := by decide +kernel
theorem d_Mo_again_7 : decode b_Mo_again 7 = .ok (.iload_n 1, 1) := by decide +kernel
theorem d_Mo_again_8 : decode b_Mo_again 8 = .ok (.aload_n 0, 1) := by decide +kernel
theorem d_Mo_again_9 : decode b_Mo_again 9 = .ok (.getfield 482, 3) := by decide +kernel
theorem d_Mo_again_12 : decode b_Mo_again 12 = .ok (.if_icmp .ge 21, 3) := by decide +kernel
theorem d_Mo_again_15 : decode b_Mo_again 15 = .ok (.aload_n 0, 1) := by decide +kernel
theorem d_Mo_again_16 : decode b_Mo_again 16 = .ok (.getfield 7, 3) := by decide +kernel
theorem d_Mo_again_19 : decode b_Mo_again 19 = .ok (.iload_n 1, 1) := by decide +kernel
theorem d_Mo_again_20 : decode b_Mo_again 20 = .ok (.aload_n 0, 1) := by decide +kernel
theorem d_Mo_again_21 : decode b_Mo_again 21 = .ok (.getfield 114, 3) := by decide +kernel
theorem d_Mo_again_24 : decode b_Mo_again 24 = .ok (.iload_n 1, 1) := by decide +kernel
theorem d_Mo_again_25 : decode b_Mo_again 25 = .ok (.iaload, 1) := by decide +kernel
theorem d_Mo_again_26 : decode b_Mo_again 26 = .ok (.iastore, 1) := by decide +kernel
theorem d_Mo_again_27 : decode b_Mo_again 27 = .ok (.iinc 1 1, 3) := by decide +kernel
theorem d_Mo_again_30 : decode b_Mo_again 30 = .ok (.goto (-23), 3) := by decide +kernel
theorem d_Mo_again_33 : decode b_Mo_again 33 = .ok (.aload_n 0, 1) := by decide +kernel
theorem d_Mo_again_34 : decode b_Mo_again 34 = .ok (.aload_n 0, 1) := by decide +kernel
theorem d_Mo_again_35 : decode b_Mo_again 35 = .ok (.getfield 482, 3) := by decide +kernel
theorem d_Mo_again_38 : decode b_Mo_again 38 = .ok (.putfield 135, 3) := by decide +kernel
theorem d_Mo_again_41 : decode b_Mo_again 41 = .ok (.aload_n 0, 1) := by decide +kernel
theorem d_Mo_again_42 : decode b_Mo_again 42 = .ok (.getfield 135, 3) := by decide +kernel
theorem d_Mo_again_45 : decode b_Mo_again 45 = .ok (.ireturn, 1) := by decide +kernel
abbrev b_Mo_place : ByteArray := prog_14_method_78_code
def y_Mo_place : MethodName := ⟨"ZoneFilesModel", "place", "()I"⟩
theorem d_Mo_place_0 : decode b_Mo_place 0 = .ok (.aload_n 0, 1) := by decide +kernel
theorem d_Mo_place_1 : decode b_Mo_place 1 = .ok (.iconst 0, 1) := by decide +kernel
theorem d_Mo_place_2 : decode b_Mo_place 2 = .ok (.putfield 150, 3) := by decide +kernel
theorem d_Mo_place_5 : decode b_Mo_place 5 = .ok (.aload_n 0, 1) := by decide +kernel
theorem d_Mo_place_6 : decode b_Mo_place 6 = .ok (.getfield 13, 3) := by decide +kernel
theorem d_Mo_place_9 : decode b_Mo_place 9 = .ok (.ireturn, 1) := by decide +kernel
abbrev b_Mo_zone : ByteArray := prog_14_method_79_code
def y_Mo_zone : MethodName := ⟨"ZoneFilesModel", "zone", "(II)I"⟩
theorem d_Mo_zone_0 : decode b_Mo_zone 0 = .ok (.aload_n 0, 1) := by decide +kernel
theorem d_Mo_zone_1 : decode b_Mo_zone 1 = .ok (.aload_n 0, 1) := by decide +kernel
theorem d_Mo_zone_2 : decode b_Mo_zone 2 = .ok (.iload_n 1, 1) := by decide +kernel
theorem d_Mo_zone_3 : decode b_Mo_zone 3 = .ok (.invokevirtual 423, 3) := by decide +kernel
theorem d_Mo_zone_6 : decode b_Mo_zone 6 = .ok (.ifCond .ne 13, 3) := by decide +kernel
theorem d_Mo_zone_9 : decode b_Mo_zone 9 = .ok (.iload_n 2, 1) := by decide +kernel
theorem d_Mo_zone_10 : decode b_Mo_zone 10 = .ok (.ifCond .lt 9, 3) := by decide +kernel
theorem d_Mo_zone_13 : decode b_Mo_zone 13 = .ok (.iload_n 2, 1) := by decide +kernel
theorem d_Mo_zone_14 : decode b_Mo_zone 14 = .ok (.bipush 7, 2) := by decide +kernel
theorem d_Mo_zone_16 : decode b_Mo_zone 16 = .ok (.if_icmp .le 7, 3) := by decide +kernel
theorem d_Mo_zone_19 : decode b_Mo_zone 19 = .ok (.iconst 1, 1) := by decide +kernel
theorem d_Mo_zone_20 : decode b_Mo_zone 20 = .ok (.goto 4, 3) := by decide +kernel
theorem d_Mo_zone_23 : decode b_Mo_zone 23 = .ok (.iconst 0, 1) := by decide +kernel
theorem d_Mo_zone_24 : decode b_Mo_zone 24 = .ok (.putfield 150, 3) := by decide +kernel
theorem d_Mo_zone_27 : decode b_Mo_zone 27 = .ok (.aload_n 0, 1) := by decide +kernel
theorem d_Mo_zone_28 : decode b_Mo_zone 28 = .ok (.getfield 150, 3) := by decide +kernel
theorem d_Mo_zone_31 : decode b_Mo_zone 31 = .ok (.ifCond .le 5, 3) := by decide +kernel
theorem d_Mo_zone_34 : decode b_Mo_zone 34 = .ok (.iconst 0, 1) := by decide +kernel
theorem d_Mo_zone_35 : decode b_Mo_zone 35 = .ok (.ireturn, 1) := by decide +kernel
theorem d_Mo_zone_36 : decode b_Mo_zone 36 = .ok (.iload_n 2, 1) := by decide +kernel
theorem d_Mo_zone_37 : decode b_Mo_zone 37 = .ok (.tableswitch 92 0 6 #[43, 50, 57, 64, 71, 78, 85], 43) := by decide +kernel
theorem d_Mo_zone_80 : decode b_Mo_zone 80 = .ok (.aload_n 0, 1) := by decide +kernel
theorem d_Mo_zone_81 : decode b_Mo_zone 81 = .ok (.getfield 17, 3) := by decide +kernel
theorem d_Mo_zone_84 : decode b_Mo_zone 84 = .ok (.iload_n 1, 1) := by decide +kernel
theorem d_Mo_zone_85 : decode b_Mo_zone 85 = .ok (.iaload, 1) := by decide +kernel
theorem d_Mo_zone_86 : decode b_Mo_zone 86 = .ok (.ireturn, 1) := by decide +kernel
theorem d_Mo_zone_87 : decode b_Mo_zone 87 = .ok (.aload_n 0, 1) := by decide +kernel
theorem d_Mo_zone_88 : decode b_Mo_zone 88 = .ok (.getfield 20, 3) := by decide +kernel
theorem d_Mo_zone_91 : decode b_Mo_zone 91 = .ok (.iload_n 1, 1) := by decide +kernel
theorem d_Mo_zone_92 : decode b_Mo_zone 92 = .ok (.iaload, 1) := by decide +kernel
theorem d_Mo_zone_93 : decode b_Mo_zone 93 = .ok (.ireturn, 1) := by decide +kernel
theorem d_Mo_zone_94 : decode b_Mo_zone 94 = .ok (.aload_n 0, 1) := by decide +kernel
theorem d_Mo_zone_95 : decode b_Mo_zone 95 = .ok (.getfield 23, 3) := by decide +kernel
theorem d_Mo_zone_98 : decode b_Mo_zone 98 = .ok (.iload_n 1, 1) := by decide +kernel
theorem d_Mo_zone_99 : decode b_Mo_zone 99 = .ok (.iaload, 1) := by decide +kernel
theorem d_Mo_zone_100 : decode b_Mo_zone 100 = .ok (.ireturn, 1) := by decide +kernel
theorem d_Mo_zone_101 : decode b_Mo_zone 101 = .ok (.aload_n 0, 1) := by decide +kernel
theorem d_Mo_zone_102 : decode b_Mo_zone 102 = .ok (.getfield 26, 3) := by decide +kernel
theorem d_Mo_zone_105 : decode b_Mo_zone 105 = .ok (.iload_n 1, 1) := by decide +kernel
theorem d_Mo_zone_106 : decode b_Mo_zone 106 = .ok (.iaload, 1) := by decide +kernel
theorem d_Mo_zone_107 : decode b_Mo_zone 107 = .ok (.ireturn, 1) := by decide +kernel
theorem d_Mo_zone_108 : decode b_Mo_zone 108 = .ok (.aload_n 0, 1) := by decide +kernel
theorem d_Mo_zone_109 : decode b_Mo_zone 109 = .ok (.getfield 29, 3) := by decide +kernel
theorem d_Mo_zone_112 : decode b_Mo_zone 112 = .ok (.iload_n 1, 1) := by decide +kernel
theorem d_Mo_zone_113 : decode b_Mo_zone 113 = .ok (.iaload, 1) := by decide +kernel
theorem d_Mo_zone_114 : decode b_Mo_zone 114 = .ok (.ireturn, 1) := by decide +kernel
theorem d_Mo_zone_115 : decode b_Mo_zone 115 = .ok (.aload_n 0, 1) := by decide +kernel
theorem d_Mo_zone_116 : decode b_Mo_zone 116 = .ok (.getfield 32, 3) := by decide +kernel
theorem d_Mo_zone_119 : decode b_Mo_zone 119 = .ok (.iload_n 1, 1) := by decide +kernel
theorem d_Mo_zone_120 : decode b_Mo_zone 120 = .ok (.iaload, 1) := by decide +kernel
theorem d_Mo_zone_121 : decode b_Mo_zone 121 = .ok (.ireturn, 1) := by decide +kernel
theorem d_Mo_zone_122 : decode b_Mo_zone 122 = .ok (.aload_n 0, 1) := by decide +kernel
theorem d_Mo_zone_123 : decode b_Mo_zone 123 = .ok (.getfield 35, 3) := by decide +kernel
theorem d_Mo_zone_126 : decode b_Mo_zone 126 = .ok (.iload_n 1, 1) := by decide +kernel
theorem d_Mo_zone_127 : decode b_Mo_zone 127 = .ok (.iaload, 1) := by decide +kernel
theorem d_Mo_zone_128 : decode b_Mo_zone 128 = .ok (.ireturn, 1) := by decide +kernel
theorem d_Mo_zone_129 : decode b_Mo_zone 129 = .ok (.aload_n 0, 1) := by decide +kernel
theorem d_Mo_zone_130 : decode b_Mo_zone 130 = .ok (.getfield 38, 3) := by decide +kernel
theorem d_Mo_zone_133 : decode b_Mo_zone 133 = .ok (.iload_n 1, 1) := by decide +kernel
theorem d_Mo_zone_134 : decode b_Mo_zone 134 = .ok (.iaload, 1) := by decide +kernel
theorem d_Mo_zone_135 : decode b_Mo_zone 135 = .ok (.ireturn, 1) := by decide +kernel
abbrev b_Mo_time : ByteArray := prog_14_method_80_code
def y_Mo_time : MethodName := ⟨"ZoneFilesModel", "time", "(II)J"⟩
theorem d_Mo_time_0 : decode b_Mo_time 0 = .ok (.aload_n 0, 1) := by decide +kernel
theorem d_Mo_time_1 : decode b_Mo_time 1 = .ok (.aload_n 0, 1) := by decide +kernel
theorem d_Mo_time_2 : decode b_Mo_time 2 = .ok (.iload_n 1, 1) := by decide +kernel
theorem d_Mo_time_3 : decode b_Mo_time 3 = .ok (.invokevirtual 423, 3) := by decide +kernel
theorem d_Mo_time_6 : decode b_Mo_time 6 = .ok (.ifCond .ne 17, 3) := by decide +kernel
theorem d_Mo_time_9 : decode b_Mo_time 9 = .ok (.iload_n 2, 1) := by decide +kernel
theorem d_Mo_time_10 : decode b_Mo_time 10 = .ok (.ifCond .lt 13, 3) := by decide +kernel
theorem d_Mo_time_13 : decode b_Mo_time 13 = .ok (.iload_n 2, 1) := by decide +kernel
theorem d_Mo_time_14 : decode b_Mo_time 14 = .ok (.aload_n 0, 1) := by decide +kernel
theorem d_Mo_time_15 : decode b_Mo_time 15 = .ok (.getfield 20, 3) := by decide +kernel
theorem d_Mo_time_18 : decode b_Mo_time 18 = .ok (.iload_n 1, 1) := by decide +kernel
theorem d_Mo_time_19 : decode b_Mo_time 19 = .ok (.iaload, 1) := by decide +kernel
theorem d_Mo_time_20 : decode b_Mo_time 20 = .ok (.if_icmp .lt 7, 3) := by decide +kernel
theorem d_Mo_time_23 : decode b_Mo_time 23 = .ok (.iconst 1, 1) := by decide +kernel
theorem d_Mo_time_24 : decode b_Mo_time 24 = .ok (.goto 4, 3) := by decide +kernel
theorem d_Mo_time_27 : decode b_Mo_time 27 = .ok (.iconst 0, 1) := by decide +kernel
theorem d_Mo_time_28 : decode b_Mo_time 28 = .ok (.putfield 150, 3) := by decide +kernel
theorem d_Mo_time_31 : decode b_Mo_time 31 = .ok (.aload_n 0, 1) := by decide +kernel
theorem d_Mo_time_32 : decode b_Mo_time 32 = .ok (.getfield 150, 3) := by decide +kernel
theorem d_Mo_time_35 : decode b_Mo_time 35 = .ok (.ifCond .le 7, 3) := by decide +kernel
theorem d_Mo_time_38 : decode b_Mo_time 38 = .ok (.lconst 0, 1) := by decide +kernel
theorem d_Mo_time_39 : decode b_Mo_time 39 = .ok (.goto 15, 3) := by decide +kernel
theorem d_Mo_time_42 : decode b_Mo_time 42 = .ok (.aload_n 0, 1) := by decide +kernel
theorem d_Mo_time_43 : decode b_Mo_time 43 = .ok (.getfield 41, 3) := by decide +kernel
theorem d_Mo_time_46 : decode b_Mo_time 46 = .ok (.sipush 200, 3) := by decide +kernel
theorem d_Mo_time_49 : decode b_Mo_time 49 = .ok (.iload_n 1, 1) := by decide +kernel
theorem d_Mo_time_50 : decode b_Mo_time 50 = .ok (.imul, 1) := by decide +kernel
theorem d_Mo_time_51 : decode b_Mo_time 51 = .ok (.iload_n 2, 1) := by decide +kernel
theorem d_Mo_time_52 : decode b_Mo_time 52 = .ok (.iadd, 1) := by decide +kernel
theorem d_Mo_time_53 : decode b_Mo_time 53 = .ok (.laload, 1) := by decide +kernel
theorem d_Mo_time_54 : decode b_Mo_time 54 = .ok (.lreturn, 1) := by decide +kernel
abbrev b_Mo_typeAt : ByteArray := prog_14_method_81_code
def y_Mo_typeAt : MethodName := ⟨"ZoneFilesModel", "typeAt", "(II)I"⟩
theorem d_Mo_typeAt_0 : decode b_Mo_typeAt 0 = .ok (.aload_n 0, 1) := by decide +kernel
theorem d_Mo_typeAt_1 : decode b_Mo_typeAt 1 = .ok (.aload_n 0, 1) := by decide +kernel
theorem d_Mo_typeAt_2 : decode b_Mo_typeAt 2 = .ok (.iload_n 1, 1) := by decide +kernel
theorem d_Mo_typeAt_3 : decode b_Mo_typeAt 3 = .ok (.invokevirtual 423, 3) := by decide +kernel
theorem d_Mo_typeAt_6 : decode b_Mo_typeAt 6 = .ok (.ifCond .ne 17, 3) := by decide +kernel
theorem d_Mo_typeAt_9 : decode b_Mo_typeAt 9 = .ok (.iload_n 2, 1) := by decide +kernel
theorem d_Mo_typeAt_10 : decode b_Mo_typeAt 10 = .ok (.ifCond .lt 13, 3) := by decide +kernel
theorem d_Mo_typeAt_13 : decode b_Mo_typeAt 13 = .ok (.iload_n 2, 1) := by decide +kernel
theorem d_Mo_typeAt_14 : decode b_Mo_typeAt 14 = .ok (.aload_n 0, 1) := by decide +kernel
theorem d_Mo_typeAt_15 : decode b_Mo_typeAt 15 = .ok (.getfield 20, 3) := by decide +kernel
theorem d_Mo_typeAt_18 : decode b_Mo_typeAt 18 = .ok (.iload_n 1, 1) := by decide +kernel
theorem d_Mo_typeAt_19 : decode b_Mo_typeAt 19 = .ok (.iaload, 1) := by decide +kernel
theorem d_Mo_typeAt_20 : decode b_Mo_typeAt 20 = .ok (.if_icmp .lt 7, 3) := by decide +kernel
theorem d_Mo_typeAt_23 : decode b_Mo_typeAt 23 = .ok (.iconst 1, 1) := by decide +kernel
theorem d_Mo_typeAt_24 : decode b_Mo_typeAt 24 = .ok (.goto 4, 3) := by decide +kernel
theorem d_Mo_typeAt_27 : decode b_Mo_typeAt 27 = .ok (.iconst 0, 1) := by decide +kernel
theorem d_Mo_typeAt_28 : decode b_Mo_typeAt 28 = .ok (.putfield 150, 3) := by decide +kernel
theorem d_Mo_typeAt_31 : decode b_Mo_typeAt 31 = .ok (.aload_n 0, 1) := by decide +kernel
theorem d_Mo_typeAt_32 : decode b_Mo_typeAt 32 = .ok (.getfield 150, 3) := by decide +kernel
theorem d_Mo_typeAt_35 : decode b_Mo_typeAt 35 = .ok (.ifCond .le 7, 3) := by decide +kernel
theorem d_Mo_typeAt_38 : decode b_Mo_typeAt 38 = .ok (.iconst 0, 1) := by decide +kernel
theorem d_Mo_typeAt_39 : decode b_Mo_typeAt 39 = .ok (.goto 15, 3) := by decide +kernel
theorem d_Mo_typeAt_42 : decode b_Mo_typeAt 42 = .ok (.aload_n 0, 1) := by decide +kernel
theorem d_Mo_typeAt_43 : decode b_Mo_typeAt 43 = .ok (.getfield 45, 3) := by decide +kernel
theorem d_Mo_typeAt_46 : decode b_Mo_typeAt 46 = .ok (.sipush 200, 3) := by decide +kernel
theorem d_Mo_typeAt_49 : decode b_Mo_typeAt 49 = .ok (.iload_n 1, 1) := by decide +kernel
theorem d_Mo_typeAt_50 : decode b_Mo_typeAt 50 = .ok (.imul, 1) := by decide +kernel
theorem d_Mo_typeAt_51 : decode b_Mo_typeAt 51 = .ok (.iload_n 2, 1) := by decide +kernel
theorem d_Mo_typeAt_52 : decode b_Mo_typeAt 52 = .ok (.iadd, 1) := by decide +kernel
theorem d_Mo_typeAt_53 : decode b_Mo_typeAt 53 = .ok (.iaload, 1) := by decide +kernel
theorem d_Mo_typeAt_54 : decode b_Mo_typeAt 54 = .ok (.ireturn, 1) := by decide +kernel
abbrev b_Mo_type : ByteArray := prog_14_method_82_code
def y_Mo_type : MethodName := ⟨"ZoneFilesModel", "type", "(III)I"⟩
theorem d_Mo_type_0 : decode b_Mo_type 0 = .ok (.aload_n 0, 1) := by decide +kernel
theorem d_Mo_type_1 : decode b_Mo_type 1 = .ok (.aload_n 0, 1) := by decide +kernel
theorem d_Mo_type_2 : decode b_Mo_type 2 = .ok (.iload_n 1, 1) := by decide +kernel
theorem d_Mo_type_3 : decode b_Mo_type 3 = .ok (.invokevirtual 423, 3) := by decide +kernel
theorem d_Mo_type_6 : decode b_Mo_type 6 = .ok (.ifCond .ne 26, 3) := by decide +kernel
theorem d_Mo_type_9 : decode b_Mo_type 9 = .ok (.iload_n 2, 1) := by decide +kernel
theorem d_Mo_type_10 : decode b_Mo_type 10 = .ok (.ifCond .lt 22, 3) := by decide +kernel
theorem d_Mo_type_13 : decode b_Mo_type 13 = .ok (.iload_n 2, 1) := by decide +kernel
theorem d_Mo_type_14 : decode b_Mo_type 14 = .ok (.aload_n 0, 1) := by decide +kernel
theorem d_Mo_type_15 : decode b_Mo_type 15 = .ok (.getfield 23, 3) := by decide +kernel
theorem d_Mo_type_18 : decode b_Mo_type 18 = .ok (.iload_n 1, 1) := by decide +kernel
theorem d_Mo_type_19 : decode b_Mo_type 19 = .ok (.iaload, 1) := by decide +kernel
theorem d_Mo_type_20 : decode b_Mo_type 20 = .ok (.if_icmp .ge 12, 3) := by decide +kernel
theorem d_Mo_type_23 : decode b_Mo_type 23 = .ok (.iload_n 3, 1) := by decide +kernel
theorem d_Mo_type_24 : decode b_Mo_type 24 = .ok (.ifCond .lt 8, 3) := by decide +kernel
theorem d_Mo_type_27 : decode b_Mo_type 27 = .ok (.iload_n 3, 1) := by decide +kernel
theorem d_Mo_type_28 : decode b_Mo_type 28 = .ok (.iconst 5, 1) := by decide +kernel
theorem d_Mo_type_29 : decode b_Mo_type 29 = .ok (.if_icmp .le 7, 3) := by decide +kernel
theorem d_Mo_type_32 : decode b_Mo_type 32 = .ok (.iconst 1, 1) := by decide +kernel
theorem d_Mo_type_33 : decode b_Mo_type 33 = .ok (.goto 4, 3) := by decide +kernel
theorem d_Mo_type_36 : decode b_Mo_type 36 = .ok (.iconst 0, 1) := by decide +kernel
theorem d_Mo_type_37 : decode b_Mo_type 37 = .ok (.putfield 150, 3) := by decide +kernel
theorem d_Mo_type_40 : decode b_Mo_type 40 = .ok (.aload_n 0, 1) := by decide +kernel
theorem d_Mo_type_41 : decode b_Mo_type 41 = .ok (.getfield 150, 3) := by decide +kernel
theorem d_Mo_type_44 : decode b_Mo_type 44 = .ok (.ifCond .le 5, 3) := by decide +kernel
theorem d_Mo_type_47 : decode b_Mo_type 47 = .ok (.iconst 0, 1) := by decide +kernel
theorem d_Mo_type_48 : decode b_Mo_type 48 = .ok (.ireturn, 1) := by decide +kernel
theorem d_Mo_type_49 : decode b_Mo_type 49 = .ok (.bipush 40, 2) := by decide +kernel
theorem d_Mo_type_51 : decode b_Mo_type 51 = .ok (.iload_n 1, 1) := by decide +kernel
theorem d_Mo_type_52 : decode b_Mo_type 52 = .ok (.imul, 1) := by decide +kernel
theorem d_Mo_type_53 : decode b_Mo_type 53 = .ok (.iload_n 2, 1) := by decide +kernel
theorem d_Mo_type_54 : decode b_Mo_type 54 = .ok (.iadd, 1) := by decide +kernel
theorem d_Mo_type_55 : decode b_Mo_type 55 = .ok (.istore 4, 2) := by decide +kernel
theorem d_Mo_type_57 : decode b_Mo_type 57 = .ok (.iload_n 3, 1) := by decide +kernel
theorem d_Mo_type_58 : decode b_Mo_type 58 = .ok (.tableswitch 86 0 4 #[34, 42, 50, 58, 65], 34) := by decide +kernel
theorem d_Mo_type_92 : decode b_Mo_type 92 = .ok (.aload_n 0, 1) := by decide +kernel
theorem d_Mo_type_93 : decode b_Mo_type 93 = .ok (.getfield 48, 3) := by decide +kernel
theorem d_Mo_type_96 : decode b_Mo_type 96 = .ok (.iload 4, 2) := by decide +kernel
theorem d_Mo_type_98 : decode b_Mo_type 98 = .ok (.iaload, 1) := by decide +kernel
theorem d_Mo_type_99 : decode b_Mo_type 99 = .ok (.ireturn, 1) := by decide +kernel
theorem d_Mo_type_100 : decode b_Mo_type 100 = .ok (.aload_n 0, 1) := by decide +kernel
theorem d_Mo_type_101 : decode b_Mo_type 101 = .ok (.getfield 51, 3) := by decide +kernel
theorem d_Mo_type_104 : decode b_Mo_type 104 = .ok (.iload 4, 2) := by decide +kernel
theorem d_Mo_type_106 : decode b_Mo_type 106 = .ok (.iaload, 1) := by decide +kernel
theorem d_Mo_type_107 : decode b_Mo_type 107 = .ok (.ireturn, 1) := by decide +kernel
theorem d_Mo_type_108 : decode b_Mo_type 108 = .ok (.aload_n 0, 1) := by decide +kernel
theorem d_Mo_type_109 : decode b_Mo_type 109 = .ok (.getfield 54, 3) := by decide +kernel
theorem d_Mo_type_112 : decode b_Mo_type 112 = .ok (.iload 4, 2) := by decide +kernel
theorem d_Mo_type_114 : decode b_Mo_type 114 = .ok (.iaload, 1) := by decide +kernel
theorem d_Mo_type_115 : decode b_Mo_type 115 = .ok (.ireturn, 1) := by decide +kernel
theorem d_Mo_type_116 : decode b_Mo_type 116 = .ok (.aload_n 0, 1) := by decide +kernel
theorem d_Mo_type_117 : decode b_Mo_type 117 = .ok (.iload_n 1, 1) := by decide +kernel
theorem d_Mo_type_118 : decode b_Mo_type 118 = .ok (.iload_n 2, 1) := by decide +kernel
theorem d_Mo_type_119 : decode b_Mo_type 119 = .ok (.invokevirtual 260, 3) := by decide +kernel
theorem d_Mo_type_122 : decode b_Mo_type 122 = .ok (.ireturn, 1) := by decide +kernel
theorem d_Mo_type_123 : decode b_Mo_type 123 = .ok (.aload_n 0, 1) := by decide +kernel
theorem d_Mo_type_124 : decode b_Mo_type 124 = .ok (.getfield 32, 3) := by decide +kernel
theorem d_Mo_type_127 : decode b_Mo_type 127 = .ok (.iload_n 1, 1) := by decide +kernel
theorem d_Mo_type_128 : decode b_Mo_type 128 = .ok (.iaload, 1) := by decide +kernel
theorem d_Mo_type_129 : decode b_Mo_type 129 = .ok (.ifCond .le 13, 3) := by decide +kernel
theorem d_Mo_type_132 : decode b_Mo_type 132 = .ok (.aload_n 0, 1) := by decide +kernel
theorem d_Mo_type_133 : decode b_Mo_type 133 = .ok (.getfield 66, 3) := by decide +kernel
theorem d_Mo_type_136 : decode b_Mo_type 136 = .ok (.iload 4, 2) := by decide +kernel
theorem d_Mo_type_138 : decode b_Mo_type 138 = .ok (.iaload, 1) := by decide +kernel
theorem d_Mo_type_139 : decode b_Mo_type 139 = .ok (.goto 4, 3) := by decide +kernel
theorem d_Mo_type_142 : decode b_Mo_type 142 = .ok (.iconst 0, 1) := by decide +kernel
theorem d_Mo_type_143 : decode b_Mo_type 143 = .ok (.ireturn, 1) := by decide +kernel
theorem d_Mo_type_144 : decode b_Mo_type 144 = .ok (.aload_n 0, 1) := by decide +kernel
theorem d_Mo_type_145 : decode b_Mo_type 145 = .ok (.getfield 35, 3) := by decide +kernel
theorem d_Mo_type_148 : decode b_Mo_type 148 = .ok (.iload_n 1, 1) := by decide +kernel
theorem d_Mo_type_149 : decode b_Mo_type 149 = .ok (.iaload, 1) := by decide +kernel
theorem d_Mo_type_150 : decode b_Mo_type 150 = .ok (.ifCond .le 13, 3) := by decide +kernel
theorem d_Mo_type_153 : decode b_Mo_type 153 = .ok (.aload_n 0, 1) := by decide +kernel
theorem d_Mo_type_154 : decode b_Mo_type 154 = .ok (.getfield 69, 3) := by decide +kernel
theorem d_Mo_type_157 : decode b_Mo_type 157 = .ok (.iload 4, 2) := by decide +kernel
theorem d_Mo_type_159 : decode b_Mo_type 159 = .ok (.iaload, 1) := by decide +kernel
theorem d_Mo_type_160 : decode b_Mo_type 160 = .ok (.goto 4, 3) := by decide +kernel
theorem d_Mo_type_163 : decode b_Mo_type 163 = .ok (.iconst 0, 1) := by decide +kernel
theorem d_Mo_type_164 : decode b_Mo_type 164 = .ok (.ireturn, 1) := by decide +kernel
abbrev b_Mo_letter : ByteArray := prog_14_method_83_code
def y_Mo_letter : MethodName := ⟨"ZoneFilesModel", "letter", "(III)I"⟩
theorem d_Mo_letter_0 : decode b_Mo_letter 0 = .ok (.aload_n 0, 1) := by decide +kernel
theorem d_Mo_letter_1 : decode b_Mo_letter 1 = .ok (.aload_n 0, 1) := by decide +kernel
theorem d_Mo_letter_2 : decode b_Mo_letter 2 = .ok (.iload_n 1, 1) := by decide +kernel
theorem d_Mo_letter_3 : decode b_Mo_letter 3 = .ok (.invokevirtual 423, 3) := by decide +kernel
theorem d_Mo_letter_6 : decode b_Mo_letter 6 = .ok (.ifCond .ne 39, 3) := by decide +kernel
theorem d_Mo_letter_9 : decode b_Mo_letter 9 = .ok (.iload_n 2, 1) := by decide +kernel
theorem d_Mo_letter_10 : decode b_Mo_letter 10 = .ok (.ifCond .lt 35, 3) := by decide +kernel
theorem d_Mo_letter_13 : decode b_Mo_letter 13 = .ok (.iload_n 2, 1) := by decide +kernel
theorem d_Mo_letter_14 : decode b_Mo_letter 14 = .ok (.iconst 1, 1) := by decide +kernel
theorem d_Mo_letter_15 : decode b_Mo_letter 15 = .ok (.if_icmp .gt 30, 3) := by decide +kernel
theorem d_Mo_letter_18 : decode b_Mo_letter 18 = .ok (.iload_n 3, 1) := by decide +kernel
theorem d_Mo_letter_19 : decode b_Mo_letter 19 = .ok (.ifCond .lt 26, 3) := by decide +kernel
theorem d_Mo_letter_22 : decode b_Mo_letter 22 = .ok (.iload_n 3, 1) := by decide +kernel
theorem d_Mo_letter_23 : decode b_Mo_letter 23 = .ok (.iload_n 2, 1) := by decide +kernel
theorem d_Mo_letter_24 : decode b_Mo_letter 24 = .ok (.ifCond .ne 12, 3) := by decide +kernel
theorem d_Mo_letter_27 : decode b_Mo_letter 27 = .ok (.aload_n 0, 1) := by decide +kernel
theorem d_Mo_letter_28 : decode b_Mo_letter 28 = .ok (.getfield 26, 3) := by decide +kernel
theorem d_Mo_letter_31 : decode b_Mo_letter 31 = .ok (.iload_n 1, 1) := by decide +kernel
theorem d_Mo_letter_32 : decode b_Mo_letter 32 = .ok (.iaload, 1) := by decide +kernel
theorem d_Mo_letter_33 : decode b_Mo_letter 33 = .ok (.goto 9, 3) := by decide +kernel
theorem d_Mo_letter_36 : decode b_Mo_letter 36 = .ok (.aload_n 0, 1) := by decide +kernel
theorem d_Mo_letter_37 : decode b_Mo_letter 37 = .ok (.getfield 38, 3) := by decide +kernel
theorem d_Mo_letter_40 : decode b_Mo_letter 40 = .ok (.iload_n 1, 1) := by decide +kernel
theorem d_Mo_letter_41 : decode b_Mo_letter 41 = .ok (.iaload, 1) := by decide +kernel
theorem d_Mo_letter_42 : decode b_Mo_letter 42 = .ok (.if_icmp .lt 7, 3) := by decide +kernel
theorem d_Mo_letter_45 : decode b_Mo_letter 45 = .ok (.iconst 1, 1) := by decide +kernel
theorem d_Mo_letter_46 : decode b_Mo_letter 46 = .ok (.goto 4, 3) := by decide +kernel
theorem d_Mo_letter_49 : decode b_Mo_letter 49 = .ok (.iconst 0, 1) := by decide +kernel
theorem d_Mo_letter_50 : decode b_Mo_letter 50 = .ok (.putfield 150, 3) := by decide +kernel
theorem d_Mo_letter_53 : decode b_Mo_letter 53 = .ok (.aload_n 0, 1) := by decide +kernel
theorem d_Mo_letter_54 : decode b_Mo_letter 54 = .ok (.getfield 150, 3) := by decide +kernel
theorem d_Mo_letter_57 : decode b_Mo_letter 57 = .ok (.ifCond .le 7, 3) := by decide +kernel
theorem d_Mo_letter_60 : decode b_Mo_letter 60 = .ok (.iconst 0, 1) := by decide +kernel
theorem d_Mo_letter_61 : decode b_Mo_letter 61 = .ok (.goto 34, 3) := by decide +kernel
theorem d_Mo_letter_64 : decode b_Mo_letter 64 = .ok (.iload_n 2, 1) := by decide +kernel
theorem d_Mo_letter_65 : decode b_Mo_letter 65 = .ok (.ifCond .ne 18, 3) := by decide +kernel
theorem d_Mo_letter_68 : decode b_Mo_letter 68 = .ok (.aload_n 0, 1) := by decide +kernel
theorem d_Mo_letter_69 : decode b_Mo_letter 69 = .ok (.getfield 57, 3) := by decide +kernel
theorem d_Mo_letter_72 : decode b_Mo_letter 72 = .ok (.sipush 200, 3) := by decide +kernel
theorem d_Mo_letter_75 : decode b_Mo_letter 75 = .ok (.iload_n 1, 1) := by decide +kernel
theorem d_Mo_letter_76 : decode b_Mo_letter 76 = .ok (.imul, 1) := by decide +kernel
theorem d_Mo_letter_77 : decode b_Mo_letter 77 = .ok (.iload_n 3, 1) := by decide +kernel
theorem d_Mo_letter_78 : decode b_Mo_letter 78 = .ok (.iadd, 1) := by decide +kernel
theorem d_Mo_letter_79 : decode b_Mo_letter 79 = .ok (.iaload, 1) := by decide +kernel
theorem d_Mo_letter_80 : decode b_Mo_letter 80 = .ok (.goto 15, 3) := by decide +kernel
theorem d_Mo_letter_83 : decode b_Mo_letter 83 = .ok (.aload_n 0, 1) := by decide +kernel
theorem d_Mo_letter_84 : decode b_Mo_letter 84 = .ok (.getfield 72, 3) := by decide +kernel
theorem d_Mo_letter_87 : decode b_Mo_letter 87 = .ok (.sipush 128, 3) := by decide +kernel
theorem d_Mo_letter_90 : decode b_Mo_letter 90 = .ok (.iload_n 1, 1) := by decide +kernel
theorem d_Mo_letter_91 : decode b_Mo_letter 91 = .ok (.imul, 1) := by decide +kernel
theorem d_Mo_letter_92 : decode b_Mo_letter 92 = .ok (.iload_n 3, 1) := by decide +kernel
theorem d_Mo_letter_93 : decode b_Mo_letter 93 = .ok (.iadd, 1) := by decide +kernel
theorem d_Mo_letter_94 : decode b_Mo_letter 94 = .ok (.iaload, 1) := by decide +kernel
theorem d_Mo_letter_95 : decode b_Mo_letter 95 = .ok (.ireturn, 1) := by decide +kernel
abbrev b_Mo_leap : ByteArray := prog_14_method_84_code
def y_Mo_leap : MethodName := ⟨"ZoneFilesModel", "leap", "(III)J"⟩
theorem d_Mo_leap_0 : decode b_Mo_leap 0 = .ok (.aload_n 0, 1) := by decide +kernel
theorem d_Mo_leap_1 : decode b_Mo_leap 1 = .ok (.aload_n 0, 1) := by decide +kernel
theorem d_Mo_leap_2 : decode b_Mo_leap 2 = .ok (.iload_n 1, 1) := by decide +kernel
theorem d_Mo_leap_3 : decode b_Mo_leap 3 = .ok (.invokevirtual 423, 3) := by decide +kernel
theorem d_Mo_leap_6 : decode b_Mo_leap 6 = .ok (.ifCond .ne 26, 3) := by decide +kernel
theorem d_Mo_leap_9 : decode b_Mo_leap 9 = .ok (.iload_n 2, 1) := by decide +kernel
theorem d_Mo_leap_10 : decode b_Mo_leap 10 = .ok (.ifCond .lt 22, 3) := by decide +kernel
theorem d_Mo_leap_13 : decode b_Mo_leap 13 = .ok (.iload_n 2, 1) := by decide +kernel
theorem d_Mo_leap_14 : decode b_Mo_leap 14 = .ok (.aload_n 0, 1) := by decide +kernel
theorem d_Mo_leap_15 : decode b_Mo_leap 15 = .ok (.getfield 29, 3) := by decide +kernel
theorem d_Mo_leap_18 : decode b_Mo_leap 18 = .ok (.iload_n 1, 1) := by decide +kernel
theorem d_Mo_leap_19 : decode b_Mo_leap 19 = .ok (.iaload, 1) := by decide +kernel
theorem d_Mo_leap_20 : decode b_Mo_leap 20 = .ok (.if_icmp .ge 12, 3) := by decide +kernel
theorem d_Mo_leap_23 : decode b_Mo_leap 23 = .ok (.iload_n 3, 1) := by decide +kernel
theorem d_Mo_leap_24 : decode b_Mo_leap 24 = .ok (.ifCond .lt 8, 3) := by decide +kernel
theorem d_Mo_leap_27 : decode b_Mo_leap 27 = .ok (.iload_n 3, 1) := by decide +kernel
theorem d_Mo_leap_28 : decode b_Mo_leap 28 = .ok (.iconst 1, 1) := by decide +kernel
theorem d_Mo_leap_29 : decode b_Mo_leap 29 = .ok (.if_icmp .le 7, 3) := by decide +kernel
theorem d_Mo_leap_32 : decode b_Mo_leap 32 = .ok (.iconst 1, 1) := by decide +kernel
theorem d_Mo_leap_33 : decode b_Mo_leap 33 = .ok (.goto 4, 3) := by decide +kernel
theorem d_Mo_leap_36 : decode b_Mo_leap 36 = .ok (.iconst 0, 1) := by decide +kernel
theorem d_Mo_leap_37 : decode b_Mo_leap 37 = .ok (.putfield 150, 3) := by decide +kernel
theorem d_Mo_leap_40 : decode b_Mo_leap 40 = .ok (.aload_n 0, 1) := by decide +kernel
theorem d_Mo_leap_41 : decode b_Mo_leap 41 = .ok (.getfield 150, 3) := by decide +kernel
theorem d_Mo_leap_44 : decode b_Mo_leap 44 = .ok (.ifCond .le 7, 3) := by decide +kernel
theorem d_Mo_leap_47 : decode b_Mo_leap 47 = .ok (.lconst 0, 1) := by decide +kernel
theorem d_Mo_leap_48 : decode b_Mo_leap 48 = .ok (.goto 32, 3) := by decide +kernel
theorem d_Mo_leap_51 : decode b_Mo_leap 51 = .ok (.iload_n 3, 1) := by decide +kernel
theorem d_Mo_leap_52 : decode b_Mo_leap 52 = .ok (.ifCond .ne 17, 3) := by decide +kernel
theorem d_Mo_leap_55 : decode b_Mo_leap 55 = .ok (.aload_n 0, 1) := by decide +kernel
theorem d_Mo_leap_56 : decode b_Mo_leap 56 = .ok (.getfield 60, 3) := by decide +kernel
theorem d_Mo_leap_59 : decode b_Mo_leap 59 = .ok (.bipush 40, 2) := by decide +kernel
theorem d_Mo_leap_61 : decode b_Mo_leap 61 = .ok (.iload_n 1, 1) := by decide +kernel
theorem d_Mo_leap_62 : decode b_Mo_leap 62 = .ok (.imul, 1) := by decide +kernel
theorem d_Mo_leap_63 : decode b_Mo_leap 63 = .ok (.iload_n 2, 1) := by decide +kernel
theorem d_Mo_leap_64 : decode b_Mo_leap 64 = .ok (.iadd, 1) := by decide +kernel
theorem d_Mo_leap_65 : decode b_Mo_leap 65 = .ok (.laload, 1) := by decide +kernel
theorem d_Mo_leap_66 : decode b_Mo_leap 66 = .ok (.goto 14, 3) := by decide +kernel
theorem d_Mo_leap_69 : decode b_Mo_leap 69 = .ok (.aload_n 0, 1) := by decide +kernel
theorem d_Mo_leap_70 : decode b_Mo_leap 70 = .ok (.getfield 63, 3) := by decide +kernel
theorem d_Mo_leap_73 : decode b_Mo_leap 73 = .ok (.bipush 40, 2) := by decide +kernel
theorem d_Mo_leap_75 : decode b_Mo_leap 75 = .ok (.iload_n 1, 1) := by decide +kernel
theorem d_Mo_leap_76 : decode b_Mo_leap 76 = .ok (.imul, 1) := by decide +kernel
theorem d_Mo_leap_77 : decode b_Mo_leap 77 = .ok (.iload_n 2, 1) := by decide +kernel
theorem d_Mo_leap_78 : decode b_Mo_leap 78 = .ok (.iadd, 1) := by decide +kernel
theorem d_Mo_leap_79 : decode b_Mo_leap 79 = .ok (.laload, 1) := by decide +kernel
theorem d_Mo_leap_80 : decode b_Mo_leap 80 = .ok (.lreturn, 1) := by decide +kernel
abbrev b_Mo_isBlank : ByteArray := prog_14_method_85_code
def y_Mo_isBlank : MethodName := ⟨"ZoneFilesModel", "isBlank", "(I)Z"⟩
theorem d_Mo_isBlank_0 : decode b_Mo_isBlank 0 = .ok (.iload_n 0, 1) := by decide +kernel
theorem d_Mo_isBlank_1 : decode b_Mo_isBlank 1 = .ok (.bipush 32, 2) := by decide +kernel
theorem d_Mo_isBlank_3 : decode b_Mo_isBlank 3 = .ok (.if_icmp .eq 9, 3) := by decide +kernel
theorem d_Mo_isBlank_6 : decode b_Mo_isBlank 6 = .ok (.iload_n 0, 1) := by decide +kernel
theorem d_Mo_isBlank_7 : decode b_Mo_isBlank 7 = .ok (.bipush 9, 2) := by decide +kernel
theorem d_Mo_isBlank_9 : decode b_Mo_isBlank 9 = .ok (.if_icmp .ne 7, 3) := by decide +kernel
theorem d_Mo_isBlank_12 : decode b_Mo_isBlank 12 = .ok (.iconst 1, 1) := by decide +kernel
theorem d_Mo_isBlank_13 : decode b_Mo_isBlank 13 = .ok (.goto 4, 3) := by decide +kernel
theorem d_Mo_isBlank_16 : decode b_Mo_isBlank 16 = .ok (.iconst 0, 1) := by decide +kernel
theorem d_Mo_isBlank_17 : decode b_Mo_isBlank 17 = .ok (.ireturn, 1) := by decide +kernel
-- ZoneFilesModel.putBlock(II)V
def f_Mo_putBlock_272 (nf : Nat) : Nat → Int32 → Int32 → (Nat → Int32) → (Nat → Int64) → (Nat → Nat → Int32) → (Nat → Nat → Int64) → Option ((Nat → Int32) × (Nat → Int64) × (Nat → Nat → Int32) × (Nat → Nat → Int64))
  | 0, _, _, _, _, _, _ => none
  | n + 1, x3, x1, si, sj, sa, sb =>
    if x1 < 0 ∨ 5 ≤ x1.toNatClampNeg then none else
    if ((40 * x1) + (sa 10 x1.toNatClampNeg)) ≤ x3 then
    some (si, sj, sa, sb)
    else
    if x3 < 0 ∨ 200 ≤ x3.toNatClampNeg then none else
      (f_Mo_putNumber nf ((sa 21 x3.toNatClampNeg).toInt64) 1 si sj sa sb).bind fun (i_16, j_17, a_18, b_19) =>
      f_Mo_putBlock_272 nf n (x3 + 1) x1 i_16 j_17 a_18 b_19
def f_Mo_putBlock_234 (nf : Nat) : Nat → Int32 → Int32 → (Nat → Int32) → (Nat → Int64) → (Nat → Nat → Int32) → (Nat → Nat → Int64) → Option ((Nat → Int32) × (Nat → Int64) × (Nat → Nat → Int32) × (Nat → Nat → Int64))
  | 0, _, _, _, _, _, _ => none
  | n + 1, x3, x1, si, sj, sa, sb =>
    if x1 < 0 ∨ 5 ≤ x1.toNatClampNeg then none else
    if ((40 * x1) + (sa 9 x1.toNatClampNeg)) ≤ x3 then
    f_Mo_putBlock_272 nf nf (40 * x1) x1 si sj sa sb
    else
    if x3 < 0 ∨ 200 ≤ x3.toNatClampNeg then none else
      (f_Mo_putNumber nf ((sa 20 x3.toNatClampNeg).toInt64) 1 si sj sa sb).bind fun (i_21, j_22, a_23, b_24) =>
      f_Mo_putBlock_234 nf n (x3 + 1) x1 i_21 j_22 a_23 b_24
def f_Mo_putBlock_186 (nf : Nat) : Nat → Int32 → Int32 → Int32 → (Nat → Int32) → (Nat → Int64) → (Nat → Nat → Int32) → (Nat → Nat → Int64) → Option ((Nat → Int32) × (Nat → Int64) × (Nat → Nat → Int32) × (Nat → Nat → Int64))
  | 0, _, _, _, _, _, _, _ => none
  | n + 1, x3, x1, x2, si, sj, sa, sb =>
    if x1 < 0 ∨ 5 ≤ x1.toNatClampNeg then none else
    if ((40 * x1) + (sa 8 x1.toNatClampNeg)) ≤ x3 then
    f_Mo_putBlock_234 nf nf (40 * x1) x1 si sj sa sb
    else
    if x3 < 0 ∨ 200 ≤ x3.toNatClampNeg then none else
      (f_Mo_putNumber nf (sb 18 x3.toNatClampNeg) x2 si sj sa sb).bind fun (i_26, j_27, a_28, b_29) =>
      if x3 < 0 ∨ 200 ≤ x3.toNatClampNeg then none else
      (f_Mo_putNumber nf (b_29 19 x3.toNatClampNeg) 4 i_26 j_27 a_28 b_29).bind fun (i_31, j_32, a_33, b_34) =>
      f_Mo_putBlock_186 nf n (x3 + 1) x1 x2 i_31 j_32 a_33 b_34
def f_Mo_putBlock_147 (nf : Nat) : Nat → Int32 → Int32 → Int32 → (Nat → Int32) → (Nat → Int64) → (Nat → Nat → Int32) → (Nat → Nat → Int64) → Option ((Nat → Int32) × (Nat → Int64) × (Nat → Nat → Int32) × (Nat → Nat → Int64))
  | 0, _, _, _, _, _, _, _ => none
  | n + 1, x3, x1, x2, si, sj, sa, sb =>
    if x1 < 0 ∨ 5 ≤ x1.toNatClampNeg then none else
    if ((200 * x1) + (sa 7 x1.toNatClampNeg)) ≤ x3 then
    f_Mo_putBlock_186 nf nf (40 * x1) x1 x2 si sj sa sb
    else
    if x3 < 0 ∨ 1000 ≤ x3.toNatClampNeg then none else
      (f_Mo_putNumber nf ((sa 17 x3.toNatClampNeg).toInt64) 1 si sj sa sb).bind fun (i_36, j_37, a_38, b_39) =>
      f_Mo_putBlock_147 nf n (x3 + 1) x1 x2 i_36 j_37 a_38 b_39
def f_Mo_putBlock_84 (nf : Nat) : Nat → Int32 → Int32 → Int32 → (Nat → Int32) → (Nat → Int64) → (Nat → Nat → Int32) → (Nat → Nat → Int64) → Option ((Nat → Int32) × (Nat → Int64) × (Nat → Nat → Int32) × (Nat → Nat → Int64))
  | 0, _, _, _, _, _, _, _ => none
  | n + 1, x3, x1, x2, si, sj, sa, sb =>
    if x1 < 0 ∨ 5 ≤ x1.toNatClampNeg then none else
    if ((40 * x1) + (sa 6 x1.toNatClampNeg)) ≤ x3 then
    f_Mo_putBlock_147 nf nf (200 * x1) x1 x2 si sj sa sb
    else
    if x3 < 0 ∨ 200 ≤ x3.toNatClampNeg then none else
      (f_Mo_putNumber nf ((sa 14 x3.toNatClampNeg).toInt64) 4 si sj sa sb).bind fun (i_41, j_42, a_43, b_44) =>
      if x3 < 0 ∨ 200 ≤ x3.toNatClampNeg then none else
      (f_Mo_putNumber nf ((a_43 15 x3.toNatClampNeg).toInt64) 1 i_41 j_42 a_43 b_44).bind fun (i_46, j_47, a_48, b_49) =>
      if x3 < 0 ∨ 200 ≤ x3.toNatClampNeg then none else
      (f_Mo_putNumber nf ((a_48 16 x3.toNatClampNeg).toInt64) 1 i_46 j_47 a_48 b_49).bind fun (i_51, j_52, a_53, b_54) =>
      f_Mo_putBlock_84 nf n (x3 + 1) x1 x2 i_51 j_52 a_53 b_54
def f_Mo_putBlock_45 (nf : Nat) : Nat → Int32 → Int32 → Int32 → (Nat → Int32) → (Nat → Int64) → (Nat → Nat → Int32) → (Nat → Nat → Int64) → Option ((Nat → Int32) × (Nat → Int64) × (Nat → Nat → Int32) × (Nat → Nat → Int64))
  | 0, _, _, _, _, _, _, _ => none
  | n + 1, x3, x1, x2, si, sj, sa, sb =>
    if x1 < 0 ∨ 5 ≤ x1.toNatClampNeg then none else
    if ((200 * x1) + (sa 5 x1.toNatClampNeg)) ≤ x3 then
    f_Mo_putBlock_84 nf nf (40 * x1) x1 x2 si sj sa sb
    else
    if x3 < 0 ∨ 1000 ≤ x3.toNatClampNeg then none else
      (f_Mo_putNumber nf ((sa 13 x3.toNatClampNeg).toInt64) 1 si sj sa sb).bind fun (i_56, j_57, a_58, b_59) =>
      f_Mo_putBlock_45 nf n (x3 + 1) x1 x2 i_56 j_57 a_58 b_59
def f_Mo_putBlock_6 (nf : Nat) : Nat → Int32 → Int32 → Int32 → (Nat → Int32) → (Nat → Int64) → (Nat → Nat → Int32) → (Nat → Nat → Int64) → Option ((Nat → Int32) × (Nat → Int64) × (Nat → Nat → Int32) × (Nat → Nat → Int64))
  | 0, _, _, _, _, _, _, _ => none
  | n + 1, x3, x1, x2, si, sj, sa, sb =>
    if x1 < 0 ∨ 5 ≤ x1.toNatClampNeg then none else
    if ((200 * x1) + (sa 5 x1.toNatClampNeg)) ≤ x3 then
    f_Mo_putBlock_45 nf nf (200 * x1) x1 x2 si sj sa sb
    else
    if x3 < 0 ∨ 1000 ≤ x3.toNatClampNeg then none else
      (f_Mo_putNumber nf (sb 12 x3.toNatClampNeg) x2 si sj sa sb).bind fun (i_61, j_62, a_63, b_64) =>
      f_Mo_putBlock_6 nf n (x3 + 1) x1 x2 i_61 j_62 a_63 b_64
def f_Mo_putBlock_0 (nf : Nat) (x1 : Int32) (x2 : Int32) (si : Nat → Int32) (sj : Nat → Int64) (sa : Nat → Nat → Int32) (sb : Nat → Nat → Int64) : Option ((Nat → Int32) × (Nat → Int64) × (Nat → Nat → Int32) × (Nat → Nat → Int64)) :=
  f_Mo_putBlock_6 nf nf (200 * x1) x1 x2 si sj sa sb
def f_Mo_putBlock (nf : Nat) (p0 : Int32) (p1 : Int32) (si : Nat → Int32) (sj : Nat → Int64) (sa : Nat → Nat → Int32) (sb : Nat → Nat → Int64) : Option ((Nat → Int32) × (Nat → Int64) × (Nat → Nat → Int32) × (Nat → Nat → Int64)) :=
  f_Mo_putBlock_0 nf p0 p1 si sj sa sb
section
variable {p : Program} {l : Launch} {e : Env} {R : Room} {s : State} {m : MethodId} {args : Array Value} {below : List Frame} {meth : Method} {c : Code} {Q : State → Prop} {dC : Nat → ClassId} {dI : Nat → Nat → Nat} {nf : Nat} {A : Nat → Prop} {h0 : Nat} {r : Nat → Nat} {cA : Nat → ClassId}
variable {vi : Nat → Int32} {vj : Nat → Int64} {va : Nat → Nat → Int32} {vb : Nat → Nat → Int64}
set_option maxHeartbeats 400000 in
set_option maxRecDepth 100000 in
theorem k_Mo_putBlock_272 (C0 : Cx p s m meth c args R b_Mo_putBlock "ZoneFilesModel" 4 none 1 24) (hST : ST A s s.heap) (hA : ∀ q, s.heap.size ≤ q → A q) (hK : va_K (dC, dI) classes (moT cA) s) (hE : ∀ (pc : Nat) (ls : Array Slot) (H : Heap) (locs : List Loc), decode b_Mo_putBlock pc = .ok (.return_, 1) → va_P (dC, dI) classes (moW h0 r cA vi vj va vb) H → va_D A (moW h0 r cA vi vj va vb) → va_S A s.heap H locs → W p l e R s m args below meth c H locs 0 0 Q (F0 m pc ls [])) : ∀ (n : Nat) {x3 : Int32} {x1 : Int32} {si : Nat → Int32} {sj : Nat → Int64} {sa : Nat → Nat → Int32} {sb : Nat → Nat → Int64}, f_Mo_putBlock_272 nf n x3 x1 si sj sa sb = some (vi, vj, va, vb) → ∀ {H : Heap} {locs : List Loc} {ls : Array Slot}, va_P (dC, dI) classes (moW h0 r cA si sj sa sb) H → va_D A (moW h0 r cA si sj sa sb) → va_S A s.heap H locs → lv_has ls 4 [(3, .int x3), (0, .ref h0), (1, .int x1)] → W p l e R s m args below meth c H locs 0 0 Q (F0 m 272 ls []) := by
  obtain ⟨hx, hb, hr, hml, hown, hts, hlocks, hRf, hRl⟩ := id C0
  intro n
  induction n with
  | zero =>
    intro x3 x1 si sj sa sb hf
    exact absurd hf (by simp [f_Mo_putBlock_272])
  | succ n ih =>
    intro x3 x1 si sj sa sb hf H locs ls hP hD hS hl
    unfold f_Mo_putBlock_272 at hf
    refine lv_iload_n hx hb d_Mo_putBlock_272 rfl (lv_at hl 0 rfl) ?_
    refine lv_bipush (v := 40) hx hb d_Mo_putBlock_273 (by decide) ?_
    refine lv_iload_n hx hb d_Mo_putBlock_275 rfl (lv_at hl 2 rfl) ?_
    refine lv_imul hx hb d_Mo_putBlock_276 ?_
    refine lv_aload_n hx hb d_Mo_putBlock_277 rfl (lv_at hl 1 rfl) ?_
    refine mg_10 hx hb hts hown hK hP d_Mo_putBlock_278 ?_
    refine lv_iload_n hx hb d_Mo_putBlock_281 rfl (lv_at hl 2 rfl) ?_
    obtain ⟨c_13, hf⟩ := it_n hf
    refine ma_10 (v := sa 10 x1.toNatClampNeg) hx hb hK hP c_13 rfl d_Mo_putBlock_282 ?_
    refine lv_iadd hx hb d_Mo_putBlock_283 ?_
    refine lv_icmp_ge (tgt := 305) hx hb d_Mo_putBlock_284 (by decide) (fun c_14 => ?_) (fun c_14 => ?_)
    · have hf := it_t c_14 hf
      cases rs hf
      exact hE _ _ _ _ d_Mo_putBlock_305 hP hD hS
    · have hf := it_f c_14 hf
      refine lv_aload_n hx hb d_Mo_putBlock_287 rfl (lv_at hl 1 rfl) ?_
      refine lv_aload_n hx hb d_Mo_putBlock_288 rfl (lv_at hl 1 rfl) ?_
      refine mg_21 hx hb hts hown hK hP d_Mo_putBlock_289 ?_
      refine lv_iload_n hx hb d_Mo_putBlock_292 rfl (lv_at hl 0 rfl) ?_
      obtain ⟨c_15, hf⟩ := it_n hf
      refine ma_21 (v := sa 21 x3.toNatClampNeg) hx hb hK hP c_15 rfl d_Mo_putBlock_293 ?_
      refine lv_i2l hx hb d_Mo_putBlock_294 rfl ?_
      refine lv_iconst (v := 1) hx hb d_Mo_putBlock_295 (by decide) ?_
      obtain ⟨⟨i_16, j_17, a_18, b_19⟩, hc, hf⟩ := ob hf
      have hFc := mo_free hD hS hA
      refine cl_M (v := none) (st1 := []) (va_runV (As := [.long ((sa 21 x3.toNatClampNeg).toInt64), .int 1]) (rest := []) ⟨hx, hb, hml, hown, hts⟩ (c_Mo_putNumber l dC dI h0 r cA H.size nf ((sa 21 x3.toNatClampNeg).toInt64) 1 si sj sa sb hc) (cwV 2 hts (gdV m_8_124 m_8_126 msel_95 m_1_10 m_8_127) rfl rfl rfl (by decide +kernel) ⟨Nat.le_trans (Nat.le_of_ble_eq_true rfl) hRf, Nat.le_trans (Nat.le_of_ble_eq_true rfl) hRl⟩) ((MU.pre hP hK hD (hST.mu hS hFc)).vir (va_recv hK hP (ci := 10) (q0 := 0) rfl rfl)) rfl rfl hl.1 rfl (lv_room (Nat.le_of_ble_eq_true rfl)) d_Mo_putBlock_296 ⟨Nat.zero_le _, Nat.zero_le _⟩) rfl hS (fun q _ h => hFc q h) hFc (fun t H1 locs ht hvm hB hz1 hk1 hS => ?_)
      obtain ⟨hP, hD⟩ := mo_back ht hD hB
      generalize H1 = H at hP hS ⊢
      refine lv_iinc (v := x3 + 1) (lv' := [(3, .int (x3 + 1)), (0, .ref h0), (1, .int x1)]) hx hb d_Mo_putBlock_299 hl (k := 0) rfl rfl (by decide) rfl (fun ls hl => ?_)
      refine lv_goto (tgt := 272) hx hb d_Mo_putBlock_302 (by decide) ?_
      exact ih hf hP hD hS (lv_sub hl [0, 1, 2] rfl)
set_option maxHeartbeats 400000 in
set_option maxRecDepth 100000 in
theorem k_Mo_putBlock_234 (C0 : Cx p s m meth c args R b_Mo_putBlock "ZoneFilesModel" 4 none 1 24) (hST : ST A s s.heap) (hA : ∀ q, s.heap.size ≤ q → A q) (hK : va_K (dC, dI) classes (moT cA) s) (hE : ∀ (pc : Nat) (ls : Array Slot) (H : Heap) (locs : List Loc), decode b_Mo_putBlock pc = .ok (.return_, 1) → va_P (dC, dI) classes (moW h0 r cA vi vj va vb) H → va_D A (moW h0 r cA vi vj va vb) → va_S A s.heap H locs → W p l e R s m args below meth c H locs 0 0 Q (F0 m pc ls [])) : ∀ (n : Nat) {x3 : Int32} {x1 : Int32} {si : Nat → Int32} {sj : Nat → Int64} {sa : Nat → Nat → Int32} {sb : Nat → Nat → Int64}, f_Mo_putBlock_234 nf n x3 x1 si sj sa sb = some (vi, vj, va, vb) → ∀ {H : Heap} {locs : List Loc} {ls : Array Slot}, va_P (dC, dI) classes (moW h0 r cA si sj sa sb) H → va_D A (moW h0 r cA si sj sa sb) → va_S A s.heap H locs → lv_has ls 4 [(3, .int x3), (0, .ref h0), (1, .int x1)] → W p l e R s m args below meth c H locs 0 0 Q (F0 m 234 ls []) := by
  obtain ⟨hx, hb, hr, hml, hown, hts, hlocks, hRf, hRl⟩ := id C0
  intro n
  induction n with
  | zero =>
    intro x3 x1 si sj sa sb hf
    exact absurd hf (by simp [f_Mo_putBlock_234])
  | succ n ih =>
    intro x3 x1 si sj sa sb hf H locs ls hP hD hS hl
    unfold f_Mo_putBlock_234 at hf
    refine lv_iload_n hx hb d_Mo_putBlock_234 rfl (lv_at hl 0 rfl) ?_
    refine lv_bipush (v := 40) hx hb d_Mo_putBlock_235 (by decide) ?_
    refine lv_iload_n hx hb d_Mo_putBlock_237 rfl (lv_at hl 2 rfl) ?_
    refine lv_imul hx hb d_Mo_putBlock_238 ?_
    refine lv_aload_n hx hb d_Mo_putBlock_239 rfl (lv_at hl 1 rfl) ?_
    refine mg_9 hx hb hts hown hK hP d_Mo_putBlock_240 ?_
    refine lv_iload_n hx hb d_Mo_putBlock_243 rfl (lv_at hl 2 rfl) ?_
    obtain ⟨c_11, hf⟩ := it_n hf
    refine ma_9 (v := sa 9 x1.toNatClampNeg) hx hb hK hP c_11 rfl d_Mo_putBlock_244 ?_
    refine lv_iadd hx hb d_Mo_putBlock_245 ?_
    refine lv_icmp_ge (tgt := 267) hx hb d_Mo_putBlock_246 (by decide) (fun c_12 => ?_) (fun c_12 => ?_)
    · have hf := it_t c_12 hf
      refine lv_bipush (v := 40) hx hb d_Mo_putBlock_267 (by decide) ?_
      refine lv_iload_n hx hb d_Mo_putBlock_269 rfl (lv_at hl 2 rfl) ?_
      refine lv_imul hx hb d_Mo_putBlock_270 ?_
      refine lv_istore_n (lv' := [(3, .int (40 * x1)), (0, .ref h0), (1, .int x1)]) hx hb d_Mo_putBlock_271 rfl hl (by decide) rfl (fun ls hl => ?_)
      exact k_Mo_putBlock_272 C0 hST hA hK hE nf hf hP hD hS (lv_sub hl [0, 1, 2] rfl)
    · have hf := it_f c_12 hf
      refine lv_aload_n hx hb d_Mo_putBlock_249 rfl (lv_at hl 1 rfl) ?_
      refine lv_aload_n hx hb d_Mo_putBlock_250 rfl (lv_at hl 1 rfl) ?_
      refine mg_20 hx hb hts hown hK hP d_Mo_putBlock_251 ?_
      refine lv_iload_n hx hb d_Mo_putBlock_254 rfl (lv_at hl 0 rfl) ?_
      obtain ⟨c_20, hf⟩ := it_n hf
      refine ma_20 (v := sa 20 x3.toNatClampNeg) hx hb hK hP c_20 rfl d_Mo_putBlock_255 ?_
      refine lv_i2l hx hb d_Mo_putBlock_256 rfl ?_
      refine lv_iconst (v := 1) hx hb d_Mo_putBlock_257 (by decide) ?_
      obtain ⟨⟨i_21, j_22, a_23, b_24⟩, hc, hf⟩ := ob hf
      have hFc := mo_free hD hS hA
      refine cl_M (v := none) (st1 := []) (va_runV (As := [.long ((sa 20 x3.toNatClampNeg).toInt64), .int 1]) (rest := []) ⟨hx, hb, hml, hown, hts⟩ (c_Mo_putNumber l dC dI h0 r cA H.size nf ((sa 20 x3.toNatClampNeg).toInt64) 1 si sj sa sb hc) (cwV 2 hts (gdV m_8_124 m_8_126 msel_95 m_1_10 m_8_127) rfl rfl rfl (by decide +kernel) ⟨Nat.le_trans (Nat.le_of_ble_eq_true rfl) hRf, Nat.le_trans (Nat.le_of_ble_eq_true rfl) hRl⟩) ((MU.pre hP hK hD (hST.mu hS hFc)).vir (va_recv hK hP (ci := 10) (q0 := 0) rfl rfl)) rfl rfl hl.1 rfl (lv_room (Nat.le_of_ble_eq_true rfl)) d_Mo_putBlock_258 ⟨Nat.zero_le _, Nat.zero_le _⟩) rfl hS (fun q _ h => hFc q h) hFc (fun t H1 locs ht hvm hB hz1 hk1 hS => ?_)
      obtain ⟨hP, hD⟩ := mo_back ht hD hB
      generalize H1 = H at hP hS ⊢
      refine lv_iinc (v := x3 + 1) (lv' := [(3, .int (x3 + 1)), (0, .ref h0), (1, .int x1)]) hx hb d_Mo_putBlock_261 hl (k := 0) rfl rfl (by decide) rfl (fun ls hl => ?_)
      refine lv_goto (tgt := 234) hx hb d_Mo_putBlock_264 (by decide) ?_
      exact ih hf hP hD hS (lv_sub hl [0, 1, 2] rfl)
set_option maxHeartbeats 400000 in
set_option maxRecDepth 100000 in
theorem k_Mo_putBlock_186 (C0 : Cx p s m meth c args R b_Mo_putBlock "ZoneFilesModel" 4 none 1 24) (hST : ST A s s.heap) (hA : ∀ q, s.heap.size ≤ q → A q) (hK : va_K (dC, dI) classes (moT cA) s) (hE : ∀ (pc : Nat) (ls : Array Slot) (H : Heap) (locs : List Loc), decode b_Mo_putBlock pc = .ok (.return_, 1) → va_P (dC, dI) classes (moW h0 r cA vi vj va vb) H → va_D A (moW h0 r cA vi vj va vb) → va_S A s.heap H locs → W p l e R s m args below meth c H locs 0 0 Q (F0 m pc ls [])) : ∀ (n : Nat) {x3 : Int32} {x1 : Int32} {x2 : Int32} {si : Nat → Int32} {sj : Nat → Int64} {sa : Nat → Nat → Int32} {sb : Nat → Nat → Int64}, f_Mo_putBlock_186 nf n x3 x1 x2 si sj sa sb = some (vi, vj, va, vb) → ∀ {H : Heap} {locs : List Loc} {ls : Array Slot}, va_P (dC, dI) classes (moW h0 r cA si sj sa sb) H → va_D A (moW h0 r cA si sj sa sb) → va_S A s.heap H locs → lv_has ls 4 [(3, .int x3), (0, .ref h0), (1, .int x1), (2, .int x2)] → W p l e R s m args below meth c H locs 0 0 Q (F0 m 186 ls []) := by
  obtain ⟨hx, hb, hr, hml, hown, hts, hlocks, hRf, hRl⟩ := id C0
  intro n
  induction n with
  | zero =>
    intro x3 x1 x2 si sj sa sb hf
    exact absurd hf (by simp [f_Mo_putBlock_186])
  | succ n ih =>
    intro x3 x1 x2 si sj sa sb hf H locs ls hP hD hS hl
    unfold f_Mo_putBlock_186 at hf
    refine lv_iload_n hx hb d_Mo_putBlock_186 rfl (lv_at hl 0 rfl) ?_
    refine lv_bipush (v := 40) hx hb d_Mo_putBlock_187 (by decide) ?_
    refine lv_iload_n hx hb d_Mo_putBlock_189 rfl (lv_at hl 2 rfl) ?_
    refine lv_imul hx hb d_Mo_putBlock_190 ?_
    refine lv_aload_n hx hb d_Mo_putBlock_191 rfl (lv_at hl 1 rfl) ?_
    refine mg_8 hx hb hts hown hK hP d_Mo_putBlock_192 ?_
    refine lv_iload_n hx hb d_Mo_putBlock_195 rfl (lv_at hl 2 rfl) ?_
    obtain ⟨c_9, hf⟩ := it_n hf
    refine ma_8 (v := sa 8 x1.toNatClampNeg) hx hb hK hP c_9 rfl d_Mo_putBlock_196 ?_
    refine lv_iadd hx hb d_Mo_putBlock_197 ?_
    refine lv_icmp_ge (tgt := 229) hx hb d_Mo_putBlock_198 (by decide) (fun c_10 => ?_) (fun c_10 => ?_)
    · have hf := it_t c_10 hf
      refine lv_bipush (v := 40) hx hb d_Mo_putBlock_229 (by decide) ?_
      refine lv_iload_n hx hb d_Mo_putBlock_231 rfl (lv_at hl 2 rfl) ?_
      refine lv_imul hx hb d_Mo_putBlock_232 ?_
      refine lv_istore_n (lv' := [(3, .int (40 * x1)), (0, .ref h0), (1, .int x1), (2, .int x2)]) hx hb d_Mo_putBlock_233 rfl hl (by decide) rfl (fun ls hl => ?_)
      exact k_Mo_putBlock_234 C0 hST hA hK hE nf hf hP hD hS (lv_sub hl [0, 1, 2] rfl)
    · have hf := it_f c_10 hf
      refine lv_aload_n hx hb d_Mo_putBlock_201 rfl (lv_at hl 1 rfl) ?_
      refine lv_aload_n hx hb d_Mo_putBlock_202 rfl (lv_at hl 1 rfl) ?_
      refine mg_18 hx hb hts hown hK hP d_Mo_putBlock_203 ?_
      refine lv_iload_n hx hb d_Mo_putBlock_206 rfl (lv_at hl 0 rfl) ?_
      obtain ⟨c_25, hf⟩ := it_n hf
      refine ma_18 (v := sb 18 x3.toNatClampNeg) hx hb hK hP c_25 rfl d_Mo_putBlock_207 ?_
      refine lv_iload_n hx hb d_Mo_putBlock_208 rfl (lv_at hl 3 rfl) ?_
      obtain ⟨⟨i_26, j_27, a_28, b_29⟩, hc, hf⟩ := ob hf
      have hFc := mo_free hD hS hA
      refine cl_M (v := none) (st1 := []) (va_runV (As := [.long (sb 18 x3.toNatClampNeg), .int x2]) (rest := []) ⟨hx, hb, hml, hown, hts⟩ (c_Mo_putNumber l dC dI h0 r cA H.size nf (sb 18 x3.toNatClampNeg) x2 si sj sa sb hc) (cwV 2 hts (gdV m_8_124 m_8_126 msel_95 m_1_10 m_8_127) rfl rfl rfl (by decide +kernel) ⟨Nat.le_trans (Nat.le_of_ble_eq_true rfl) hRf, Nat.le_trans (Nat.le_of_ble_eq_true rfl) hRl⟩) ((MU.pre hP hK hD (hST.mu hS hFc)).vir (va_recv hK hP (ci := 10) (q0 := 0) rfl rfl)) rfl rfl hl.1 rfl (lv_room (Nat.le_of_ble_eq_true rfl)) d_Mo_putBlock_209 ⟨Nat.zero_le _, Nat.zero_le _⟩) rfl hS (fun q _ h => hFc q h) hFc (fun t H1 locs ht hvm hB hz1 hk1 hS => ?_)
      obtain ⟨hP, hD⟩ := mo_back ht hD hB
      generalize H1 = H at hP hS ⊢
      refine lv_aload_n hx hb d_Mo_putBlock_212 rfl (lv_at hl 1 rfl) ?_
      refine lv_aload_n hx hb d_Mo_putBlock_213 rfl (lv_at hl 1 rfl) ?_
      refine mg_19 hx hb hts hown hK hP d_Mo_putBlock_214 ?_
      refine lv_iload_n hx hb d_Mo_putBlock_217 rfl (lv_at hl 0 rfl) ?_
      obtain ⟨c_30, hf⟩ := it_n hf
      refine ma_19 (v := b_29 19 x3.toNatClampNeg) hx hb hK hP c_30 rfl d_Mo_putBlock_218 ?_
      refine lv_iconst (v := 4) hx hb d_Mo_putBlock_219 (by decide) ?_
      obtain ⟨⟨i_31, j_32, a_33, b_34⟩, hc, hf⟩ := ob hf
      have hFc := mo_free hD hS hA
      refine cl_M (v := none) (st1 := []) (va_runV (As := [.long (b_29 19 x3.toNatClampNeg), .int 4]) (rest := []) ⟨hx, hb, hml, hown, hts⟩ (c_Mo_putNumber l dC dI h0 r cA H.size nf (b_29 19 x3.toNatClampNeg) 4 i_26 j_27 a_28 b_29 hc) (cwV 2 hts (gdV m_8_124 m_8_126 msel_95 m_1_10 m_8_127) rfl rfl rfl (by decide +kernel) ⟨Nat.le_trans (Nat.le_of_ble_eq_true rfl) hRf, Nat.le_trans (Nat.le_of_ble_eq_true rfl) hRl⟩) ((MU.pre hP hK hD (hST.mu hS hFc)).vir (va_recv hK hP (ci := 10) (q0 := 0) rfl rfl)) rfl rfl hl.1 rfl (lv_room (Nat.le_of_ble_eq_true rfl)) d_Mo_putBlock_220 ⟨Nat.zero_le _, Nat.zero_le _⟩) rfl hS (fun q _ h => hFc q h) hFc (fun t H1 locs ht hvm hB hz1 hk1 hS => ?_)
      obtain ⟨hP, hD⟩ := mo_back ht hD hB
      generalize H1 = H at hP hS ⊢
      refine lv_iinc (v := x3 + 1) (lv' := [(3, .int (x3 + 1)), (0, .ref h0), (1, .int x1), (2, .int x2)]) hx hb d_Mo_putBlock_223 hl (k := 0) rfl rfl (by decide) rfl (fun ls hl => ?_)
      refine lv_goto (tgt := 186) hx hb d_Mo_putBlock_226 (by decide) ?_
      exact ih hf hP hD hS (lv_sub hl [0, 1, 2, 3] rfl)
set_option maxHeartbeats 400000 in
set_option maxRecDepth 100000 in
theorem k_Mo_putBlock_147 (C0 : Cx p s m meth c args R b_Mo_putBlock "ZoneFilesModel" 4 none 1 24) (hST : ST A s s.heap) (hA : ∀ q, s.heap.size ≤ q → A q) (hK : va_K (dC, dI) classes (moT cA) s) (hE : ∀ (pc : Nat) (ls : Array Slot) (H : Heap) (locs : List Loc), decode b_Mo_putBlock pc = .ok (.return_, 1) → va_P (dC, dI) classes (moW h0 r cA vi vj va vb) H → va_D A (moW h0 r cA vi vj va vb) → va_S A s.heap H locs → W p l e R s m args below meth c H locs 0 0 Q (F0 m pc ls [])) : ∀ (n : Nat) {x3 : Int32} {x1 : Int32} {x2 : Int32} {si : Nat → Int32} {sj : Nat → Int64} {sa : Nat → Nat → Int32} {sb : Nat → Nat → Int64}, f_Mo_putBlock_147 nf n x3 x1 x2 si sj sa sb = some (vi, vj, va, vb) → ∀ {H : Heap} {locs : List Loc} {ls : Array Slot}, va_P (dC, dI) classes (moW h0 r cA si sj sa sb) H → va_D A (moW h0 r cA si sj sa sb) → va_S A s.heap H locs → lv_has ls 4 [(3, .int x3), (0, .ref h0), (1, .int x1), (2, .int x2)] → W p l e R s m args below meth c H locs 0 0 Q (F0 m 147 ls []) := by
  obtain ⟨hx, hb, hr, hml, hown, hts, hlocks, hRf, hRl⟩ := id C0
  intro n
  induction n with
  | zero =>
    intro x3 x1 x2 si sj sa sb hf
    exact absurd hf (by simp [f_Mo_putBlock_147])
  | succ n ih =>
    intro x3 x1 x2 si sj sa sb hf H locs ls hP hD hS hl
    unfold f_Mo_putBlock_147 at hf
    refine lv_iload_n hx hb d_Mo_putBlock_147 rfl (lv_at hl 0 rfl) ?_
    refine lv_sipush (v := 200) hx hb d_Mo_putBlock_148 (by decide) ?_
    refine lv_iload_n hx hb d_Mo_putBlock_151 rfl (lv_at hl 2 rfl) ?_
    refine lv_imul hx hb d_Mo_putBlock_152 ?_
    refine lv_aload_n hx hb d_Mo_putBlock_153 rfl (lv_at hl 1 rfl) ?_
    refine mg_7 hx hb hts hown hK hP d_Mo_putBlock_154 ?_
    refine lv_iload_n hx hb d_Mo_putBlock_157 rfl (lv_at hl 2 rfl) ?_
    obtain ⟨c_7, hf⟩ := it_n hf
    refine ma_7 (v := sa 7 x1.toNatClampNeg) hx hb hK hP c_7 rfl d_Mo_putBlock_158 ?_
    refine lv_iadd hx hb d_Mo_putBlock_159 ?_
    refine lv_icmp_ge (tgt := 181) hx hb d_Mo_putBlock_160 (by decide) (fun c_8 => ?_) (fun c_8 => ?_)
    · have hf := it_t c_8 hf
      refine lv_bipush (v := 40) hx hb d_Mo_putBlock_181 (by decide) ?_
      refine lv_iload_n hx hb d_Mo_putBlock_183 rfl (lv_at hl 2 rfl) ?_
      refine lv_imul hx hb d_Mo_putBlock_184 ?_
      refine lv_istore_n (lv' := [(3, .int (40 * x1)), (0, .ref h0), (1, .int x1), (2, .int x2)]) hx hb d_Mo_putBlock_185 rfl hl (by decide) rfl (fun ls hl => ?_)
      exact k_Mo_putBlock_186 C0 hST hA hK hE nf hf hP hD hS (lv_sub hl [0, 1, 2, 3] rfl)
    · have hf := it_f c_8 hf
      refine lv_aload_n hx hb d_Mo_putBlock_163 rfl (lv_at hl 1 rfl) ?_
      refine lv_aload_n hx hb d_Mo_putBlock_164 rfl (lv_at hl 1 rfl) ?_
      refine mg_17 hx hb hts hown hK hP d_Mo_putBlock_165 ?_
      refine lv_iload_n hx hb d_Mo_putBlock_168 rfl (lv_at hl 0 rfl) ?_
      obtain ⟨c_35, hf⟩ := it_n hf
      refine ma_17 (v := sa 17 x3.toNatClampNeg) hx hb hK hP c_35 rfl d_Mo_putBlock_169 ?_
      refine lv_i2l hx hb d_Mo_putBlock_170 rfl ?_
      refine lv_iconst (v := 1) hx hb d_Mo_putBlock_171 (by decide) ?_
      obtain ⟨⟨i_36, j_37, a_38, b_39⟩, hc, hf⟩ := ob hf
      have hFc := mo_free hD hS hA
      refine cl_M (v := none) (st1 := []) (va_runV (As := [.long ((sa 17 x3.toNatClampNeg).toInt64), .int 1]) (rest := []) ⟨hx, hb, hml, hown, hts⟩ (c_Mo_putNumber l dC dI h0 r cA H.size nf ((sa 17 x3.toNatClampNeg).toInt64) 1 si sj sa sb hc) (cwV 2 hts (gdV m_8_124 m_8_126 msel_95 m_1_10 m_8_127) rfl rfl rfl (by decide +kernel) ⟨Nat.le_trans (Nat.le_of_ble_eq_true rfl) hRf, Nat.le_trans (Nat.le_of_ble_eq_true rfl) hRl⟩) ((MU.pre hP hK hD (hST.mu hS hFc)).vir (va_recv hK hP (ci := 10) (q0 := 0) rfl rfl)) rfl rfl hl.1 rfl (lv_room (Nat.le_of_ble_eq_true rfl)) d_Mo_putBlock_172 ⟨Nat.zero_le _, Nat.zero_le _⟩) rfl hS (fun q _ h => hFc q h) hFc (fun t H1 locs ht hvm hB hz1 hk1 hS => ?_)
      obtain ⟨hP, hD⟩ := mo_back ht hD hB
      generalize H1 = H at hP hS ⊢
      refine lv_iinc (v := x3 + 1) (lv' := [(3, .int (x3 + 1)), (0, .ref h0), (1, .int x1), (2, .int x2)]) hx hb d_Mo_putBlock_175 hl (k := 0) rfl rfl (by decide) rfl (fun ls hl => ?_)
      refine lv_goto (tgt := 147) hx hb d_Mo_putBlock_178 (by decide) ?_
      exact ih hf hP hD hS (lv_sub hl [0, 1, 2, 3] rfl)
set_option maxHeartbeats 400000 in
set_option maxRecDepth 100000 in
theorem k_Mo_putBlock_84 (C0 : Cx p s m meth c args R b_Mo_putBlock "ZoneFilesModel" 4 none 1 24) (hST : ST A s s.heap) (hA : ∀ q, s.heap.size ≤ q → A q) (hK : va_K (dC, dI) classes (moT cA) s) (hE : ∀ (pc : Nat) (ls : Array Slot) (H : Heap) (locs : List Loc), decode b_Mo_putBlock pc = .ok (.return_, 1) → va_P (dC, dI) classes (moW h0 r cA vi vj va vb) H → va_D A (moW h0 r cA vi vj va vb) → va_S A s.heap H locs → W p l e R s m args below meth c H locs 0 0 Q (F0 m pc ls [])) : ∀ (n : Nat) {x3 : Int32} {x1 : Int32} {x2 : Int32} {si : Nat → Int32} {sj : Nat → Int64} {sa : Nat → Nat → Int32} {sb : Nat → Nat → Int64}, f_Mo_putBlock_84 nf n x3 x1 x2 si sj sa sb = some (vi, vj, va, vb) → ∀ {H : Heap} {locs : List Loc} {ls : Array Slot}, va_P (dC, dI) classes (moW h0 r cA si sj sa sb) H → va_D A (moW h0 r cA si sj sa sb) → va_S A s.heap H locs → lv_has ls 4 [(3, .int x3), (0, .ref h0), (1, .int x1), (2, .int x2)] → W p l e R s m args below meth c H locs 0 0 Q (F0 m 84 ls []) := by
  obtain ⟨hx, hb, hr, hml, hown, hts, hlocks, hRf, hRl⟩ := id C0
  intro n
  induction n with
  | zero =>
    intro x3 x1 x2 si sj sa sb hf
    exact absurd hf (by simp [f_Mo_putBlock_84])
  | succ n ih =>
    intro x3 x1 x2 si sj sa sb hf H locs ls hP hD hS hl
    unfold f_Mo_putBlock_84 at hf
    refine lv_iload_n hx hb d_Mo_putBlock_84 rfl (lv_at hl 0 rfl) ?_
    refine lv_bipush (v := 40) hx hb d_Mo_putBlock_85 (by decide) ?_
    refine lv_iload_n hx hb d_Mo_putBlock_87 rfl (lv_at hl 2 rfl) ?_
    refine lv_imul hx hb d_Mo_putBlock_88 ?_
    refine lv_aload_n hx hb d_Mo_putBlock_89 rfl (lv_at hl 1 rfl) ?_
    refine mg_6 hx hb hts hown hK hP d_Mo_putBlock_90 ?_
    refine lv_iload_n hx hb d_Mo_putBlock_93 rfl (lv_at hl 2 rfl) ?_
    obtain ⟨c_5, hf⟩ := it_n hf
    refine ma_6 (v := sa 6 x1.toNatClampNeg) hx hb hK hP c_5 rfl d_Mo_putBlock_94 ?_
    refine lv_iadd hx hb d_Mo_putBlock_95 ?_
    refine lv_icmp_ge (tgt := 141) hx hb d_Mo_putBlock_96 (by decide) (fun c_6 => ?_) (fun c_6 => ?_)
    · have hf := it_t c_6 hf
      refine lv_sipush (v := 200) hx hb d_Mo_putBlock_141 (by decide) ?_
      refine lv_iload_n hx hb d_Mo_putBlock_144 rfl (lv_at hl 2 rfl) ?_
      refine lv_imul hx hb d_Mo_putBlock_145 ?_
      refine lv_istore_n (lv' := [(3, .int (200 * x1)), (0, .ref h0), (1, .int x1), (2, .int x2)]) hx hb d_Mo_putBlock_146 rfl hl (by decide) rfl (fun ls hl => ?_)
      exact k_Mo_putBlock_147 C0 hST hA hK hE nf hf hP hD hS (lv_sub hl [0, 1, 2, 3] rfl)
    · have hf := it_f c_6 hf
      refine lv_aload_n hx hb d_Mo_putBlock_99 rfl (lv_at hl 1 rfl) ?_
      refine lv_aload_n hx hb d_Mo_putBlock_100 rfl (lv_at hl 1 rfl) ?_
      refine mg_14 hx hb hts hown hK hP d_Mo_putBlock_101 ?_
      refine lv_iload_n hx hb d_Mo_putBlock_104 rfl (lv_at hl 0 rfl) ?_
      obtain ⟨c_40, hf⟩ := it_n hf
      refine ma_14 (v := sa 14 x3.toNatClampNeg) hx hb hK hP c_40 rfl d_Mo_putBlock_105 ?_
      refine lv_i2l hx hb d_Mo_putBlock_106 rfl ?_
      refine lv_iconst (v := 4) hx hb d_Mo_putBlock_107 (by decide) ?_
      obtain ⟨⟨i_41, j_42, a_43, b_44⟩, hc, hf⟩ := ob hf
      have hFc := mo_free hD hS hA
      refine cl_M (v := none) (st1 := []) (va_runV (As := [.long ((sa 14 x3.toNatClampNeg).toInt64), .int 4]) (rest := []) ⟨hx, hb, hml, hown, hts⟩ (c_Mo_putNumber l dC dI h0 r cA H.size nf ((sa 14 x3.toNatClampNeg).toInt64) 4 si sj sa sb hc) (cwV 2 hts (gdV m_8_124 m_8_126 msel_95 m_1_10 m_8_127) rfl rfl rfl (by decide +kernel) ⟨Nat.le_trans (Nat.le_of_ble_eq_true rfl) hRf, Nat.le_trans (Nat.le_of_ble_eq_true rfl) hRl⟩) ((MU.pre hP hK hD (hST.mu hS hFc)).vir (va_recv hK hP (ci := 10) (q0 := 0) rfl rfl)) rfl rfl hl.1 rfl (lv_room (Nat.le_of_ble_eq_true rfl)) d_Mo_putBlock_108 ⟨Nat.zero_le _, Nat.zero_le _⟩) rfl hS (fun q _ h => hFc q h) hFc (fun t H1 locs ht hvm hB hz1 hk1 hS => ?_)
      obtain ⟨hP, hD⟩ := mo_back ht hD hB
      generalize H1 = H at hP hS ⊢
      refine lv_aload_n hx hb d_Mo_putBlock_111 rfl (lv_at hl 1 rfl) ?_
      refine lv_aload_n hx hb d_Mo_putBlock_112 rfl (lv_at hl 1 rfl) ?_
      refine mg_15 hx hb hts hown hK hP d_Mo_putBlock_113 ?_
      refine lv_iload_n hx hb d_Mo_putBlock_116 rfl (lv_at hl 0 rfl) ?_
      obtain ⟨c_45, hf⟩ := it_n hf
      refine ma_15 (v := a_43 15 x3.toNatClampNeg) hx hb hK hP c_45 rfl d_Mo_putBlock_117 ?_
      refine lv_i2l hx hb d_Mo_putBlock_118 rfl ?_
      refine lv_iconst (v := 1) hx hb d_Mo_putBlock_119 (by decide) ?_
      obtain ⟨⟨i_46, j_47, a_48, b_49⟩, hc, hf⟩ := ob hf
      have hFc := mo_free hD hS hA
      refine cl_M (v := none) (st1 := []) (va_runV (As := [.long ((a_43 15 x3.toNatClampNeg).toInt64), .int 1]) (rest := []) ⟨hx, hb, hml, hown, hts⟩ (c_Mo_putNumber l dC dI h0 r cA H.size nf ((a_43 15 x3.toNatClampNeg).toInt64) 1 i_41 j_42 a_43 b_44 hc) (cwV 2 hts (gdV m_8_124 m_8_126 msel_95 m_1_10 m_8_127) rfl rfl rfl (by decide +kernel) ⟨Nat.le_trans (Nat.le_of_ble_eq_true rfl) hRf, Nat.le_trans (Nat.le_of_ble_eq_true rfl) hRl⟩) ((MU.pre hP hK hD (hST.mu hS hFc)).vir (va_recv hK hP (ci := 10) (q0 := 0) rfl rfl)) rfl rfl hl.1 rfl (lv_room (Nat.le_of_ble_eq_true rfl)) d_Mo_putBlock_120 ⟨Nat.zero_le _, Nat.zero_le _⟩) rfl hS (fun q _ h => hFc q h) hFc (fun t H1 locs ht hvm hB hz1 hk1 hS => ?_)
      obtain ⟨hP, hD⟩ := mo_back ht hD hB
      generalize H1 = H at hP hS ⊢
      refine lv_aload_n hx hb d_Mo_putBlock_123 rfl (lv_at hl 1 rfl) ?_
      refine lv_aload_n hx hb d_Mo_putBlock_124 rfl (lv_at hl 1 rfl) ?_
      refine mg_16 hx hb hts hown hK hP d_Mo_putBlock_125 ?_
      refine lv_iload_n hx hb d_Mo_putBlock_128 rfl (lv_at hl 0 rfl) ?_
      obtain ⟨c_50, hf⟩ := it_n hf
      refine ma_16 (v := a_48 16 x3.toNatClampNeg) hx hb hK hP c_50 rfl d_Mo_putBlock_129 ?_
      refine lv_i2l hx hb d_Mo_putBlock_130 rfl ?_
      refine lv_iconst (v := 1) hx hb d_Mo_putBlock_131 (by decide) ?_
      obtain ⟨⟨i_51, j_52, a_53, b_54⟩, hc, hf⟩ := ob hf
      have hFc := mo_free hD hS hA
      refine cl_M (v := none) (st1 := []) (va_runV (As := [.long ((a_48 16 x3.toNatClampNeg).toInt64), .int 1]) (rest := []) ⟨hx, hb, hml, hown, hts⟩ (c_Mo_putNumber l dC dI h0 r cA H.size nf ((a_48 16 x3.toNatClampNeg).toInt64) 1 i_46 j_47 a_48 b_49 hc) (cwV 2 hts (gdV m_8_124 m_8_126 msel_95 m_1_10 m_8_127) rfl rfl rfl (by decide +kernel) ⟨Nat.le_trans (Nat.le_of_ble_eq_true rfl) hRf, Nat.le_trans (Nat.le_of_ble_eq_true rfl) hRl⟩) ((MU.pre hP hK hD (hST.mu hS hFc)).vir (va_recv hK hP (ci := 10) (q0 := 0) rfl rfl)) rfl rfl hl.1 rfl (lv_room (Nat.le_of_ble_eq_true rfl)) d_Mo_putBlock_132 ⟨Nat.zero_le _, Nat.zero_le _⟩) rfl hS (fun q _ h => hFc q h) hFc (fun t H1 locs ht hvm hB hz1 hk1 hS => ?_)
      obtain ⟨hP, hD⟩ := mo_back ht hD hB
      generalize H1 = H at hP hS ⊢
      refine lv_iinc (v := x3 + 1) (lv' := [(3, .int (x3 + 1)), (0, .ref h0), (1, .int x1), (2, .int x2)]) hx hb d_Mo_putBlock_135 hl (k := 0) rfl rfl (by decide) rfl (fun ls hl => ?_)
      refine lv_goto (tgt := 84) hx hb d_Mo_putBlock_138 (by decide) ?_
      exact ih hf hP hD hS (lv_sub hl [0, 1, 2, 3] rfl)
set_option maxHeartbeats 400000 in
set_option maxRecDepth 100000 in
theorem k_Mo_putBlock_45 (C0 : Cx p s m meth c args R b_Mo_putBlock "ZoneFilesModel" 4 none 1 24) (hST : ST A s s.heap) (hA : ∀ q, s.heap.size ≤ q → A q) (hK : va_K (dC, dI) classes (moT cA) s) (hE : ∀ (pc : Nat) (ls : Array Slot) (H : Heap) (locs : List Loc), decode b_Mo_putBlock pc = .ok (.return_, 1) → va_P (dC, dI) classes (moW h0 r cA vi vj va vb) H → va_D A (moW h0 r cA vi vj va vb) → va_S A s.heap H locs → W p l e R s m args below meth c H locs 0 0 Q (F0 m pc ls [])) : ∀ (n : Nat) {x3 : Int32} {x1 : Int32} {x2 : Int32} {si : Nat → Int32} {sj : Nat → Int64} {sa : Nat → Nat → Int32} {sb : Nat → Nat → Int64}, f_Mo_putBlock_45 nf n x3 x1 x2 si sj sa sb = some (vi, vj, va, vb) → ∀ {H : Heap} {locs : List Loc} {ls : Array Slot}, va_P (dC, dI) classes (moW h0 r cA si sj sa sb) H → va_D A (moW h0 r cA si sj sa sb) → va_S A s.heap H locs → lv_has ls 4 [(3, .int x3), (0, .ref h0), (1, .int x1), (2, .int x2)] → W p l e R s m args below meth c H locs 0 0 Q (F0 m 45 ls []) := by
  obtain ⟨hx, hb, hr, hml, hown, hts, hlocks, hRf, hRl⟩ := id C0
  intro n
  induction n with
  | zero =>
    intro x3 x1 x2 si sj sa sb hf
    exact absurd hf (by simp [f_Mo_putBlock_45])
  | succ n ih =>
    intro x3 x1 x2 si sj sa sb hf H locs ls hP hD hS hl
    unfold f_Mo_putBlock_45 at hf
    refine lv_iload_n hx hb d_Mo_putBlock_45 rfl (lv_at hl 0 rfl) ?_
    refine lv_sipush (v := 200) hx hb d_Mo_putBlock_46 (by decide) ?_
    refine lv_iload_n hx hb d_Mo_putBlock_49 rfl (lv_at hl 2 rfl) ?_
    refine lv_imul hx hb d_Mo_putBlock_50 ?_
    refine lv_aload_n hx hb d_Mo_putBlock_51 rfl (lv_at hl 1 rfl) ?_
    refine mg_5 hx hb hts hown hK hP d_Mo_putBlock_52 ?_
    refine lv_iload_n hx hb d_Mo_putBlock_55 rfl (lv_at hl 2 rfl) ?_
    obtain ⟨c_3, hf⟩ := it_n hf
    refine ma_5 (v := sa 5 x1.toNatClampNeg) hx hb hK hP c_3 rfl d_Mo_putBlock_56 ?_
    refine lv_iadd hx hb d_Mo_putBlock_57 ?_
    refine lv_icmp_ge (tgt := 79) hx hb d_Mo_putBlock_58 (by decide) (fun c_4 => ?_) (fun c_4 => ?_)
    · have hf := it_t c_4 hf
      refine lv_bipush (v := 40) hx hb d_Mo_putBlock_79 (by decide) ?_
      refine lv_iload_n hx hb d_Mo_putBlock_81 rfl (lv_at hl 2 rfl) ?_
      refine lv_imul hx hb d_Mo_putBlock_82 ?_
      refine lv_istore_n (lv' := [(3, .int (40 * x1)), (0, .ref h0), (1, .int x1), (2, .int x2)]) hx hb d_Mo_putBlock_83 rfl hl (by decide) rfl (fun ls hl => ?_)
      exact k_Mo_putBlock_84 C0 hST hA hK hE nf hf hP hD hS (lv_sub hl [0, 1, 2, 3] rfl)
    · have hf := it_f c_4 hf
      refine lv_aload_n hx hb d_Mo_putBlock_61 rfl (lv_at hl 1 rfl) ?_
      refine lv_aload_n hx hb d_Mo_putBlock_62 rfl (lv_at hl 1 rfl) ?_
      refine mg_13 hx hb hts hown hK hP d_Mo_putBlock_63 ?_
      refine lv_iload_n hx hb d_Mo_putBlock_66 rfl (lv_at hl 0 rfl) ?_
      obtain ⟨c_55, hf⟩ := it_n hf
      refine ma_13 (v := sa 13 x3.toNatClampNeg) hx hb hK hP c_55 rfl d_Mo_putBlock_67 ?_
      refine lv_i2l hx hb d_Mo_putBlock_68 rfl ?_
      refine lv_iconst (v := 1) hx hb d_Mo_putBlock_69 (by decide) ?_
      obtain ⟨⟨i_56, j_57, a_58, b_59⟩, hc, hf⟩ := ob hf
      have hFc := mo_free hD hS hA
      refine cl_M (v := none) (st1 := []) (va_runV (As := [.long ((sa 13 x3.toNatClampNeg).toInt64), .int 1]) (rest := []) ⟨hx, hb, hml, hown, hts⟩ (c_Mo_putNumber l dC dI h0 r cA H.size nf ((sa 13 x3.toNatClampNeg).toInt64) 1 si sj sa sb hc) (cwV 2 hts (gdV m_8_124 m_8_126 msel_95 m_1_10 m_8_127) rfl rfl rfl (by decide +kernel) ⟨Nat.le_trans (Nat.le_of_ble_eq_true rfl) hRf, Nat.le_trans (Nat.le_of_ble_eq_true rfl) hRl⟩) ((MU.pre hP hK hD (hST.mu hS hFc)).vir (va_recv hK hP (ci := 10) (q0 := 0) rfl rfl)) rfl rfl hl.1 rfl (lv_room (Nat.le_of_ble_eq_true rfl)) d_Mo_putBlock_70 ⟨Nat.zero_le _, Nat.zero_le _⟩) rfl hS (fun q _ h => hFc q h) hFc (fun t H1 locs ht hvm hB hz1 hk1 hS => ?_)
      obtain ⟨hP, hD⟩ := mo_back ht hD hB
      generalize H1 = H at hP hS ⊢
      refine lv_iinc (v := x3 + 1) (lv' := [(3, .int (x3 + 1)), (0, .ref h0), (1, .int x1), (2, .int x2)]) hx hb d_Mo_putBlock_73 hl (k := 0) rfl rfl (by decide) rfl (fun ls hl => ?_)
      refine lv_goto (tgt := 45) hx hb d_Mo_putBlock_76 (by decide) ?_
      exact ih hf hP hD hS (lv_sub hl [0, 1, 2, 3] rfl)
set_option maxHeartbeats 400000 in
set_option maxRecDepth 100000 in
theorem k_Mo_putBlock_6 (C0 : Cx p s m meth c args R b_Mo_putBlock "ZoneFilesModel" 4 none 1 24) (hST : ST A s s.heap) (hA : ∀ q, s.heap.size ≤ q → A q) (hK : va_K (dC, dI) classes (moT cA) s) (hE : ∀ (pc : Nat) (ls : Array Slot) (H : Heap) (locs : List Loc), decode b_Mo_putBlock pc = .ok (.return_, 1) → va_P (dC, dI) classes (moW h0 r cA vi vj va vb) H → va_D A (moW h0 r cA vi vj va vb) → va_S A s.heap H locs → W p l e R s m args below meth c H locs 0 0 Q (F0 m pc ls [])) : ∀ (n : Nat) {x3 : Int32} {x1 : Int32} {x2 : Int32} {si : Nat → Int32} {sj : Nat → Int64} {sa : Nat → Nat → Int32} {sb : Nat → Nat → Int64}, f_Mo_putBlock_6 nf n x3 x1 x2 si sj sa sb = some (vi, vj, va, vb) → ∀ {H : Heap} {locs : List Loc} {ls : Array Slot}, va_P (dC, dI) classes (moW h0 r cA si sj sa sb) H → va_D A (moW h0 r cA si sj sa sb) → va_S A s.heap H locs → lv_has ls 4 [(3, .int x3), (0, .ref h0), (1, .int x1), (2, .int x2)] → W p l e R s m args below meth c H locs 0 0 Q (F0 m 6 ls []) := by
  obtain ⟨hx, hb, hr, hml, hown, hts, hlocks, hRf, hRl⟩ := id C0
  intro n
  induction n with
  | zero =>
    intro x3 x1 x2 si sj sa sb hf
    exact absurd hf (by simp [f_Mo_putBlock_6])
  | succ n ih =>
    intro x3 x1 x2 si sj sa sb hf H locs ls hP hD hS hl
    unfold f_Mo_putBlock_6 at hf
    refine lv_iload_n hx hb d_Mo_putBlock_6 rfl (lv_at hl 0 rfl) ?_
    refine lv_sipush (v := 200) hx hb d_Mo_putBlock_7 (by decide) ?_
    refine lv_iload_n hx hb d_Mo_putBlock_10 rfl (lv_at hl 2 rfl) ?_
    refine lv_imul hx hb d_Mo_putBlock_11 ?_
    refine lv_aload_n hx hb d_Mo_putBlock_12 rfl (lv_at hl 1 rfl) ?_
    refine mg_5 hx hb hts hown hK hP d_Mo_putBlock_13 ?_
    refine lv_iload_n hx hb d_Mo_putBlock_16 rfl (lv_at hl 2 rfl) ?_
    obtain ⟨c_1, hf⟩ := it_n hf
    refine ma_5 (v := sa 5 x1.toNatClampNeg) hx hb hK hP c_1 rfl d_Mo_putBlock_17 ?_
    refine lv_iadd hx hb d_Mo_putBlock_18 ?_
    refine lv_icmp_ge (tgt := 39) hx hb d_Mo_putBlock_19 (by decide) (fun c_2 => ?_) (fun c_2 => ?_)
    · have hf := it_t c_2 hf
      refine lv_sipush (v := 200) hx hb d_Mo_putBlock_39 (by decide) ?_
      refine lv_iload_n hx hb d_Mo_putBlock_42 rfl (lv_at hl 2 rfl) ?_
      refine lv_imul hx hb d_Mo_putBlock_43 ?_
      refine lv_istore_n (lv' := [(3, .int (200 * x1)), (0, .ref h0), (1, .int x1), (2, .int x2)]) hx hb d_Mo_putBlock_44 rfl hl (by decide) rfl (fun ls hl => ?_)
      exact k_Mo_putBlock_45 C0 hST hA hK hE nf hf hP hD hS (lv_sub hl [0, 1, 2, 3] rfl)
    · have hf := it_f c_2 hf
      refine lv_aload_n hx hb d_Mo_putBlock_22 rfl (lv_at hl 1 rfl) ?_
      refine lv_aload_n hx hb d_Mo_putBlock_23 rfl (lv_at hl 1 rfl) ?_
      refine mg_12 hx hb hts hown hK hP d_Mo_putBlock_24 ?_
      refine lv_iload_n hx hb d_Mo_putBlock_27 rfl (lv_at hl 0 rfl) ?_
      obtain ⟨c_60, hf⟩ := it_n hf
      refine ma_12 (v := sb 12 x3.toNatClampNeg) hx hb hK hP c_60 rfl d_Mo_putBlock_28 ?_
      refine lv_iload_n hx hb d_Mo_putBlock_29 rfl (lv_at hl 3 rfl) ?_
      obtain ⟨⟨i_61, j_62, a_63, b_64⟩, hc, hf⟩ := ob hf
      have hFc := mo_free hD hS hA
      refine cl_M (v := none) (st1 := []) (va_runV (As := [.long (sb 12 x3.toNatClampNeg), .int x2]) (rest := []) ⟨hx, hb, hml, hown, hts⟩ (c_Mo_putNumber l dC dI h0 r cA H.size nf (sb 12 x3.toNatClampNeg) x2 si sj sa sb hc) (cwV 2 hts (gdV m_8_124 m_8_126 msel_95 m_1_10 m_8_127) rfl rfl rfl (by decide +kernel) ⟨Nat.le_trans (Nat.le_of_ble_eq_true rfl) hRf, Nat.le_trans (Nat.le_of_ble_eq_true rfl) hRl⟩) ((MU.pre hP hK hD (hST.mu hS hFc)).vir (va_recv hK hP (ci := 10) (q0 := 0) rfl rfl)) rfl rfl hl.1 rfl (lv_room (Nat.le_of_ble_eq_true rfl)) d_Mo_putBlock_30 ⟨Nat.zero_le _, Nat.zero_le _⟩) rfl hS (fun q _ h => hFc q h) hFc (fun t H1 locs ht hvm hB hz1 hk1 hS => ?_)
      obtain ⟨hP, hD⟩ := mo_back ht hD hB
      generalize H1 = H at hP hS ⊢
      refine lv_iinc (v := x3 + 1) (lv' := [(3, .int (x3 + 1)), (0, .ref h0), (1, .int x1), (2, .int x2)]) hx hb d_Mo_putBlock_33 hl (k := 0) rfl rfl (by decide) rfl (fun ls hl => ?_)
      refine lv_goto (tgt := 6) hx hb d_Mo_putBlock_36 (by decide) ?_
      exact ih hf hP hD hS (lv_sub hl [0, 1, 2, 3] rfl)
set_option maxHeartbeats 400000 in
set_option maxRecDepth 100000 in
theorem k_Mo_putBlock_0 (C0 : Cx p s m meth c args R b_Mo_putBlock "ZoneFilesModel" 4 none 1 24) (hST : ST A s s.heap) (hA : ∀ q, s.heap.size ≤ q → A q) (hK : va_K (dC, dI) classes (moT cA) s) (hE : ∀ (pc : Nat) (ls : Array Slot) (H : Heap) (locs : List Loc), decode b_Mo_putBlock pc = .ok (.return_, 1) → va_P (dC, dI) classes (moW h0 r cA vi vj va vb) H → va_D A (moW h0 r cA vi vj va vb) → va_S A s.heap H locs → W p l e R s m args below meth c H locs 0 0 Q (F0 m pc ls [])) {x1 : Int32} {x2 : Int32} {si : Nat → Int32} {sj : Nat → Int64} {sa : Nat → Nat → Int32} {sb : Nat → Nat → Int64} (hf : f_Mo_putBlock_0 nf x1 x2 si sj sa sb = some (vi, vj, va, vb)) {H : Heap} {locs : List Loc} {ls : Array Slot} (hP : va_P (dC, dI) classes (moW h0 r cA si sj sa sb) H) (hD : va_D A (moW h0 r cA si sj sa sb)) (hS : va_S A s.heap H locs) (hl : lv_has ls 4 [(0, .ref h0), (1, .int x1), (2, .int x2)]) : W p l e R s m args below meth c H locs 0 0 Q (F0 m 0 ls []) := by
  obtain ⟨hx, hb, hr, hml, hown, hts, hlocks, hRf, hRl⟩ := id C0
  unfold f_Mo_putBlock_0 at hf
  refine lv_sipush (v := 200) hx hb d_Mo_putBlock_0 (by decide) ?_
  refine lv_iload_n hx hb d_Mo_putBlock_3 rfl (lv_at hl 1 rfl) ?_
  refine lv_imul hx hb d_Mo_putBlock_4 ?_
  refine lv_istore_n (lv' := [(3, .int (200 * x1)), (0, .ref h0), (1, .int x1), (2, .int x2)]) hx hb d_Mo_putBlock_5 rfl hl (by decide) rfl (fun ls hl => ?_)
  exact k_Mo_putBlock_6 C0 hST hA hK hE nf hf hP hD hS (lv_sub hl [0, 1, 2, 3] rfl)
end
set_option maxHeartbeats 400000 in
set_option maxRecDepth 100000 in
theorem c_Mo_putBlock (l : Launch) (dC : Nat → ClassId) (dI : Nat → Nat → Nat) (h0 : Nat) (r : Nat → Nat) (cA : Nat → ClassId) (sz : Nat) (nf : Nat) (p0 : Int32) (p1 : Int32) (si : Nat → Int32) (sj : Nat → Int64) (sa : Nat → Nat → Int32) (sb : Nat → Nat → Int64) {vi : Nat → Int32} {vj : Nat → Int64} {va : Nat → Nat → Int32} {vb : Nat → Nat → Int64} (hf : f_Mo_putBlock nf p0 p1 si sj sa sb = some (vi, vj, va, vb)) : Met l y_Mo_putBlock (wd y_Mo_putBlock b_Mo_putBlock 4 none) ({ frames := 1, cells := 0, slots := 0, locals := 24 }) (MU dC dI (moW h0 r cA si sj sa sb) (moT cA) sz [.ref h0, .int p0, .int p1]) (MV none (fun t => va_P (dC, dI) classes (moW h0 r cA vi vj va vb) t.heap) (va_A (moW h0 r cA si sj sa sb) sz)) 0 0 (va_A (moW h0 r cA si sj sa sb) sz) :=
  met_M (plainFor_of_name (by decide)) (Nat.le_of_ble_eq_true rfl) (fun p e R s m args below meth c ls hRc hRs hsz hin C0 hST hK hP hD hl => by
    obtain ⟨hx, hb, hr, hml, hown, hts, hlocks, hRf, hRl⟩ := id C0
    subst hsz
    have hA : ∀ q : Nat, s.heap.size ≤ q → va_A (moW h0 r cA si sj sa sb) s.heap.size q := fun q h => Or.inr h
    have hS : va_S (va_A (moW h0 r cA si sj sa sb) s.heap.size) s.heap s.heap [] := va_S.rf
    unfold f_Mo_putBlock at hf
    exact k_Mo_putBlock_0 C0 hST hA hK (fun pc ls H locs hd hP hD hS => W.vret hx hb hr (fun t ht hW => ⟨⟨rfl, mo_end ht hP⟩, hS.F ht⟩) hS.2.2 hd) hf hP hD hS (lv_sub hl [0, 1, 2] rfl))
-- ZoneFilesModel.fitsShort(I)Z
def f_Mo_fitsShort_100 (nf : Nat) (K61 : Int32 → Int32 → Int32 → Option (Int32)) (x3 : Int32) (x1 : Int32) (s0 : Int32) (s1 : Int32) : Option (Int32) :=
  K61 (x3 + 1) (s1 &&& s0) x1
def f_Mo_fitsShort_61 (nf : Nat) (sa : Nat → Nat → Int32) (sb : Nat → Nat → Int64) : Nat → Int32 → Int32 → Int32 → Option (Int32)
  | 0, _, _, _ => none
  | n + 1, x3, x2, x1 =>
    if x1 < 0 ∨ 5 ≤ x1.toNatClampNeg then none else
    if ((40 * x1) + (sa 8 x1.toNatClampNeg)) ≤ x3 then
    if x2 = 0 ∨ x2 = 1 then some x2 else none
    else
    if x3 < 0 ∨ 200 ≤ x3.toNatClampNeg then none else
      if x3 < 0 ∨ 200 ≤ x3.toNatClampNeg then none else
      if (sb 18 x3.toNatClampNeg) = (((sb 18 x3.toNatClampNeg).toInt32).toInt64) then
      f_Mo_fitsShort_100 nf (f_Mo_fitsShort_61 nf sa sb n) x3 x1 1 x2
      else
      f_Mo_fitsShort_100 nf (f_Mo_fitsShort_61 nf sa sb n) x3 x1 0 x2
def f_Mo_fitsShort_48 (nf : Nat) (K8 : Int32 → Int32 → Int32 → Option (Int32)) (x3 : Int32) (x1 : Int32) (s0 : Int32) (s1 : Int32) : Option (Int32) :=
  K8 (x3 + 1) (s1 &&& s0) x1
def f_Mo_fitsShort_8 (nf : Nat) (sa : Nat → Nat → Int32) (sb : Nat → Nat → Int64) : Nat → Int32 → Int32 → Int32 → Option (Int32)
  | 0, _, _, _ => none
  | n + 1, x3, x2, x1 =>
    if x1 < 0 ∨ 5 ≤ x1.toNatClampNeg then none else
    if ((200 * x1) + (sa 5 x1.toNatClampNeg)) ≤ x3 then
    f_Mo_fitsShort_61 nf sa sb nf (40 * x1) x2 x1
    else
    if x3 < 0 ∨ 1000 ≤ x3.toNatClampNeg then none else
      if x3 < 0 ∨ 1000 ≤ x3.toNatClampNeg then none else
      if (sb 12 x3.toNatClampNeg) = (((sb 12 x3.toNatClampNeg).toInt32).toInt64) then
      f_Mo_fitsShort_48 nf (f_Mo_fitsShort_8 nf sa sb n) x3 x1 1 x2
      else
      f_Mo_fitsShort_48 nf (f_Mo_fitsShort_8 nf sa sb n) x3 x1 0 x2
def f_Mo_fitsShort_0 (nf : Nat) (sa : Nat → Nat → Int32) (sb : Nat → Nat → Int64) (x1 : Int32) : Option (Int32) :=
  f_Mo_fitsShort_8 nf sa sb nf (200 * x1) 1 x1
def f_Mo_fitsShort (nf : Nat) (p0 : Int32) (si : Nat → Int32) (sj : Nat → Int64) (sa : Nat → Nat → Int32) (sb : Nat → Nat → Int64) : Option (Int32) :=
  f_Mo_fitsShort_0 nf sa sb p0
section
variable {p : Program} {l : Launch} {e : Env} {R : Room} {s : State} {m : MethodId} {args : Array Value} {below : List Frame} {meth : Method} {c : Code} {Q : State → Prop} {dC : Nat → ClassId} {dI : Nat → Nat → Nat} {nf : Nat} {A : Nat → Prop} {h0 : Nat} {r : Nat → Nat} {cA : Nat → ClassId}
variable {si : Nat → Int32} {sj : Nat → Int64} {sa : Nat → Nat → Int32} {sb : Nat → Nat → Int64} {r0 : Int32}
set_option maxHeartbeats 400000 in
set_option maxRecDepth 100000 in
theorem k_Mo_fitsShort_100 (C0 : Cx p s m meth c args R b_Mo_fitsShort "ZoneFilesModel" 4 (some .boolean) 0 0) (hST : ST (fun _ => False) s s.heap) (hK : va_K (dC, dI) classes (moT cA) s) (hP : va_P (dC, dI) classes (moW h0 r cA si sj sa sb) s.heap) (hE : ∀ (pc : Nat) (ls : Array Slot), decode b_Mo_fitsShort pc = .ok (.ireturn, 1) → narrow .boolean (.int r0) = .int r0 → W p l e R s m args below meth c s.heap [] 0 0 Q (F0 m pc ls [.int r0])) {K61 : Int32 → Int32 → Int32 → Option (Int32)} (hK61 : ∀ {x3 : Int32} {x2 : Int32} {x1 : Int32}, K61 x3 x2 x1 = some r0 → ∀ {ls : Array Slot}, lv_has ls 4 [(3, .int x3), (2, .int x2), (0, .ref h0), (1, .int x1)] → W p l e R s m args below meth c s.heap [] 0 0 Q (F0 m 61 ls [])) {x3 : Int32} {x1 : Int32} {s0 : Int32} {s1 : Int32} (hf : f_Mo_fitsShort_100 nf K61 x3 x1 s0 s1 = some r0) {ls : Array Slot} (hl : lv_has ls 4 [(3, .int x3), (0, .ref h0), (1, .int x1)]) : W p l e R s m args below meth c s.heap [] 0 0 Q (F0 m 100 ls [.int s0, .int s1]) := by
  obtain ⟨hx, hb, hr, hml, hown, hts, hlocks, hRf, hRl⟩ := id C0
  obtain ⟨tms, hZms, hTms, tmg, hZmg, hTmg, hNW⟩ := id hST
  unfold f_Mo_fitsShort_100 at hf
  refine lv_iand hx hb d_Mo_fitsShort_100 ?_
  refine lv_istore_n (lv' := [(2, .int (s1 &&& s0)), (3, .int x3), (0, .ref h0), (1, .int x1)]) hx hb d_Mo_fitsShort_101 rfl hl (by decide) rfl (fun ls hl => ?_)
  refine lv_iinc (v := x3 + 1) (lv' := [(3, .int (x3 + 1)), (2, .int (s1 &&& s0)), (0, .ref h0), (1, .int x1)]) hx hb d_Mo_fitsShort_102 hl (k := 1) rfl rfl (by decide) rfl (fun ls hl => ?_)
  refine lv_goto (tgt := 61) hx hb d_Mo_fitsShort_105 (by decide) ?_
  exact hK61 hf (lv_sub hl [0, 1, 2, 3] rfl)
set_option maxHeartbeats 400000 in
set_option maxRecDepth 100000 in
theorem k_Mo_fitsShort_61 (C0 : Cx p s m meth c args R b_Mo_fitsShort "ZoneFilesModel" 4 (some .boolean) 0 0) (hST : ST (fun _ => False) s s.heap) (hK : va_K (dC, dI) classes (moT cA) s) (hP : va_P (dC, dI) classes (moW h0 r cA si sj sa sb) s.heap) (hE : ∀ (pc : Nat) (ls : Array Slot), decode b_Mo_fitsShort pc = .ok (.ireturn, 1) → narrow .boolean (.int r0) = .int r0 → W p l e R s m args below meth c s.heap [] 0 0 Q (F0 m pc ls [.int r0])) : ∀ (n : Nat) {x3 : Int32} {x2 : Int32} {x1 : Int32}, f_Mo_fitsShort_61 nf sa sb n x3 x2 x1 = some r0 → ∀ {ls : Array Slot}, lv_has ls 4 [(3, .int x3), (2, .int x2), (0, .ref h0), (1, .int x1)] → W p l e R s m args below meth c s.heap [] 0 0 Q (F0 m 61 ls []) := by
  obtain ⟨hx, hb, hr, hml, hown, hts, hlocks, hRf, hRl⟩ := id C0
  obtain ⟨tms, hZms, hTms, tmg, hZmg, hTmg, hNW⟩ := id hST
  intro n
  induction n with
  | zero =>
    intro x3 x2 x1 hf
    exact absurd hf (by simp [f_Mo_fitsShort_61])
  | succ n ih =>
    intro x3 x2 x1 hf ls hl
    unfold f_Mo_fitsShort_61 at hf
    refine lv_iload_n hx hb d_Mo_fitsShort_61 rfl (lv_at hl 0 rfl) ?_
    refine lv_bipush (v := 40) hx hb d_Mo_fitsShort_62 (by decide) ?_
    refine lv_iload_n hx hb d_Mo_fitsShort_64 rfl (lv_at hl 3 rfl) ?_
    refine lv_imul hx hb d_Mo_fitsShort_65 ?_
    refine lv_aload_n hx hb d_Mo_fitsShort_66 rfl (lv_at hl 2 rfl) ?_
    refine mg_8 hx hb hts hown hK hP d_Mo_fitsShort_67 ?_
    refine lv_iload_n hx hb d_Mo_fitsShort_70 rfl (lv_at hl 3 rfl) ?_
    obtain ⟨c_3, hf⟩ := it_n hf
    refine ma_8 (v := sa 8 x1.toNatClampNeg) hx hb hK hP c_3 rfl d_Mo_fitsShort_71 ?_
    refine lv_iadd hx hb d_Mo_fitsShort_72 ?_
    refine lv_icmp_ge (tgt := 108) hx hb d_Mo_fitsShort_73 (by decide) (fun c_4 => ?_) (fun c_4 => ?_)
    · have hf := it_t c_4 hf
      refine lv_iload_n hx hb d_Mo_fitsShort_108 rfl (lv_at hl 1 rfl) ?_
      obtain ⟨c_5, hf⟩ := it_g hf
      cases rs hf
      exact hE _ _ d_Mo_fitsShort_109 (nb_of c_5)
    · have hf := it_f c_4 hf
      refine lv_iload_n hx hb d_Mo_fitsShort_76 rfl (lv_at hl 1 rfl) ?_
      refine lv_aload_n hx hb d_Mo_fitsShort_77 rfl (lv_at hl 2 rfl) ?_
      refine mg_18 hx hb hts hown hK hP d_Mo_fitsShort_78 ?_
      refine lv_iload_n hx hb d_Mo_fitsShort_81 rfl (lv_at hl 0 rfl) ?_
      obtain ⟨c_6, hf⟩ := it_n hf
      refine ma_18 (v := sb 18 x3.toNatClampNeg) hx hb hK hP c_6 rfl d_Mo_fitsShort_82 ?_
      refine lv_aload_n hx hb d_Mo_fitsShort_83 rfl (lv_at hl 2 rfl) ?_
      refine mg_18 hx hb hts hown hK hP d_Mo_fitsShort_84 ?_
      refine lv_iload_n hx hb d_Mo_fitsShort_87 rfl (lv_at hl 0 rfl) ?_
      obtain ⟨c_7, hf⟩ := it_n hf
      refine ma_18 (v := sb 18 x3.toNatClampNeg) hx hb hK hP c_7 rfl d_Mo_fitsShort_88 ?_
      refine lv_l2i hx hb d_Mo_fitsShort_89 rfl ?_
      refine lv_i2l hx hb d_Mo_fitsShort_90 rfl ?_
      refine lc_ne (tgt := 99) hx hb d_Mo_fitsShort_91 d_Mo_fitsShort_92 (by decide) (fun c_8 => ?_) (fun c_8 => ?_)
      · have hf := it_f c_8 hf
        refine lv_iconst (v := 0) hx hb d_Mo_fitsShort_99 (by decide) ?_
        exact k_Mo_fitsShort_100 C0 hST hK hP hE (fun hf => ih hf) hf (lv_sub hl [0, 2, 3] rfl)
      · have hf := it_t c_8 hf
        refine lv_iconst (v := 1) hx hb d_Mo_fitsShort_95 (by decide) ?_
        refine lv_goto (tgt := 100) hx hb d_Mo_fitsShort_96 (by decide) ?_
        exact k_Mo_fitsShort_100 C0 hST hK hP hE (fun hf => ih hf) hf (lv_sub hl [0, 2, 3] rfl)
set_option maxHeartbeats 400000 in
set_option maxRecDepth 100000 in
theorem k_Mo_fitsShort_48 (C0 : Cx p s m meth c args R b_Mo_fitsShort "ZoneFilesModel" 4 (some .boolean) 0 0) (hST : ST (fun _ => False) s s.heap) (hK : va_K (dC, dI) classes (moT cA) s) (hP : va_P (dC, dI) classes (moW h0 r cA si sj sa sb) s.heap) (hE : ∀ (pc : Nat) (ls : Array Slot), decode b_Mo_fitsShort pc = .ok (.ireturn, 1) → narrow .boolean (.int r0) = .int r0 → W p l e R s m args below meth c s.heap [] 0 0 Q (F0 m pc ls [.int r0])) {K8 : Int32 → Int32 → Int32 → Option (Int32)} (hK8 : ∀ {x3 : Int32} {x2 : Int32} {x1 : Int32}, K8 x3 x2 x1 = some r0 → ∀ {ls : Array Slot}, lv_has ls 4 [(3, .int x3), (2, .int x2), (0, .ref h0), (1, .int x1)] → W p l e R s m args below meth c s.heap [] 0 0 Q (F0 m 8 ls [])) {x3 : Int32} {x1 : Int32} {s0 : Int32} {s1 : Int32} (hf : f_Mo_fitsShort_48 nf K8 x3 x1 s0 s1 = some r0) {ls : Array Slot} (hl : lv_has ls 4 [(3, .int x3), (0, .ref h0), (1, .int x1)]) : W p l e R s m args below meth c s.heap [] 0 0 Q (F0 m 48 ls [.int s0, .int s1]) := by
  obtain ⟨hx, hb, hr, hml, hown, hts, hlocks, hRf, hRl⟩ := id C0
  obtain ⟨tms, hZms, hTms, tmg, hZmg, hTmg, hNW⟩ := id hST
  unfold f_Mo_fitsShort_48 at hf
  refine lv_iand hx hb d_Mo_fitsShort_48 ?_
  refine lv_istore_n (lv' := [(2, .int (s1 &&& s0)), (3, .int x3), (0, .ref h0), (1, .int x1)]) hx hb d_Mo_fitsShort_49 rfl hl (by decide) rfl (fun ls hl => ?_)
  refine lv_iinc (v := x3 + 1) (lv' := [(3, .int (x3 + 1)), (2, .int (s1 &&& s0)), (0, .ref h0), (1, .int x1)]) hx hb d_Mo_fitsShort_50 hl (k := 1) rfl rfl (by decide) rfl (fun ls hl => ?_)
  refine lv_goto (tgt := 8) hx hb d_Mo_fitsShort_53 (by decide) ?_
  exact hK8 hf (lv_sub hl [0, 1, 2, 3] rfl)
set_option maxHeartbeats 400000 in
set_option maxRecDepth 100000 in
theorem k_Mo_fitsShort_8 (C0 : Cx p s m meth c args R b_Mo_fitsShort "ZoneFilesModel" 4 (some .boolean) 0 0) (hST : ST (fun _ => False) s s.heap) (hK : va_K (dC, dI) classes (moT cA) s) (hP : va_P (dC, dI) classes (moW h0 r cA si sj sa sb) s.heap) (hE : ∀ (pc : Nat) (ls : Array Slot), decode b_Mo_fitsShort pc = .ok (.ireturn, 1) → narrow .boolean (.int r0) = .int r0 → W p l e R s m args below meth c s.heap [] 0 0 Q (F0 m pc ls [.int r0])) : ∀ (n : Nat) {x3 : Int32} {x2 : Int32} {x1 : Int32}, f_Mo_fitsShort_8 nf sa sb n x3 x2 x1 = some r0 → ∀ {ls : Array Slot}, lv_has ls 4 [(3, .int x3), (2, .int x2), (0, .ref h0), (1, .int x1)] → W p l e R s m args below meth c s.heap [] 0 0 Q (F0 m 8 ls []) := by
  obtain ⟨hx, hb, hr, hml, hown, hts, hlocks, hRf, hRl⟩ := id C0
  obtain ⟨tms, hZms, hTms, tmg, hZmg, hTmg, hNW⟩ := id hST
  intro n
  induction n with
  | zero =>
    intro x3 x2 x1 hf
    exact absurd hf (by simp [f_Mo_fitsShort_8])
  | succ n ih =>
    intro x3 x2 x1 hf ls hl
    unfold f_Mo_fitsShort_8 at hf
    refine lv_iload_n hx hb d_Mo_fitsShort_8 rfl (lv_at hl 0 rfl) ?_
    refine lv_sipush (v := 200) hx hb d_Mo_fitsShort_9 (by decide) ?_
    refine lv_iload_n hx hb d_Mo_fitsShort_12 rfl (lv_at hl 3 rfl) ?_
    refine lv_imul hx hb d_Mo_fitsShort_13 ?_
    refine lv_aload_n hx hb d_Mo_fitsShort_14 rfl (lv_at hl 2 rfl) ?_
    refine mg_5 hx hb hts hown hK hP d_Mo_fitsShort_15 ?_
    refine lv_iload_n hx hb d_Mo_fitsShort_18 rfl (lv_at hl 3 rfl) ?_
    obtain ⟨c_1, hf⟩ := it_n hf
    refine ma_5 (v := sa 5 x1.toNatClampNeg) hx hb hK hP c_1 rfl d_Mo_fitsShort_19 ?_
    refine lv_iadd hx hb d_Mo_fitsShort_20 ?_
    refine lv_icmp_ge (tgt := 56) hx hb d_Mo_fitsShort_21 (by decide) (fun c_2 => ?_) (fun c_2 => ?_)
    · have hf := it_t c_2 hf
      refine lv_bipush (v := 40) hx hb d_Mo_fitsShort_56 (by decide) ?_
      refine lv_iload_n hx hb d_Mo_fitsShort_58 rfl (lv_at hl 3 rfl) ?_
      refine lv_imul hx hb d_Mo_fitsShort_59 ?_
      refine lv_istore_n (lv' := [(3, .int (40 * x1)), (2, .int x2), (0, .ref h0), (1, .int x1)]) hx hb d_Mo_fitsShort_60 rfl hl (by decide) rfl (fun ls hl => ?_)
      exact k_Mo_fitsShort_61 C0 hST hK hP hE nf hf (lv_sub hl [0, 1, 2, 3] rfl)
    · have hf := it_f c_2 hf
      refine lv_iload_n hx hb d_Mo_fitsShort_24 rfl (lv_at hl 1 rfl) ?_
      refine lv_aload_n hx hb d_Mo_fitsShort_25 rfl (lv_at hl 2 rfl) ?_
      refine mg_12 hx hb hts hown hK hP d_Mo_fitsShort_26 ?_
      refine lv_iload_n hx hb d_Mo_fitsShort_29 rfl (lv_at hl 0 rfl) ?_
      obtain ⟨c_9, hf⟩ := it_n hf
      refine ma_12 (v := sb 12 x3.toNatClampNeg) hx hb hK hP c_9 rfl d_Mo_fitsShort_30 ?_
      refine lv_aload_n hx hb d_Mo_fitsShort_31 rfl (lv_at hl 2 rfl) ?_
      refine mg_12 hx hb hts hown hK hP d_Mo_fitsShort_32 ?_
      refine lv_iload_n hx hb d_Mo_fitsShort_35 rfl (lv_at hl 0 rfl) ?_
      obtain ⟨c_10, hf⟩ := it_n hf
      refine ma_12 (v := sb 12 x3.toNatClampNeg) hx hb hK hP c_10 rfl d_Mo_fitsShort_36 ?_
      refine lv_l2i hx hb d_Mo_fitsShort_37 rfl ?_
      refine lv_i2l hx hb d_Mo_fitsShort_38 rfl ?_
      refine lc_ne (tgt := 47) hx hb d_Mo_fitsShort_39 d_Mo_fitsShort_40 (by decide) (fun c_11 => ?_) (fun c_11 => ?_)
      · have hf := it_f c_11 hf
        refine lv_iconst (v := 0) hx hb d_Mo_fitsShort_47 (by decide) ?_
        exact k_Mo_fitsShort_48 C0 hST hK hP hE (fun hf => ih hf) hf (lv_sub hl [0, 2, 3] rfl)
      · have hf := it_t c_11 hf
        refine lv_iconst (v := 1) hx hb d_Mo_fitsShort_43 (by decide) ?_
        refine lv_goto (tgt := 48) hx hb d_Mo_fitsShort_44 (by decide) ?_
        exact k_Mo_fitsShort_48 C0 hST hK hP hE (fun hf => ih hf) hf (lv_sub hl [0, 2, 3] rfl)
set_option maxHeartbeats 400000 in
set_option maxRecDepth 100000 in
theorem k_Mo_fitsShort_0 (C0 : Cx p s m meth c args R b_Mo_fitsShort "ZoneFilesModel" 4 (some .boolean) 0 0) (hST : ST (fun _ => False) s s.heap) (hK : va_K (dC, dI) classes (moT cA) s) (hP : va_P (dC, dI) classes (moW h0 r cA si sj sa sb) s.heap) (hE : ∀ (pc : Nat) (ls : Array Slot), decode b_Mo_fitsShort pc = .ok (.ireturn, 1) → narrow .boolean (.int r0) = .int r0 → W p l e R s m args below meth c s.heap [] 0 0 Q (F0 m pc ls [.int r0])) {x1 : Int32} (hf : f_Mo_fitsShort_0 nf sa sb x1 = some r0) {ls : Array Slot} (hl : lv_has ls 4 [(0, .ref h0), (1, .int x1)]) : W p l e R s m args below meth c s.heap [] 0 0 Q (F0 m 0 ls []) := by
  obtain ⟨hx, hb, hr, hml, hown, hts, hlocks, hRf, hRl⟩ := id C0
  obtain ⟨tms, hZms, hTms, tmg, hZmg, hTmg, hNW⟩ := id hST
  unfold f_Mo_fitsShort_0 at hf
  refine lv_iconst (v := 1) hx hb d_Mo_fitsShort_0 (by decide) ?_
  refine lv_istore_n (lv' := [(2, .int 1), (0, .ref h0), (1, .int x1)]) hx hb d_Mo_fitsShort_1 rfl hl (by decide) rfl (fun ls hl => ?_)
  refine lv_sipush (v := 200) hx hb d_Mo_fitsShort_2 (by decide) ?_
  refine lv_iload_n hx hb d_Mo_fitsShort_5 rfl (lv_at hl 2 rfl) ?_
  refine lv_imul hx hb d_Mo_fitsShort_6 ?_
  refine lv_istore_n (lv' := [(3, .int (200 * x1)), (2, .int 1), (0, .ref h0), (1, .int x1)]) hx hb d_Mo_fitsShort_7 rfl hl (by decide) rfl (fun ls hl => ?_)
  exact k_Mo_fitsShort_8 C0 hST hK hP hE nf hf (lv_sub hl [0, 1, 2, 3] rfl)
end
set_option maxHeartbeats 400000 in
set_option maxRecDepth 100000 in
theorem c_Mo_fitsShort (l : Launch) (dC : Nat → ClassId) (dI : Nat → Nat → Nat) (h0 : Nat) (r : Nat → Nat) (cA : Nat → ClassId) (nf : Nat) (p0 : Int32) (si : Nat → Int32) (sj : Nat → Int64) (sa : Nat → Nat → Int32) (sb : Nat → Nat → Int64) {r0 : Int32} (hf : f_Mo_fitsShort nf p0 si sj sa sb = some r0) : Met l y_Mo_fitsShort (wd y_Mo_fitsShort b_Mo_fitsShort 4 (some .boolean)) ({ frames := 0, cells := 0, slots := 0, locals := 0 }) (RO dC dI (moW h0 r cA si sj sa sb) (moT cA) [.ref h0, .int p0]) (SV (some (.int r0))) 0 0 (fun _ => False) :=
  met_S (plainFor_of_name (by decide)) (Nat.le_of_ble_eq_true rfl) (fun p e R s m args below meth c ls C0 hST hK hP hl => by
    obtain ⟨hx, hb, hr, hml, hown, hts, hlocks, hRf, hRl⟩ := id C0
    unfold f_Mo_fitsShort at hf
    exact k_Mo_fitsShort_0 C0 hST hK hP (fun pc ls hd hn => W.zret hx hb hr hn (fun t ht hW => ⟨rfl, ht⟩) (fun q h => by cases h) hd) hf (lv_sub hl [0, 1] rfl))
-- ZoneFilesModel.isNarrow(I)Z
def f_Mo_isNarrow_79 (nf : Nat) : Nat → Int32 → Int32 → Int32 → (Nat → Int32) → (Nat → Int64) → (Nat → Nat → Int32) → (Nat → Nat → Int64) → Option (Int32 × (Nat → Int32) × (Nat → Int64) × (Nat → Nat → Int32) × (Nat → Nat → Int64))
  | 0, _, _, _, _, _, _, _ => none
  | n + 1, x4, x3, x2, si, sj, sa, sb =>
    if x2 ≤ x4 then
    if x3 = 0 ∨ x3 = 1 then some (x3, si, sj, sa, sb) else none
    else
    if x4 < 0 ∨ 128 ≤ x4.toNatClampNeg then none else
      if x4 < 0 ∨ 6000 ≤ x4.toNatClampNeg then none else
      f_Mo_isNarrow_79 nf n (x4 + 1) x3 x2 si sj (va_up sa 0 (upd (sa 0) x4.toNatClampNeg (sa 60 x4.toNatClampNeg))) sb
def f_Mo_isNarrow_26 (nf : Nat) : Nat → Int32 → Int32 → Int32 → (Nat → Int32) → (Nat → Int64) → (Nat → Nat → Int32) → (Nat → Nat → Int64) → Option (Int32 × (Nat → Int32) × (Nat → Int64) × (Nat → Nat → Int32) × (Nat → Nat → Int64))
  | 0, _, _, _, _, _, _, _ => none
  | n + 1, x3, x2, x1, si, sj, sa, sb =>
    if x2 ≤ x3 then
    (f_Mo_ruleText nf 50 0 x2 si sj sa sb).bind fun (z_13, i_9, j_10, a_11, b_12) =>
      f_Mo_isNarrow_79 nf nf 0 z_13 x2 i_9 j_10 a_11 b_12
    else
    if x3 < 0 ∨ 6000 ≤ x3.toNatClampNeg then none else
      if x3 < 0 ∨ 128 ≤ x3.toNatClampNeg then none else
      if ((128 * x1) + x3) < 0 ∨ 640 ≤ ((128 * x1) + x3).toNatClampNeg then none else
      if x3 < 0 ∨ 6000 ≤ x3.toNatClampNeg then none else
      f_Mo_isNarrow_26 nf n (x3 + 1) x2 x1 si sj (va_up (va_up sa 60 (upd (sa 60) x3.toNatClampNeg (sa 0 x3.toNatClampNeg))) 0 (upd (sa 0) x3.toNatClampNeg (sa 22 ((128 * x1) + x3).toNatClampNeg))) sb
def f_Mo_isNarrow_0 (nf : Nat) (x1 : Int32) (si : Nat → Int32) (sj : Nat → Int64) (sa : Nat → Nat → Int32) (sb : Nat → Nat → Int64) : Option (Int32 × (Nat → Int32) × (Nat → Int64) × (Nat → Nat → Int32) × (Nat → Nat → Int64)) :=
  if x1 < 0 ∨ 5 ≤ x1.toNatClampNeg then none else
  if (sa 11 x1.toNatClampNeg) = 0 then
  some (1, si, sj, sa, sb)
  else
  (f_Mo_put nf 4 x1 si sj sa sb).bind fun (i_3, j_4, a_5, b_6) =>
    if x1 < 0 ∨ 5 ≤ x1.toNatClampNeg then none else
    f_Mo_isNarrow_26 nf nf 0 (a_5 11 x1.toNatClampNeg) x1 i_3 j_4 a_5 b_6
def f_Mo_isNarrow (nf : Nat) (p0 : Int32) (si : Nat → Int32) (sj : Nat → Int64) (sa : Nat → Nat → Int32) (sb : Nat → Nat → Int64) : Option (Int32 × (Nat → Int32) × (Nat → Int64) × (Nat → Nat → Int32) × (Nat → Nat → Int64)) :=
  f_Mo_isNarrow_0 nf p0 si sj sa sb
section
variable {p : Program} {l : Launch} {e : Env} {R : Room} {s : State} {m : MethodId} {args : Array Value} {below : List Frame} {meth : Method} {c : Code} {Q : State → Prop} {dC : Nat → ClassId} {dI : Nat → Nat → Nat} {nf : Nat} {A : Nat → Prop} {h0 : Nat} {r : Nat → Nat} {cA : Nat → ClassId}
variable {r0 : Int32} {vi : Nat → Int32} {vj : Nat → Int64} {va : Nat → Nat → Int32} {vb : Nat → Nat → Int64}
set_option maxHeartbeats 400000 in
set_option maxRecDepth 100000 in
theorem k_Mo_isNarrow_79 (C0 : Cx p s m meth c args R b_Mo_isNarrow "ZoneFilesModel" 5 (some .boolean) 5 117) (hST : ST A s s.heap) (hA : ∀ q, s.heap.size ≤ q → A q) (hK : va_K (dC, dI) classes (moT cA) s) (hE : ∀ (pc : Nat) (ls : Array Slot) (H : Heap) (locs : List Loc), decode b_Mo_isNarrow pc = .ok (.ireturn, 1) → narrow .boolean (.int r0) = .int r0 → va_P (dC, dI) classes (moW h0 r cA vi vj va vb) H → va_D A (moW h0 r cA vi vj va vb) → va_S A s.heap H locs → W p l e R s m args below meth c H locs 0 0 Q (F0 m pc ls [.int r0])) : ∀ (n : Nat) {x4 : Int32} {x3 : Int32} {x2 : Int32} {si : Nat → Int32} {sj : Nat → Int64} {sa : Nat → Nat → Int32} {sb : Nat → Nat → Int64}, f_Mo_isNarrow_79 nf n x4 x3 x2 si sj sa sb = some (r0, vi, vj, va, vb) → ∀ {H : Heap} {locs : List Loc} {ls : Array Slot}, va_P (dC, dI) classes (moW h0 r cA si sj sa sb) H → va_D A (moW h0 r cA si sj sa sb) → va_S A s.heap H locs → lv_has ls 5 [(4, .int x4), (3, .int x3), (2, .int x2), (0, .ref h0)] → W p l e R s m args below meth c H locs 0 0 Q (F0 m 79 ls []) := by
  obtain ⟨hx, hb, hr, hml, hown, hts, hlocks, hRf, hRl⟩ := id C0
  intro n
  induction n with
  | zero =>
    intro x4 x3 x2 si sj sa sb hf
    exact absurd hf (by simp [f_Mo_isNarrow_79])
  | succ n ih =>
    intro x4 x3 x2 si sj sa sb hf H locs ls hP hD hS hl
    unfold f_Mo_isNarrow_79 at hf
    refine lv_iload hx hb d_Mo_isNarrow_79 (lv_at hl 0 rfl) ?_
    refine lv_iload_n hx hb d_Mo_isNarrow_81 rfl (lv_at hl 2 rfl) ?_
    refine lv_icmp_ge (tgt := 105) hx hb d_Mo_isNarrow_82 (by decide) (fun c_14 => ?_) (fun c_14 => ?_)
    · have hf := it_t c_14 hf
      refine lv_iload_n hx hb d_Mo_isNarrow_105 rfl (lv_at hl 1 rfl) ?_
      obtain ⟨c_15, hf⟩ := it_g hf
      cases rs hf
      exact hE _ _ _ _ d_Mo_isNarrow_106 (nb_of c_15) hP hD hS
    · have hf := it_f c_14 hf
      refine lv_aload_n hx hb d_Mo_isNarrow_85 rfl (lv_at hl 3 rfl) ?_
      refine mg_0 hx hb hts hown hK hP d_Mo_isNarrow_86 ?_
      refine lv_iload hx hb d_Mo_isNarrow_89 (lv_at hl 0 rfl) ?_
      refine lv_aload_n hx hb d_Mo_isNarrow_91 rfl (lv_at hl 3 rfl) ?_
      refine mg_60 hx hb hts hown hK hP d_Mo_isNarrow_92 ?_
      refine lv_iload hx hb d_Mo_isNarrow_95 (lv_at hl 0 rfl) ?_
      obtain ⟨c_16, hf⟩ := it_n hf
      refine ma_60 (v := sa 60 x4.toNatClampNeg) hx hb hK hP c_16 rfl d_Mo_isNarrow_97 ?_
      obtain ⟨c_17, hf⟩ := it_n hf
      refine mz_0 hx hb hK hP hD hS c_17 d_Mo_isNarrow_98 (fun H locs hP hD hS => ?_)
      refine lv_iinc (v := x4 + 1) (lv' := [(4, .int (x4 + 1)), (3, .int x3), (2, .int x2), (0, .ref h0)]) hx hb d_Mo_isNarrow_99 hl (k := 0) rfl rfl (by decide) rfl (fun ls hl => ?_)
      refine lv_goto (tgt := 79) hx hb d_Mo_isNarrow_102 (by decide) ?_
      exact ih hf hP hD hS (lv_sub hl [0, 1, 2, 3] rfl)
set_option maxHeartbeats 400000 in
set_option maxRecDepth 100000 in
theorem k_Mo_isNarrow_26 (C0 : Cx p s m meth c args R b_Mo_isNarrow "ZoneFilesModel" 5 (some .boolean) 5 117) (hST : ST A s s.heap) (hA : ∀ q, s.heap.size ≤ q → A q) (hK : va_K (dC, dI) classes (moT cA) s) (hE : ∀ (pc : Nat) (ls : Array Slot) (H : Heap) (locs : List Loc), decode b_Mo_isNarrow pc = .ok (.ireturn, 1) → narrow .boolean (.int r0) = .int r0 → va_P (dC, dI) classes (moW h0 r cA vi vj va vb) H → va_D A (moW h0 r cA vi vj va vb) → va_S A s.heap H locs → W p l e R s m args below meth c H locs 0 0 Q (F0 m pc ls [.int r0])) : ∀ (n : Nat) {x3 : Int32} {x2 : Int32} {x1 : Int32} {si : Nat → Int32} {sj : Nat → Int64} {sa : Nat → Nat → Int32} {sb : Nat → Nat → Int64}, f_Mo_isNarrow_26 nf n x3 x2 x1 si sj sa sb = some (r0, vi, vj, va, vb) → ∀ {H : Heap} {locs : List Loc} {ls : Array Slot}, va_P (dC, dI) classes (moW h0 r cA si sj sa sb) H → va_D A (moW h0 r cA si sj sa sb) → va_S A s.heap H locs → lv_has ls 5 [(3, .int x3), (2, .int x2), (0, .ref h0), (1, .int x1)] → W p l e R s m args below meth c H locs 0 0 Q (F0 m 26 ls []) := by
  obtain ⟨hx, hb, hr, hml, hown, hts, hlocks, hRf, hRl⟩ := id C0
  intro n
  induction n with
  | zero =>
    intro x3 x2 x1 si sj sa sb hf
    exact absurd hf (by simp [f_Mo_isNarrow_26])
  | succ n ih =>
    intro x3 x2 x1 si sj sa sb hf H locs ls hP hD hS hl
    unfold f_Mo_isNarrow_26 at hf
    refine lv_iload_n hx hb d_Mo_isNarrow_26 rfl (lv_at hl 0 rfl) ?_
    refine lv_iload_n hx hb d_Mo_isNarrow_27 rfl (lv_at hl 1 rfl) ?_
    refine lv_icmp_ge (tgt := 67) hx hb d_Mo_isNarrow_28 (by decide) (fun c_8 => ?_) (fun c_8 => ?_)
    · have hf := it_t c_8 hf
      refine lv_aload_n hx hb d_Mo_isNarrow_67 rfl (lv_at hl 2 rfl) ?_
      refine lv_bipush (v := 50) hx hb d_Mo_isNarrow_68 (by decide) ?_
      refine lv_iconst (v := 0) hx hb d_Mo_isNarrow_70 (by decide) ?_
      refine lv_iload_n hx hb d_Mo_isNarrow_71 rfl (lv_at hl 1 rfl) ?_
      obtain ⟨⟨z_13, i_9, j_10, a_11, b_12⟩, hc, hf⟩ := ob hf
      have hFc := mo_free hD hS hA
      refine cl_M (v := (some (.int z_13))) (st1 := [.int z_13]) (va_runV (As := [.int 50, .int 0, .int x2]) (rest := []) ⟨hx, hb, hml, hown, hts⟩ (c_Mo_ruleText l dC dI h0 r cA H.size nf 50 0 x2 si sj sa sb hc) (cwV 3 hts (gdV m_6_75 m_6_77 msel_47 m_1_10 m_6_78) rfl rfl rfl (by decide +kernel) ⟨Nat.le_trans (Nat.le_of_ble_eq_true rfl) hRf, Nat.le_trans (Nat.le_of_ble_eq_true rfl) hRl⟩) ((MU.pre hP hK hD (hST.mu hS hFc)).vir (va_recv hK hP (ci := 10) (q0 := 0) rfl rfl)) rfl rfl hl.1 rfl (lv_room (Nat.le_of_ble_eq_true rfl)) d_Mo_isNarrow_72 ⟨Nat.zero_le _, Nat.zero_le _⟩) rfl hS (fun q _ h => hFc q h) hFc (fun t H1 locs ht hvm hB hz1 hk1 hS => ?_)
      obtain ⟨hP, hD⟩ := mo_back ht hD hB
      generalize H1 = H at hP hS ⊢
      refine lv_istore_n (lv' := [(3, .int z_13), (2, .int x2), (0, .ref h0), (1, .int x1)]) hx hb d_Mo_isNarrow_75 rfl hl (by decide) rfl (fun ls hl => ?_)
      refine lv_iconst (v := 0) hx hb d_Mo_isNarrow_76 (by decide) ?_
      refine lv_istore (lv' := [(4, .int 0), (3, .int z_13), (2, .int x2), (0, .ref h0), (1, .int x1)]) hx hb d_Mo_isNarrow_77 hl (by decide) rfl (fun ls hl => ?_)
      exact k_Mo_isNarrow_79 C0 hST hA hK hE nf hf hP hD hS (lv_sub hl [0, 1, 2, 3] rfl)
    · have hf := it_f c_8 hf
      refine lv_aload_n hx hb d_Mo_isNarrow_31 rfl (lv_at hl 2 rfl) ?_
      refine mg_60 hx hb hts hown hK hP d_Mo_isNarrow_32 ?_
      refine lv_iload_n hx hb d_Mo_isNarrow_35 rfl (lv_at hl 0 rfl) ?_
      refine lv_aload_n hx hb d_Mo_isNarrow_36 rfl (lv_at hl 2 rfl) ?_
      refine mg_0 hx hb hts hown hK hP d_Mo_isNarrow_37 ?_
      refine lv_iload_n hx hb d_Mo_isNarrow_40 rfl (lv_at hl 0 rfl) ?_
      obtain ⟨c_18, hf⟩ := it_n hf
      refine ma_0 (v := sa 0 x3.toNatClampNeg) hx hb hK hP c_18 rfl d_Mo_isNarrow_41 ?_
      obtain ⟨c_19, hf⟩ := it_n hf
      refine mz_60 hx hb hK hP hD hS c_19 d_Mo_isNarrow_42 (fun H locs hP hD hS => ?_)
      refine lv_aload_n hx hb d_Mo_isNarrow_43 rfl (lv_at hl 2 rfl) ?_
      refine mg_0 hx hb hts hown hK hP d_Mo_isNarrow_44 ?_
      refine lv_iload_n hx hb d_Mo_isNarrow_47 rfl (lv_at hl 0 rfl) ?_
      refine lv_aload_n hx hb d_Mo_isNarrow_48 rfl (lv_at hl 2 rfl) ?_
      refine mg_22 hx hb hts hown hK hP d_Mo_isNarrow_49 ?_
      refine lv_sipush (v := 128) hx hb d_Mo_isNarrow_52 (by decide) ?_
      refine lv_iload_n hx hb d_Mo_isNarrow_55 rfl (lv_at hl 3 rfl) ?_
      refine lv_imul hx hb d_Mo_isNarrow_56 ?_
      refine lv_iload_n hx hb d_Mo_isNarrow_57 rfl (lv_at hl 0 rfl) ?_
      refine lv_iadd hx hb d_Mo_isNarrow_58 ?_
      obtain ⟨c_20, hf⟩ := it_n hf
      refine ma_22 (v := sa 22 ((128 * x1) + x3).toNatClampNeg) hx hb hK hP c_20 rfl d_Mo_isNarrow_59 ?_
      obtain ⟨c_21, hf⟩ := it_n hf
      refine mz_0 hx hb hK hP hD hS c_21 d_Mo_isNarrow_60 (fun H locs hP hD hS => ?_)
      refine lv_iinc (v := x3 + 1) (lv' := [(3, .int (x3 + 1)), (2, .int x2), (0, .ref h0), (1, .int x1)]) hx hb d_Mo_isNarrow_61 hl (k := 0) rfl rfl (by decide) rfl (fun ls hl => ?_)
      refine lv_goto (tgt := 26) hx hb d_Mo_isNarrow_64 (by decide) ?_
      exact ih hf hP hD hS (lv_sub hl [0, 1, 2, 3] rfl)
set_option maxHeartbeats 400000 in
set_option maxRecDepth 100000 in
theorem k_Mo_isNarrow_0 (C0 : Cx p s m meth c args R b_Mo_isNarrow "ZoneFilesModel" 5 (some .boolean) 5 117) (hST : ST A s s.heap) (hA : ∀ q, s.heap.size ≤ q → A q) (hK : va_K (dC, dI) classes (moT cA) s) (hE : ∀ (pc : Nat) (ls : Array Slot) (H : Heap) (locs : List Loc), decode b_Mo_isNarrow pc = .ok (.ireturn, 1) → narrow .boolean (.int r0) = .int r0 → va_P (dC, dI) classes (moW h0 r cA vi vj va vb) H → va_D A (moW h0 r cA vi vj va vb) → va_S A s.heap H locs → W p l e R s m args below meth c H locs 0 0 Q (F0 m pc ls [.int r0])) {x1 : Int32} {si : Nat → Int32} {sj : Nat → Int64} {sa : Nat → Nat → Int32} {sb : Nat → Nat → Int64} (hf : f_Mo_isNarrow_0 nf x1 si sj sa sb = some (r0, vi, vj, va, vb)) {H : Heap} {locs : List Loc} {ls : Array Slot} (hP : va_P (dC, dI) classes (moW h0 r cA si sj sa sb) H) (hD : va_D A (moW h0 r cA si sj sa sb)) (hS : va_S A s.heap H locs) (hl : lv_has ls 5 [(0, .ref h0), (1, .int x1)]) : W p l e R s m args below meth c H locs 0 0 Q (F0 m 0 ls []) := by
  obtain ⟨hx, hb, hr, hml, hown, hts, hlocks, hRf, hRl⟩ := id C0
  unfold f_Mo_isNarrow_0 at hf
  refine lv_aload_n hx hb d_Mo_isNarrow_0 rfl (lv_at hl 0 rfl) ?_
  refine mg_11 hx hb hts hown hK hP d_Mo_isNarrow_1 ?_
  refine lv_iload_n hx hb d_Mo_isNarrow_4 rfl (lv_at hl 1 rfl) ?_
  obtain ⟨c_1, hf⟩ := it_n hf
  refine ma_11 (v := sa 11 x1.toNatClampNeg) hx hb hK hP c_1 rfl d_Mo_isNarrow_5 ?_
  refine lv_if_ne (tgt := 11) hx hb d_Mo_isNarrow_6 (by decide) (fun c_2 => ?_) (fun c_2 => ?_)
  · have hf := it_f c_2 hf
    refine lv_aload_n hx hb d_Mo_isNarrow_11 rfl (lv_at hl 0 rfl) ?_
    refine lv_iconst (v := 4) hx hb d_Mo_isNarrow_12 (by decide) ?_
    refine lv_iload_n hx hb d_Mo_isNarrow_13 rfl (lv_at hl 1 rfl) ?_
    obtain ⟨⟨i_3, j_4, a_5, b_6⟩, hc, hf⟩ := ob hf
    have hFc := mo_free hD hS hA
    refine cl_M (v := none) (st1 := []) (va_runV (As := [.int 4, .int x1]) (rest := []) ⟨hx, hb, hml, hown, hts⟩ (c_Mo_put l dC dI h0 r cA H.size nf 4 x1 si sj sa sb hc) (cwV 2 hts (gdV m_6_124 m_6_126 msel_57 m_1_10 m_6_127) rfl rfl rfl (by decide +kernel) ⟨Nat.le_trans (Nat.le_of_ble_eq_true rfl) hRf, Nat.le_trans (Nat.le_of_ble_eq_true rfl) hRl⟩) ((MU.pre hP hK hD (hST.mu hS hFc)).vir (va_recv hK hP (ci := 10) (q0 := 0) rfl rfl)) rfl rfl hl.1 rfl (lv_room (Nat.le_of_ble_eq_true rfl)) d_Mo_isNarrow_14 ⟨Nat.zero_le _, Nat.zero_le _⟩) rfl hS (fun q _ h => hFc q h) hFc (fun t H1 locs ht hvm hB hz1 hk1 hS => ?_)
    obtain ⟨hP, hD⟩ := mo_back ht hD hB
    generalize H1 = H at hP hS ⊢
    refine lv_aload_n hx hb d_Mo_isNarrow_17 rfl (lv_at hl 0 rfl) ?_
    refine mg_11 hx hb hts hown hK hP d_Mo_isNarrow_18 ?_
    refine lv_iload_n hx hb d_Mo_isNarrow_21 rfl (lv_at hl 1 rfl) ?_
    obtain ⟨c_7, hf⟩ := it_n hf
    refine ma_11 (v := a_5 11 x1.toNatClampNeg) hx hb hK hP c_7 rfl d_Mo_isNarrow_22 ?_
    refine lv_istore_n (lv' := [(2, .int (a_5 11 x1.toNatClampNeg)), (0, .ref h0), (1, .int x1)]) hx hb d_Mo_isNarrow_23 rfl hl (by decide) rfl (fun ls hl => ?_)
    refine lv_iconst (v := 0) hx hb d_Mo_isNarrow_24 (by decide) ?_
    refine lv_istore_n (lv' := [(3, .int 0), (2, .int (a_5 11 x1.toNatClampNeg)), (0, .ref h0), (1, .int x1)]) hx hb d_Mo_isNarrow_25 rfl hl (by decide) rfl (fun ls hl => ?_)
    exact k_Mo_isNarrow_26 C0 hST hA hK hE nf hf hP hD hS (lv_sub hl [0, 1, 2, 3] rfl)
  · have hf := it_t c_2 hf
    refine lv_iconst (v := 1) hx hb d_Mo_isNarrow_9 (by decide) ?_
    cases rs hf
    exact hE _ _ _ _ d_Mo_isNarrow_10 rfl hP hD hS
end
set_option maxHeartbeats 400000 in
set_option maxRecDepth 100000 in
theorem c_Mo_isNarrow (l : Launch) (dC : Nat → ClassId) (dI : Nat → Nat → Nat) (h0 : Nat) (r : Nat → Nat) (cA : Nat → ClassId) (sz : Nat) (nf : Nat) (p0 : Int32) (si : Nat → Int32) (sj : Nat → Int64) (sa : Nat → Nat → Int32) (sb : Nat → Nat → Int64) {r0 : Int32} {vi : Nat → Int32} {vj : Nat → Int64} {va : Nat → Nat → Int32} {vb : Nat → Nat → Int64} (hf : f_Mo_isNarrow nf p0 si sj sa sb = some (r0, vi, vj, va, vb)) : Met l y_Mo_isNarrow (wd y_Mo_isNarrow b_Mo_isNarrow 5 (some .boolean)) ({ frames := 5, cells := 0, slots := 0, locals := 117 }) (MU dC dI (moW h0 r cA si sj sa sb) (moT cA) sz [.ref h0, .int p0]) (MV (some (.int r0)) (fun t => va_P (dC, dI) classes (moW h0 r cA vi vj va vb) t.heap) (va_A (moW h0 r cA si sj sa sb) sz)) 0 0 (va_A (moW h0 r cA si sj sa sb) sz) :=
  met_M (plainFor_of_name (by decide)) (Nat.le_of_ble_eq_true rfl) (fun p e R s m args below meth c ls hRc hRs hsz hin C0 hST hK hP hD hl => by
    obtain ⟨hx, hb, hr, hml, hown, hts, hlocks, hRf, hRl⟩ := id C0
    subst hsz
    have hA : ∀ q : Nat, s.heap.size ≤ q → va_A (moW h0 r cA si sj sa sb) s.heap.size q := fun q h => Or.inr h
    have hS : va_S (va_A (moW h0 r cA si sj sa sb) s.heap.size) s.heap s.heap [] := va_S.rf
    unfold f_Mo_isNarrow at hf
    exact k_Mo_isNarrow_0 C0 hST hA hK (fun pc ls H locs hd hn hP hD hS => W.zret hx hb hr hn (fun t ht hW => ⟨⟨rfl, mo_end ht hP⟩, hS.F ht⟩) hS.2.2 hd) hf hP hD hS (lv_sub hl [0, 1] rfl))
-- ZoneFilesModel.write(II)I
def f_Mo_write_217 (nf : Nat) : Nat → Int32 → (Nat → Int32) → (Nat → Int64) → (Nat → Nat → Int32) → (Nat → Nat → Int64) → Option (Int32 × (Nat → Int32) × (Nat → Int64) × (Nat → Nat → Int32) × (Nat → Nat → Int64))
  | 0, _, _, _, _, _ => none
  | n + 1, x3, si, sj, sa, sb =>
    if (si 59) ≤ x3 then
    some (si 59, va_up si 57 (si 59), sj, sa, sb)
    else
    if x3 < 0 ∨ 6000 ≤ x3.toNatClampNeg then none else
      if x3 < 0 ∨ 6000 ≤ x3.toNatClampNeg then none else
      f_Mo_write_217 nf n (x3 + 1) si sj (va_up sa 56 (upd (sa 56) x3.toNatClampNeg (sa 58 x3.toNatClampNeg))) sb
def f_Mo_write_215 (nf : Nat) (si : Nat → Int32) (sj : Nat → Int64) (sa : Nat → Nat → Int32) (sb : Nat → Nat → Int64) : Option (Int32 × (Nat → Int32) × (Nat → Int64) × (Nat → Nat → Int32) × (Nat → Nat → Int64)) :=
  f_Mo_write_217 nf nf 0 si sj sa sb
def f_Mo_write_173 (nf : Nat) : Nat → Int32 → Int32 → (Nat → Int32) → (Nat → Int64) → (Nat → Nat → Int32) → (Nat → Nat → Int64) → Option (Int32 × (Nat → Int32) × (Nat → Int64) × (Nat → Nat → Int32) × (Nat → Nat → Int64))
  | 0, _, _, _, _, _, _ => none
  | n + 1, x3, x1, si, sj, sa, sb =>
    if x1 < 0 ∨ 5 ≤ x1.toNatClampNeg then none else
    if (sa 11 x1.toNatClampNeg) ≤ x3 then
    (f_Mo_putNumber nf 10 1 si sj sa sb).bind fun (i_33, j_34, a_35, b_36) =>
      f_Mo_write_215 nf i_33 j_34 a_35 b_36
    else
    if ((128 * x1) + x3) < 0 ∨ 640 ≤ ((128 * x1) + x3).toNatClampNeg then none else
      (f_Mo_putNumber nf ((sa 22 ((128 * x1) + x3).toNatClampNeg).toInt64) 1 si sj sa sb).bind fun (i_38, j_39, a_40, b_41) =>
      f_Mo_write_173 nf n (x3 + 1) x1 i_38 j_39 a_40 b_41
def f_Mo_write_156 (nf : Nat) (x1 : Int32) (x2 : Int32) (s0 : Int32) (s1 : Int32) (si : Nat → Int32) (sj : Nat → Int64) (sa : Nat → Nat → Int32) (sb : Nat → Nat → Int64) : Option (Int32 × (Nat → Int32) × (Nat → Int64) × (Nat → Nat → Int32) × (Nat → Nat → Int64)) :=
  (f_Mo_putBlock nf s1 s0 si sj sa sb).bind fun (i_19, j_20, a_21, b_22) =>
  if x2 ≤ 0 then
  f_Mo_write_215 nf i_19 j_20 a_21 b_22
  else
  (f_Mo_putNumber nf 10 1 i_19 j_20 a_21 b_22).bind fun (i_27, j_28, a_29, b_30) =>
    f_Mo_write_173 nf nf 0 x1 i_27 j_28 a_29 b_30
def f_Mo_write_103 (nf : Nat) (x1 : Int32) (x2 : Int32) (si : Nat → Int32) (sj : Nat → Int64) (sa : Nat → Nat → Int32) (sb : Nat → Nat → Int64) : Option (Int32 × (Nat → Int32) × (Nat → Int64) × (Nat → Nat → Int32) × (Nat → Nat → Int64)) :=
  if x1 < 0 ∨ 5 ≤ x1.toNatClampNeg then none else
  if x1 < 0 ∨ 5 ≤ x1.toNatClampNeg then none else
  if x1 < 0 ∨ 5 ≤ x1.toNatClampNeg then none else
  if x1 < 0 ∨ 5 ≤ x1.toNatClampNeg then none else
  if x1 < 0 ∨ 5 ≤ x1.toNatClampNeg then none else
  if x1 < 0 ∨ 5 ≤ x1.toNatClampNeg then none else
  (f_Mo_putHeader nf x2 (sa 10 x1.toNatClampNeg) (sa 9 x1.toNatClampNeg) (sa 8 x1.toNatClampNeg) (sa 5 x1.toNatClampNeg) (sa 6 x1.toNatClampNeg) (sa 7 x1.toNatClampNeg) si sj sa sb).bind fun (i_14, j_15, a_16, b_17) =>
  if x2 ≤ 0 then
  f_Mo_write_156 nf x1 x2 4 x1 i_14 j_15 a_16 b_17
  else
  f_Mo_write_156 nf x1 x2 8 x1 i_14 j_15 a_16 b_17
def f_Mo_write_64 (nf : Nat) (x1 : Int32) (x2 : Int32) (s0 : Int32) (si : Nat → Int32) (sj : Nat → Int64) (sa : Nat → Nat → Int32) (sb : Nat → Nat → Int64) : Option (Int32 × (Nat → Int32) × (Nat → Int64) × (Nat → Nat → Int32) × (Nat → Nat → Int64)) :=
  if s0 ≤ 0 then
  if x2 ≤ 0 then
    f_Mo_write_103 nf x1 x2 (va_up (va_up si 3 s0) 59 0) sj sa sb
    else
    (f_Mo_putHeader nf x2 0 0 0 0 1 1 (va_up (va_up si 3 s0) 59 0) sj sa sb).bind fun (i_42, j_43, a_44, b_45) =>
      (f_Mo_putNumber nf 0 7 i_42 j_43 a_44 b_45).bind fun (i_46, j_47, a_48, b_49) =>
      f_Mo_write_103 nf x1 x2 i_46 j_47 a_48 b_49
  else
  some (0, va_up si 3 s0, sj, sa, sb)
def f_Mo_write_63 (nf : Nat) (x1 : Int32) (x2 : Int32) (si : Nat → Int32) (sj : Nat → Int64) (sa : Nat → Nat → Int32) (sb : Nat → Nat → Int64) : Option (Int32 × (Nat → Int32) × (Nat → Int64) × (Nat → Nat → Int32) × (Nat → Nat → Int64)) :=
  f_Mo_write_64 nf x1 x2 0 si sj sa sb
def f_Mo_write_59 (nf : Nat) (x1 : Int32) (x2 : Int32) (si : Nat → Int32) (sj : Nat → Int64) (sa : Nat → Nat → Int32) (sb : Nat → Nat → Int64) : Option (Int32 × (Nat → Int32) × (Nat → Int64) × (Nat → Nat → Int32) × (Nat → Nat → Int64)) :=
  f_Mo_write_64 nf x1 x2 3 si sj sa sb
def f_Mo_write_45 (nf : Nat) (x1 : Int32) (x2 : Int32) (si : Nat → Int32) (sj : Nat → Int64) (sa : Nat → Nat → Int32) (sb : Nat → Nat → Int64) : Option (Int32 × (Nat → Int32) × (Nat → Int64) × (Nat → Nat → Int32) × (Nat → Nat → Int64)) :=
  if x2 = (50 : Int32) then
  (f_Mo_isNarrow nf x1 si sj sa sb).bind fun (z_54, i_50, j_51, a_52, b_53) =>
    if z_54 = 0 then
    f_Mo_write_59 nf x1 x2 i_50 j_51 a_52 b_53
    else
    f_Mo_write_63 nf x1 x2 i_50 j_51 a_52 b_53
  else
  f_Mo_write_63 nf x1 x2 si sj sa sb
def f_Mo_write_33 (nf : Nat) (x1 : Int32) (x2 : Int32) (si : Nat → Int32) (sj : Nat → Int64) (sa : Nat → Nat → Int32) (sb : Nat → Nat → Int64) : Option (Int32 × (Nat → Int32) × (Nat → Int64) × (Nat → Nat → Int32) × (Nat → Nat → Int64)) :=
  if x2 = 0 then
  (f_Mo_fitsShort nf x1 si sj sa sb).bind fun r_56 =>
    if r_56 = 0 then
    f_Mo_write_59 nf x1 x2 si sj sa sb
    else
    f_Mo_write_45 nf x1 x2 si sj sa sb
  else
  f_Mo_write_45 nf x1 x2 si sj sa sb
def f_Mo_write_0 (nf : Nat) (x1 : Int32) (x2 : Int32) (si : Nat → Int32) (sj : Nat → Int64) (sa : Nat → Nat → Int32) (sb : Nat → Nat → Int64) : Option (Int32 × (Nat → Int32) × (Nat → Int64) × (Nat → Nat → Int32) × (Nat → Nat → Int64)) :=
  (f_Mo_noZone nf x1 si sj sa sb).bind fun r_1 =>
  if r_1 = 0 then
  if x2 = 0 then
    f_Mo_write_33 nf x1 x2 si sj sa sb
    else
    if x2 = (50 : Int32) then
      f_Mo_write_33 nf x1 x2 si sj sa sb
      else
      if x2 = (51 : Int32) then
        f_Mo_write_33 nf x1 x2 si sj sa sb
        else
        f_Mo_write_64 nf x1 x2 2 si sj sa sb
  else
  f_Mo_write_64 nf x1 x2 1 si sj sa sb
def f_Mo_write (nf : Nat) (p0 : Int32) (p1 : Int32) (si : Nat → Int32) (sj : Nat → Int64) (sa : Nat → Nat → Int32) (sb : Nat → Nat → Int64) : Option (Int32 × (Nat → Int32) × (Nat → Int64) × (Nat → Nat → Int32) × (Nat → Nat → Int64)) :=
  f_Mo_write_0 nf p0 p1 si sj sa sb
section
variable {p : Program} {l : Launch} {e : Env} {R : Room} {s : State} {m : MethodId} {args : Array Value} {below : List Frame} {meth : Method} {c : Code} {Q : State → Prop} {dC : Nat → ClassId} {dI : Nat → Nat → Nat} {nf : Nat} {A : Nat → Prop} {h0 : Nat} {r : Nat → Nat} {cA : Nat → ClassId}
variable {r0 : Int32} {vi : Nat → Int32} {vj : Nat → Int64} {va : Nat → Nat → Int32} {vb : Nat → Nat → Int64}
set_option maxHeartbeats 400000 in
set_option maxRecDepth 100000 in
theorem k_Mo_write_217 (C0 : Cx p s m meth c args R b_Mo_write "ZoneFilesModel" 4 (some .int) 6 141) (hST : ST A s s.heap) (hA : ∀ q, s.heap.size ≤ q → A q) (hK : va_K (dC, dI) classes (moT cA) s) (hE : ∀ (pc : Nat) (ls : Array Slot) (H : Heap) (locs : List Loc), decode b_Mo_write pc = .ok (.ireturn, 1) → narrow .int (.int r0) = .int r0 → va_P (dC, dI) classes (moW h0 r cA vi vj va vb) H → va_D A (moW h0 r cA vi vj va vb) → va_S A s.heap H locs → W p l e R s m args below meth c H locs 0 0 Q (F0 m pc ls [.int r0])) : ∀ (n : Nat) {x3 : Int32} {si : Nat → Int32} {sj : Nat → Int64} {sa : Nat → Nat → Int32} {sb : Nat → Nat → Int64}, f_Mo_write_217 nf n x3 si sj sa sb = some (r0, vi, vj, va, vb) → ∀ {H : Heap} {locs : List Loc} {ls : Array Slot}, va_P (dC, dI) classes (moW h0 r cA si sj sa sb) H → va_D A (moW h0 r cA si sj sa sb) → va_S A s.heap H locs → lv_has ls 4 [(3, .int x3), (0, .ref h0)] → W p l e R s m args below meth c H locs 0 0 Q (F0 m 217 ls []) := by
  obtain ⟨hx, hb, hr, hml, hown, hts, hlocks, hRf, hRl⟩ := id C0
  intro n
  induction n with
  | zero =>
    intro x3 si sj sa sb hf
    exact absurd hf (by simp [f_Mo_write_217])
  | succ n ih =>
    intro x3 si sj sa sb hf H locs ls hP hD hS hl
    unfold f_Mo_write_217 at hf
    refine lv_iload_n hx hb d_Mo_write_217 rfl (lv_at hl 0 rfl) ?_
    refine lv_aload_n hx hb d_Mo_write_218 rfl (lv_at hl 1 rfl) ?_
    refine mg_59 (v := si 59) hx hb hts hown hK hP rfl d_Mo_write_219 ?_
    refine lv_icmp_ge (tgt := 243) hx hb d_Mo_write_222 (by decide) (fun c_24 => ?_) (fun c_24 => ?_)
    · have hf := it_t c_24 hf
      refine lv_aload_n hx hb d_Mo_write_243 rfl (lv_at hl 1 rfl) ?_
      refine lv_aload_n hx hb d_Mo_write_244 rfl (lv_at hl 1 rfl) ?_
      refine mg_59 (v := si 59) hx hb hts hown hK hP rfl d_Mo_write_245 ?_
      refine mp_57 hx hb hts hown hK hP hD hS d_Mo_write_248 (fun H locs hP hD hS => ?_)
      refine lv_aload_n hx hb d_Mo_write_251 rfl (lv_at hl 1 rfl) ?_
      refine mg_57 (v := si 59) hx hb hts hown hK hP rfl d_Mo_write_252 ?_
      cases rs hf
      exact hE _ _ _ _ d_Mo_write_255 rfl hP hD hS
    · have hf := it_f c_24 hf
      refine lv_aload_n hx hb d_Mo_write_225 rfl (lv_at hl 1 rfl) ?_
      refine mg_56 hx hb hts hown hK hP d_Mo_write_226 ?_
      refine lv_iload_n hx hb d_Mo_write_229 rfl (lv_at hl 0 rfl) ?_
      refine lv_aload_n hx hb d_Mo_write_230 rfl (lv_at hl 1 rfl) ?_
      refine mg_58 hx hb hts hown hK hP d_Mo_write_231 ?_
      refine lv_iload_n hx hb d_Mo_write_234 rfl (lv_at hl 0 rfl) ?_
      obtain ⟨c_25, hf⟩ := it_n hf
      refine ma_58 (v := sa 58 x3.toNatClampNeg) hx hb hK hP c_25 rfl d_Mo_write_235 ?_
      obtain ⟨c_26, hf⟩ := it_n hf
      refine mz_56 hx hb hK hP hD hS c_26 d_Mo_write_236 (fun H locs hP hD hS => ?_)
      refine lv_iinc (v := x3 + 1) (lv' := [(3, .int (x3 + 1)), (0, .ref h0)]) hx hb d_Mo_write_237 hl (k := 0) rfl rfl (by decide) rfl (fun ls hl => ?_)
      refine lv_goto (tgt := 217) hx hb d_Mo_write_240 (by decide) ?_
      exact ih hf hP hD hS (lv_sub hl [0, 1] rfl)
set_option maxHeartbeats 400000 in
set_option maxRecDepth 100000 in
theorem k_Mo_write_215 (C0 : Cx p s m meth c args R b_Mo_write "ZoneFilesModel" 4 (some .int) 6 141) (hST : ST A s s.heap) (hA : ∀ q, s.heap.size ≤ q → A q) (hK : va_K (dC, dI) classes (moT cA) s) (hE : ∀ (pc : Nat) (ls : Array Slot) (H : Heap) (locs : List Loc), decode b_Mo_write pc = .ok (.ireturn, 1) → narrow .int (.int r0) = .int r0 → va_P (dC, dI) classes (moW h0 r cA vi vj va vb) H → va_D A (moW h0 r cA vi vj va vb) → va_S A s.heap H locs → W p l e R s m args below meth c H locs 0 0 Q (F0 m pc ls [.int r0])) {si : Nat → Int32} {sj : Nat → Int64} {sa : Nat → Nat → Int32} {sb : Nat → Nat → Int64} (hf : f_Mo_write_215 nf si sj sa sb = some (r0, vi, vj, va, vb)) {H : Heap} {locs : List Loc} {ls : Array Slot} (hP : va_P (dC, dI) classes (moW h0 r cA si sj sa sb) H) (hD : va_D A (moW h0 r cA si sj sa sb)) (hS : va_S A s.heap H locs) (hl : lv_has ls 4 [(0, .ref h0)]) : W p l e R s m args below meth c H locs 0 0 Q (F0 m 215 ls []) := by
  obtain ⟨hx, hb, hr, hml, hown, hts, hlocks, hRf, hRl⟩ := id C0
  unfold f_Mo_write_215 at hf
  refine lv_iconst (v := 0) hx hb d_Mo_write_215 (by decide) ?_
  refine lv_istore_n (lv' := [(3, .int 0), (0, .ref h0)]) hx hb d_Mo_write_216 rfl hl (by decide) rfl (fun ls hl => ?_)
  exact k_Mo_write_217 C0 hST hA hK hE nf hf hP hD hS (lv_sub hl [0, 1] rfl)
set_option maxHeartbeats 400000 in
set_option maxRecDepth 100000 in
theorem k_Mo_write_173 (C0 : Cx p s m meth c args R b_Mo_write "ZoneFilesModel" 4 (some .int) 6 141) (hST : ST A s s.heap) (hA : ∀ q, s.heap.size ≤ q → A q) (hK : va_K (dC, dI) classes (moT cA) s) (hE : ∀ (pc : Nat) (ls : Array Slot) (H : Heap) (locs : List Loc), decode b_Mo_write pc = .ok (.ireturn, 1) → narrow .int (.int r0) = .int r0 → va_P (dC, dI) classes (moW h0 r cA vi vj va vb) H → va_D A (moW h0 r cA vi vj va vb) → va_S A s.heap H locs → W p l e R s m args below meth c H locs 0 0 Q (F0 m pc ls [.int r0])) : ∀ (n : Nat) {x3 : Int32} {x1 : Int32} {si : Nat → Int32} {sj : Nat → Int64} {sa : Nat → Nat → Int32} {sb : Nat → Nat → Int64}, f_Mo_write_173 nf n x3 x1 si sj sa sb = some (r0, vi, vj, va, vb) → ∀ {H : Heap} {locs : List Loc} {ls : Array Slot}, va_P (dC, dI) classes (moW h0 r cA si sj sa sb) H → va_D A (moW h0 r cA si sj sa sb) → va_S A s.heap H locs → lv_has ls 4 [(3, .int x3), (0, .ref h0), (1, .int x1)] → W p l e R s m args below meth c H locs 0 0 Q (F0 m 173 ls []) := by
  obtain ⟨hx, hb, hr, hml, hown, hts, hlocks, hRf, hRl⟩ := id C0
  intro n
  induction n with
  | zero =>
    intro x3 x1 si sj sa sb hf
    exact absurd hf (by simp [f_Mo_write_173])
  | succ n ih =>
    intro x3 x1 si sj sa sb hf H locs ls hP hD hS hl
    unfold f_Mo_write_173 at hf
    refine lv_iload_n hx hb d_Mo_write_173 rfl (lv_at hl 0 rfl) ?_
    refine lv_aload_n hx hb d_Mo_write_174 rfl (lv_at hl 1 rfl) ?_
    refine mg_11 hx hb hts hown hK hP d_Mo_write_175 ?_
    refine lv_iload_n hx hb d_Mo_write_178 rfl (lv_at hl 2 rfl) ?_
    obtain ⟨c_31, hf⟩ := it_n hf
    refine ma_11 (v := sa 11 x1.toNatClampNeg) hx hb hK hP c_31 rfl d_Mo_write_179 ?_
    refine lv_icmp_ge (tgt := 207) hx hb d_Mo_write_180 (by decide) (fun c_32 => ?_) (fun c_32 => ?_)
    · have hf := it_t c_32 hf
      refine lv_aload_n hx hb d_Mo_write_207 rfl (lv_at hl 1 rfl) ?_
      refine lv_ldc2 (v := 10) hx hb hown (hts (.constantLong "ZoneFilesModel" 480 10) m_8_132) d_Mo_write_208 ?_
      refine lv_iconst (v := 1) hx hb d_Mo_write_211 (by decide) ?_
      obtain ⟨⟨i_33, j_34, a_35, b_36⟩, hc, hf⟩ := ob hf
      have hFc := mo_free hD hS hA
      refine cl_M (v := none) (st1 := []) (va_runV (As := [.long 10, .int 1]) (rest := []) ⟨hx, hb, hml, hown, hts⟩ (c_Mo_putNumber l dC dI h0 r cA H.size nf 10 1 si sj sa sb hc) (cwV 2 hts (gdV m_8_124 m_8_126 msel_95 m_1_10 m_8_127) rfl rfl rfl (by decide +kernel) ⟨Nat.le_trans (Nat.le_of_ble_eq_true rfl) hRf, Nat.le_trans (Nat.le_of_ble_eq_true rfl) hRl⟩) ((MU.pre hP hK hD (hST.mu hS hFc)).vir (va_recv hK hP (ci := 10) (q0 := 0) rfl rfl)) rfl rfl hl.1 rfl (lv_room (Nat.le_of_ble_eq_true rfl)) d_Mo_write_212 ⟨Nat.zero_le _, Nat.zero_le _⟩) rfl hS (fun q _ h => hFc q h) hFc (fun t H1 locs ht hvm hB hz1 hk1 hS => ?_)
      obtain ⟨hP, hD⟩ := mo_back ht hD hB
      generalize H1 = H at hP hS ⊢
      exact k_Mo_write_215 C0 hST hA hK hE hf hP hD hS (lv_sub hl [1] rfl)
    · have hf := it_f c_32 hf
      refine lv_aload_n hx hb d_Mo_write_183 rfl (lv_at hl 1 rfl) ?_
      refine lv_aload_n hx hb d_Mo_write_184 rfl (lv_at hl 1 rfl) ?_
      refine mg_22 hx hb hts hown hK hP d_Mo_write_185 ?_
      refine lv_sipush (v := 128) hx hb d_Mo_write_188 (by decide) ?_
      refine lv_iload_n hx hb d_Mo_write_191 rfl (lv_at hl 2 rfl) ?_
      refine lv_imul hx hb d_Mo_write_192 ?_
      refine lv_iload_n hx hb d_Mo_write_193 rfl (lv_at hl 0 rfl) ?_
      refine lv_iadd hx hb d_Mo_write_194 ?_
      obtain ⟨c_37, hf⟩ := it_n hf
      refine ma_22 (v := sa 22 ((128 * x1) + x3).toNatClampNeg) hx hb hK hP c_37 rfl d_Mo_write_195 ?_
      refine lv_i2l hx hb d_Mo_write_196 rfl ?_
      refine lv_iconst (v := 1) hx hb d_Mo_write_197 (by decide) ?_
      obtain ⟨⟨i_38, j_39, a_40, b_41⟩, hc, hf⟩ := ob hf
      have hFc := mo_free hD hS hA
      refine cl_M (v := none) (st1 := []) (va_runV (As := [.long ((sa 22 ((128 * x1) + x3).toNatClampNeg).toInt64), .int 1]) (rest := []) ⟨hx, hb, hml, hown, hts⟩ (c_Mo_putNumber l dC dI h0 r cA H.size nf ((sa 22 ((128 * x1) + x3).toNatClampNeg).toInt64) 1 si sj sa sb hc) (cwV 2 hts (gdV m_8_124 m_8_126 msel_95 m_1_10 m_8_127) rfl rfl rfl (by decide +kernel) ⟨Nat.le_trans (Nat.le_of_ble_eq_true rfl) hRf, Nat.le_trans (Nat.le_of_ble_eq_true rfl) hRl⟩) ((MU.pre hP hK hD (hST.mu hS hFc)).vir (va_recv hK hP (ci := 10) (q0 := 0) rfl rfl)) rfl rfl hl.1 rfl (lv_room (Nat.le_of_ble_eq_true rfl)) d_Mo_write_198 ⟨Nat.zero_le _, Nat.zero_le _⟩) rfl hS (fun q _ h => hFc q h) hFc (fun t H1 locs ht hvm hB hz1 hk1 hS => ?_)
      obtain ⟨hP, hD⟩ := mo_back ht hD hB
      generalize H1 = H at hP hS ⊢
      refine lv_iinc (v := x3 + 1) (lv' := [(3, .int (x3 + 1)), (0, .ref h0), (1, .int x1)]) hx hb d_Mo_write_201 hl (k := 0) rfl rfl (by decide) rfl (fun ls hl => ?_)
      refine lv_goto (tgt := 173) hx hb d_Mo_write_204 (by decide) ?_
      exact ih hf hP hD hS (lv_sub hl [0, 1, 2] rfl)
set_option maxHeartbeats 400000 in
set_option maxRecDepth 100000 in
theorem k_Mo_write_156 (C0 : Cx p s m meth c args R b_Mo_write "ZoneFilesModel" 4 (some .int) 6 141) (hST : ST A s s.heap) (hA : ∀ q, s.heap.size ≤ q → A q) (hK : va_K (dC, dI) classes (moT cA) s) (hE : ∀ (pc : Nat) (ls : Array Slot) (H : Heap) (locs : List Loc), decode b_Mo_write pc = .ok (.ireturn, 1) → narrow .int (.int r0) = .int r0 → va_P (dC, dI) classes (moW h0 r cA vi vj va vb) H → va_D A (moW h0 r cA vi vj va vb) → va_S A s.heap H locs → W p l e R s m args below meth c H locs 0 0 Q (F0 m pc ls [.int r0])) {x1 : Int32} {x2 : Int32} {s0 : Int32} {s1 : Int32} {si : Nat → Int32} {sj : Nat → Int64} {sa : Nat → Nat → Int32} {sb : Nat → Nat → Int64} (hf : f_Mo_write_156 nf x1 x2 s0 s1 si sj sa sb = some (r0, vi, vj, va, vb)) {H : Heap} {locs : List Loc} {ls : Array Slot} (hP : va_P (dC, dI) classes (moW h0 r cA si sj sa sb) H) (hD : va_D A (moW h0 r cA si sj sa sb)) (hS : va_S A s.heap H locs) (hl : lv_has ls 4 [(0, .ref h0), (1, .int x1), (2, .int x2)]) : W p l e R s m args below meth c H locs 0 0 Q (F0 m 156 ls [.int s0, .int s1, .ref h0]) := by
  obtain ⟨hx, hb, hr, hml, hown, hts, hlocks, hRf, hRl⟩ := id C0
  unfold f_Mo_write_156 at hf
  obtain ⟨⟨i_19, j_20, a_21, b_22⟩, hc, hf⟩ := ob hf
  have hFc := mo_free hD hS hA
  refine cl_M (v := none) (st1 := []) (va_runV (As := [.int s1, .int s0]) (rest := []) ⟨hx, hb, hml, hown, hts⟩ (c_Mo_putBlock l dC dI h0 r cA H.size nf s1 s0 si sj sa sb hc) (cwV 2 hts (gdV m_8_128 m_8_130 msel_96 m_1_10 m_8_131) rfl rfl rfl (by decide +kernel) ⟨Nat.le_trans (Nat.le_of_ble_eq_true rfl) hRf, Nat.le_trans (Nat.le_of_ble_eq_true rfl) hRl⟩) ((MU.pre hP hK hD (hST.mu hS hFc)).vir (va_recv hK hP (ci := 10) (q0 := 0) rfl rfl)) rfl rfl hl.1 rfl (lv_room (Nat.le_of_ble_eq_true rfl)) d_Mo_write_156 ⟨Nat.zero_le _, Nat.zero_le _⟩) rfl hS (fun q _ h => hFc q h) hFc (fun t H1 locs ht hvm hB hz1 hk1 hS => ?_)
  obtain ⟨hP, hD⟩ := mo_back ht hD hB
  generalize H1 = H at hP hS ⊢
  refine lv_iload_n hx hb d_Mo_write_159 rfl (lv_at hl 2 rfl) ?_
  refine lv_if_le (tgt := 215) hx hb d_Mo_write_160 (by decide) (fun c_23 => ?_) (fun c_23 => ?_)
  · have hf := it_t c_23 hf
    exact k_Mo_write_215 C0 hST hA hK hE hf hP hD hS (lv_sub hl [0] rfl)
  · have hf := it_f c_23 hf
    refine lv_aload_n hx hb d_Mo_write_163 rfl (lv_at hl 0 rfl) ?_
    refine lv_ldc2 (v := 10) hx hb hown (hts (.constantLong "ZoneFilesModel" 480 10) m_8_132) d_Mo_write_164 ?_
    refine lv_iconst (v := 1) hx hb d_Mo_write_167 (by decide) ?_
    obtain ⟨⟨i_27, j_28, a_29, b_30⟩, hc, hf⟩ := ob hf
    have hFc := mo_free hD hS hA
    refine cl_M (v := none) (st1 := []) (va_runV (As := [.long 10, .int 1]) (rest := []) ⟨hx, hb, hml, hown, hts⟩ (c_Mo_putNumber l dC dI h0 r cA H.size nf 10 1 i_19 j_20 a_21 b_22 hc) (cwV 2 hts (gdV m_8_124 m_8_126 msel_95 m_1_10 m_8_127) rfl rfl rfl (by decide +kernel) ⟨Nat.le_trans (Nat.le_of_ble_eq_true rfl) hRf, Nat.le_trans (Nat.le_of_ble_eq_true rfl) hRl⟩) ((MU.pre hP hK hD (hST.mu hS hFc)).vir (va_recv hK hP (ci := 10) (q0 := 0) rfl rfl)) rfl rfl hl.1 rfl (lv_room (Nat.le_of_ble_eq_true rfl)) d_Mo_write_168 ⟨Nat.zero_le _, Nat.zero_le _⟩) rfl hS (fun q _ h => hFc q h) hFc (fun t H1 locs ht hvm hB hz1 hk1 hS => ?_)
    obtain ⟨hP, hD⟩ := mo_back ht hD hB
    generalize H1 = H at hP hS ⊢
    refine lv_iconst (v := 0) hx hb d_Mo_write_171 (by decide) ?_
    refine lv_istore_n (lv' := [(3, .int 0), (0, .ref h0), (1, .int x1), (2, .int x2)]) hx hb d_Mo_write_172 rfl hl (by decide) rfl (fun ls hl => ?_)
    exact k_Mo_write_173 C0 hST hA hK hE nf hf hP hD hS (lv_sub hl [0, 1, 2] rfl)
set_option maxHeartbeats 400000 in
set_option maxRecDepth 100000 in
theorem k_Mo_write_103 (C0 : Cx p s m meth c args R b_Mo_write "ZoneFilesModel" 4 (some .int) 6 141) (hST : ST A s s.heap) (hA : ∀ q, s.heap.size ≤ q → A q) (hK : va_K (dC, dI) classes (moT cA) s) (hE : ∀ (pc : Nat) (ls : Array Slot) (H : Heap) (locs : List Loc), decode b_Mo_write pc = .ok (.ireturn, 1) → narrow .int (.int r0) = .int r0 → va_P (dC, dI) classes (moW h0 r cA vi vj va vb) H → va_D A (moW h0 r cA vi vj va vb) → va_S A s.heap H locs → W p l e R s m args below meth c H locs 0 0 Q (F0 m pc ls [.int r0])) {x1 : Int32} {x2 : Int32} {si : Nat → Int32} {sj : Nat → Int64} {sa : Nat → Nat → Int32} {sb : Nat → Nat → Int64} (hf : f_Mo_write_103 nf x1 x2 si sj sa sb = some (r0, vi, vj, va, vb)) {H : Heap} {locs : List Loc} {ls : Array Slot} (hP : va_P (dC, dI) classes (moW h0 r cA si sj sa sb) H) (hD : va_D A (moW h0 r cA si sj sa sb)) (hS : va_S A s.heap H locs) (hl : lv_has ls 4 [(0, .ref h0), (1, .int x1), (2, .int x2)]) : W p l e R s m args below meth c H locs 0 0 Q (F0 m 103 ls []) := by
  obtain ⟨hx, hb, hr, hml, hown, hts, hlocks, hRf, hRl⟩ := id C0
  unfold f_Mo_write_103 at hf
  refine lv_aload_n hx hb d_Mo_write_103 rfl (lv_at hl 0 rfl) ?_
  refine lv_iload_n hx hb d_Mo_write_104 rfl (lv_at hl 2 rfl) ?_
  refine lv_aload_n hx hb d_Mo_write_105 rfl (lv_at hl 0 rfl) ?_
  refine mg_10 hx hb hts hown hK hP d_Mo_write_106 ?_
  refine lv_iload_n hx hb d_Mo_write_109 rfl (lv_at hl 1 rfl) ?_
  obtain ⟨c_8, hf⟩ := it_n hf
  refine ma_10 (v := sa 10 x1.toNatClampNeg) hx hb hK hP c_8 rfl d_Mo_write_110 ?_
  refine lv_aload_n hx hb d_Mo_write_111 rfl (lv_at hl 0 rfl) ?_
  refine mg_9 hx hb hts hown hK hP d_Mo_write_112 ?_
  refine lv_iload_n hx hb d_Mo_write_115 rfl (lv_at hl 1 rfl) ?_
  obtain ⟨c_9, hf⟩ := it_n hf
  refine ma_9 (v := sa 9 x1.toNatClampNeg) hx hb hK hP c_9 rfl d_Mo_write_116 ?_
  refine lv_aload_n hx hb d_Mo_write_117 rfl (lv_at hl 0 rfl) ?_
  refine mg_8 hx hb hts hown hK hP d_Mo_write_118 ?_
  refine lv_iload_n hx hb d_Mo_write_121 rfl (lv_at hl 1 rfl) ?_
  obtain ⟨c_10, hf⟩ := it_n hf
  refine ma_8 (v := sa 8 x1.toNatClampNeg) hx hb hK hP c_10 rfl d_Mo_write_122 ?_
  refine lv_aload_n hx hb d_Mo_write_123 rfl (lv_at hl 0 rfl) ?_
  refine mg_5 hx hb hts hown hK hP d_Mo_write_124 ?_
  refine lv_iload_n hx hb d_Mo_write_127 rfl (lv_at hl 1 rfl) ?_
  obtain ⟨c_11, hf⟩ := it_n hf
  refine ma_5 (v := sa 5 x1.toNatClampNeg) hx hb hK hP c_11 rfl d_Mo_write_128 ?_
  refine lv_aload_n hx hb d_Mo_write_129 rfl (lv_at hl 0 rfl) ?_
  refine mg_6 hx hb hts hown hK hP d_Mo_write_130 ?_
  refine lv_iload_n hx hb d_Mo_write_133 rfl (lv_at hl 1 rfl) ?_
  obtain ⟨c_12, hf⟩ := it_n hf
  refine ma_6 (v := sa 6 x1.toNatClampNeg) hx hb hK hP c_12 rfl d_Mo_write_134 ?_
  refine lv_aload_n hx hb d_Mo_write_135 rfl (lv_at hl 0 rfl) ?_
  refine mg_7 hx hb hts hown hK hP d_Mo_write_136 ?_
  refine lv_iload_n hx hb d_Mo_write_139 rfl (lv_at hl 1 rfl) ?_
  obtain ⟨c_13, hf⟩ := it_n hf
  refine ma_7 (v := sa 7 x1.toNatClampNeg) hx hb hK hP c_13 rfl d_Mo_write_140 ?_
  obtain ⟨⟨i_14, j_15, a_16, b_17⟩, hc, hf⟩ := ob hf
  have hFc := mo_free hD hS hA
  refine cl_M (v := none) (st1 := []) (va_runV (As := [.int x2, .int (sa 10 x1.toNatClampNeg), .int (sa 9 x1.toNatClampNeg), .int (sa 8 x1.toNatClampNeg), .int (sa 5 x1.toNatClampNeg), .int (sa 6 x1.toNatClampNeg), .int (sa 7 x1.toNatClampNeg)]) (rest := []) ⟨hx, hb, hml, hown, hts⟩ (c_Mo_putHeader l dC dI h0 r cA H.size nf x2 (sa 10 x1.toNatClampNeg) (sa 9 x1.toNatClampNeg) (sa 8 x1.toNatClampNeg) (sa 5 x1.toNatClampNeg) (sa 6 x1.toNatClampNeg) (sa 7 x1.toNatClampNeg) si sj sa sb hc) (cwV 7 hts (gdV m_8_120 m_8_122 msel_94 m_1_10 m_8_123) rfl rfl rfl (by decide +kernel) ⟨Nat.le_trans (Nat.le_of_ble_eq_true rfl) hRf, Nat.le_trans (Nat.le_of_ble_eq_true rfl) hRl⟩) ((MU.pre hP hK hD (hST.mu hS hFc)).vir (va_recv hK hP (ci := 10) (q0 := 0) rfl rfl)) rfl rfl hl.1 rfl (lv_room (Nat.le_of_ble_eq_true rfl)) d_Mo_write_141 ⟨Nat.zero_le _, Nat.zero_le _⟩) rfl hS (fun q _ h => hFc q h) hFc (fun t H1 locs ht hvm hB hz1 hk1 hS => ?_)
  obtain ⟨hP, hD⟩ := mo_back ht hD hB
  generalize H1 = H at hP hS ⊢
  refine lv_aload_n hx hb d_Mo_write_144 rfl (lv_at hl 0 rfl) ?_
  refine lv_iload_n hx hb d_Mo_write_145 rfl (lv_at hl 1 rfl) ?_
  refine lv_iload_n hx hb d_Mo_write_146 rfl (lv_at hl 2 rfl) ?_
  refine lv_if_le (tgt := 155) hx hb d_Mo_write_147 (by decide) (fun c_18 => ?_) (fun c_18 => ?_)
  · have hf := it_t c_18 hf
    refine lv_iconst (v := 4) hx hb d_Mo_write_155 (by decide) ?_
    exact k_Mo_write_156 C0 hST hA hK hE hf hP hD hS (lv_sub hl [0, 1, 2] rfl)
  · have hf := it_f c_18 hf
    refine lv_bipush (v := 8) hx hb d_Mo_write_150 (by decide) ?_
    refine lv_goto (tgt := 156) hx hb d_Mo_write_152 (by decide) ?_
    exact k_Mo_write_156 C0 hST hA hK hE hf hP hD hS (lv_sub hl [0, 1, 2] rfl)
set_option maxHeartbeats 400000 in
set_option maxRecDepth 100000 in
theorem k_Mo_write_64 (C0 : Cx p s m meth c args R b_Mo_write "ZoneFilesModel" 4 (some .int) 6 141) (hST : ST A s s.heap) (hA : ∀ q, s.heap.size ≤ q → A q) (hK : va_K (dC, dI) classes (moT cA) s) (hE : ∀ (pc : Nat) (ls : Array Slot) (H : Heap) (locs : List Loc), decode b_Mo_write pc = .ok (.ireturn, 1) → narrow .int (.int r0) = .int r0 → va_P (dC, dI) classes (moW h0 r cA vi vj va vb) H → va_D A (moW h0 r cA vi vj va vb) → va_S A s.heap H locs → W p l e R s m args below meth c H locs 0 0 Q (F0 m pc ls [.int r0])) {x1 : Int32} {x2 : Int32} {s0 : Int32} {si : Nat → Int32} {sj : Nat → Int64} {sa : Nat → Nat → Int32} {sb : Nat → Nat → Int64} (hf : f_Mo_write_64 nf x1 x2 s0 si sj sa sb = some (r0, vi, vj, va, vb)) {H : Heap} {locs : List Loc} {ls : Array Slot} (hP : va_P (dC, dI) classes (moW h0 r cA si sj sa sb) H) (hD : va_D A (moW h0 r cA si sj sa sb)) (hS : va_S A s.heap H locs) (hl : lv_has ls 4 [(0, .ref h0), (1, .int x1), (2, .int x2)]) : W p l e R s m args below meth c H locs 0 0 Q (F0 m 64 ls [.int s0, .ref h0]) := by
  obtain ⟨hx, hb, hr, hml, hown, hts, hlocks, hRf, hRl⟩ := id C0
  unfold f_Mo_write_64 at hf
  refine mp_3 hx hb hts hown hK hP hD hS d_Mo_write_64 (fun H locs hP hD hS => ?_)
  refine lv_aload_n hx hb d_Mo_write_67 rfl (lv_at hl 0 rfl) ?_
  refine mg_3 (v := s0) hx hb hts hown hK hP rfl d_Mo_write_68 ?_
  refine lv_if_le (tgt := 76) hx hb d_Mo_write_71 (by decide) (fun c_6 => ?_) (fun c_6 => ?_)
  · have hf := it_t c_6 hf
    refine lv_aload_n hx hb d_Mo_write_76 rfl (lv_at hl 0 rfl) ?_
    refine lv_iconst (v := 0) hx hb d_Mo_write_77 (by decide) ?_
    refine mp_59 hx hb hts hown hK hP hD hS d_Mo_write_78 (fun H locs hP hD hS => ?_)
    refine lv_iload_n hx hb d_Mo_write_81 rfl (lv_at hl 2 rfl) ?_
    refine lv_if_le (tgt := 103) hx hb d_Mo_write_82 (by decide) (fun c_7 => ?_) (fun c_7 => ?_)
    · have hf := it_t c_7 hf
      exact k_Mo_write_103 C0 hST hA hK hE hf hP hD hS (lv_sub hl [0, 1, 2] rfl)
    · have hf := it_f c_7 hf
      refine lv_aload_n hx hb d_Mo_write_85 rfl (lv_at hl 0 rfl) ?_
      refine lv_iload_n hx hb d_Mo_write_86 rfl (lv_at hl 2 rfl) ?_
      refine lv_iconst (v := 0) hx hb d_Mo_write_87 (by decide) ?_
      refine lv_iconst (v := 0) hx hb d_Mo_write_88 (by decide) ?_
      refine lv_iconst (v := 0) hx hb d_Mo_write_89 (by decide) ?_
      refine lv_iconst (v := 0) hx hb d_Mo_write_90 (by decide) ?_
      refine lv_iconst (v := 1) hx hb d_Mo_write_91 (by decide) ?_
      refine lv_iconst (v := 1) hx hb d_Mo_write_92 (by decide) ?_
      obtain ⟨⟨i_42, j_43, a_44, b_45⟩, hc, hf⟩ := ob hf
      have hFc := mo_free hD hS hA
      refine cl_M (v := none) (st1 := []) (va_runV (As := [.int x2, .int 0, .int 0, .int 0, .int 0, .int 1, .int 1]) (rest := []) ⟨hx, hb, hml, hown, hts⟩ (c_Mo_putHeader l dC dI h0 r cA H.size nf x2 0 0 0 0 1 1 (va_up (va_up si 3 s0) 59 0) sj sa sb hc) (cwV 7 hts (gdV m_8_120 m_8_122 msel_94 m_1_10 m_8_123) rfl rfl rfl (by decide +kernel) ⟨Nat.le_trans (Nat.le_of_ble_eq_true rfl) hRf, Nat.le_trans (Nat.le_of_ble_eq_true rfl) hRl⟩) ((MU.pre hP hK hD (hST.mu hS hFc)).vir (va_recv hK hP (ci := 10) (q0 := 0) rfl rfl)) rfl rfl hl.1 rfl (lv_room (Nat.le_of_ble_eq_true rfl)) d_Mo_write_93 ⟨Nat.zero_le _, Nat.zero_le _⟩) rfl hS (fun q _ h => hFc q h) hFc (fun t H1 locs ht hvm hB hz1 hk1 hS => ?_)
      obtain ⟨hP, hD⟩ := mo_back ht hD hB
      generalize H1 = H at hP hS ⊢
      refine lv_aload_n hx hb d_Mo_write_96 rfl (lv_at hl 0 rfl) ?_
      refine lv_lconst (v := 0) hx hb d_Mo_write_97 (by decide) ?_
      refine lv_bipush (v := 7) hx hb d_Mo_write_98 (by decide) ?_
      obtain ⟨⟨i_46, j_47, a_48, b_49⟩, hc, hf⟩ := ob hf
      have hFc := mo_free hD hS hA
      refine cl_M (v := none) (st1 := []) (va_runV (As := [.long 0, .int 7]) (rest := []) ⟨hx, hb, hml, hown, hts⟩ (c_Mo_putNumber l dC dI h0 r cA H.size nf 0 7 i_42 j_43 a_44 b_45 hc) (cwV 2 hts (gdV m_8_124 m_8_126 msel_95 m_1_10 m_8_127) rfl rfl rfl (by decide +kernel) ⟨Nat.le_trans (Nat.le_of_ble_eq_true rfl) hRf, Nat.le_trans (Nat.le_of_ble_eq_true rfl) hRl⟩) ((MU.pre hP hK hD (hST.mu hS hFc)).vir (va_recv hK hP (ci := 10) (q0 := 0) rfl rfl)) rfl rfl hl.1 rfl (lv_room (Nat.le_of_ble_eq_true rfl)) d_Mo_write_100 ⟨Nat.zero_le _, Nat.zero_le _⟩) rfl hS (fun q _ h => hFc q h) hFc (fun t H1 locs ht hvm hB hz1 hk1 hS => ?_)
      obtain ⟨hP, hD⟩ := mo_back ht hD hB
      generalize H1 = H at hP hS ⊢
      exact k_Mo_write_103 C0 hST hA hK hE hf hP hD hS (lv_sub hl [0, 1, 2] rfl)
  · have hf := it_f c_6 hf
    refine lv_iconst (v := 0) hx hb d_Mo_write_74 (by decide) ?_
    cases rs hf
    exact hE _ _ _ _ d_Mo_write_75 rfl hP hD hS
set_option maxHeartbeats 400000 in
set_option maxRecDepth 100000 in
theorem k_Mo_write_63 (C0 : Cx p s m meth c args R b_Mo_write "ZoneFilesModel" 4 (some .int) 6 141) (hST : ST A s s.heap) (hA : ∀ q, s.heap.size ≤ q → A q) (hK : va_K (dC, dI) classes (moT cA) s) (hE : ∀ (pc : Nat) (ls : Array Slot) (H : Heap) (locs : List Loc), decode b_Mo_write pc = .ok (.ireturn, 1) → narrow .int (.int r0) = .int r0 → va_P (dC, dI) classes (moW h0 r cA vi vj va vb) H → va_D A (moW h0 r cA vi vj va vb) → va_S A s.heap H locs → W p l e R s m args below meth c H locs 0 0 Q (F0 m pc ls [.int r0])) {x1 : Int32} {x2 : Int32} {si : Nat → Int32} {sj : Nat → Int64} {sa : Nat → Nat → Int32} {sb : Nat → Nat → Int64} (hf : f_Mo_write_63 nf x1 x2 si sj sa sb = some (r0, vi, vj, va, vb)) {H : Heap} {locs : List Loc} {ls : Array Slot} (hP : va_P (dC, dI) classes (moW h0 r cA si sj sa sb) H) (hD : va_D A (moW h0 r cA si sj sa sb)) (hS : va_S A s.heap H locs) (hl : lv_has ls 4 [(0, .ref h0), (1, .int x1), (2, .int x2)]) : W p l e R s m args below meth c H locs 0 0 Q (F0 m 63 ls [.ref h0]) := by
  obtain ⟨hx, hb, hr, hml, hown, hts, hlocks, hRf, hRl⟩ := id C0
  unfold f_Mo_write_63 at hf
  refine lv_iconst (v := 0) hx hb d_Mo_write_63 (by decide) ?_
  exact k_Mo_write_64 C0 hST hA hK hE hf hP hD hS (lv_sub hl [0, 1, 2] rfl)
set_option maxHeartbeats 400000 in
set_option maxRecDepth 100000 in
theorem k_Mo_write_59 (C0 : Cx p s m meth c args R b_Mo_write "ZoneFilesModel" 4 (some .int) 6 141) (hST : ST A s s.heap) (hA : ∀ q, s.heap.size ≤ q → A q) (hK : va_K (dC, dI) classes (moT cA) s) (hE : ∀ (pc : Nat) (ls : Array Slot) (H : Heap) (locs : List Loc), decode b_Mo_write pc = .ok (.ireturn, 1) → narrow .int (.int r0) = .int r0 → va_P (dC, dI) classes (moW h0 r cA vi vj va vb) H → va_D A (moW h0 r cA vi vj va vb) → va_S A s.heap H locs → W p l e R s m args below meth c H locs 0 0 Q (F0 m pc ls [.int r0])) {x1 : Int32} {x2 : Int32} {si : Nat → Int32} {sj : Nat → Int64} {sa : Nat → Nat → Int32} {sb : Nat → Nat → Int64} (hf : f_Mo_write_59 nf x1 x2 si sj sa sb = some (r0, vi, vj, va, vb)) {H : Heap} {locs : List Loc} {ls : Array Slot} (hP : va_P (dC, dI) classes (moW h0 r cA si sj sa sb) H) (hD : va_D A (moW h0 r cA si sj sa sb)) (hS : va_S A s.heap H locs) (hl : lv_has ls 4 [(0, .ref h0), (1, .int x1), (2, .int x2)]) : W p l e R s m args below meth c H locs 0 0 Q (F0 m 59 ls [.ref h0]) := by
  obtain ⟨hx, hb, hr, hml, hown, hts, hlocks, hRf, hRl⟩ := id C0
  unfold f_Mo_write_59 at hf
  refine lv_iconst (v := 3) hx hb d_Mo_write_59 (by decide) ?_
  refine lv_goto (tgt := 64) hx hb d_Mo_write_60 (by decide) ?_
  exact k_Mo_write_64 C0 hST hA hK hE hf hP hD hS (lv_sub hl [0, 1, 2] rfl)
set_option maxHeartbeats 400000 in
set_option maxRecDepth 100000 in
theorem k_Mo_write_45 (C0 : Cx p s m meth c args R b_Mo_write "ZoneFilesModel" 4 (some .int) 6 141) (hST : ST A s s.heap) (hA : ∀ q, s.heap.size ≤ q → A q) (hK : va_K (dC, dI) classes (moT cA) s) (hE : ∀ (pc : Nat) (ls : Array Slot) (H : Heap) (locs : List Loc), decode b_Mo_write pc = .ok (.ireturn, 1) → narrow .int (.int r0) = .int r0 → va_P (dC, dI) classes (moW h0 r cA vi vj va vb) H → va_D A (moW h0 r cA vi vj va vb) → va_S A s.heap H locs → W p l e R s m args below meth c H locs 0 0 Q (F0 m pc ls [.int r0])) {x1 : Int32} {x2 : Int32} {si : Nat → Int32} {sj : Nat → Int64} {sa : Nat → Nat → Int32} {sb : Nat → Nat → Int64} (hf : f_Mo_write_45 nf x1 x2 si sj sa sb = some (r0, vi, vj, va, vb)) {H : Heap} {locs : List Loc} {ls : Array Slot} (hP : va_P (dC, dI) classes (moW h0 r cA si sj sa sb) H) (hD : va_D A (moW h0 r cA si sj sa sb)) (hS : va_S A s.heap H locs) (hl : lv_has ls 4 [(0, .ref h0), (1, .int x1), (2, .int x2)]) : W p l e R s m args below meth c H locs 0 0 Q (F0 m 45 ls [.ref h0]) := by
  obtain ⟨hx, hb, hr, hml, hown, hts, hlocks, hRf, hRl⟩ := id C0
  unfold f_Mo_write_45 at hf
  refine lv_iload_n hx hb d_Mo_write_45 rfl (lv_at hl 2 rfl) ?_
  refine lv_bipush (v := 50) hx hb d_Mo_write_46 (by decide) ?_
  refine lv_icmp_ne (tgt := 63) hx hb d_Mo_write_48 (by decide) (fun c_5 => ?_) (fun c_5 => ?_)
  · have hf := it_f c_5 hf
    exact k_Mo_write_63 C0 hST hA hK hE hf hP hD hS (lv_sub hl [0, 1, 2] rfl)
  · have hf := it_t c_5 hf
    refine lv_aload_n hx hb d_Mo_write_51 rfl (lv_at hl 0 rfl) ?_
    refine lv_iload_n hx hb d_Mo_write_52 rfl (lv_at hl 1 rfl) ?_
    obtain ⟨⟨z_54, i_50, j_51, a_52, b_53⟩, hc, hf⟩ := ob hf
    have hFc := mo_free hD hS hA
    refine cl_M (v := (some (.int z_54))) (st1 := [.int z_54, .ref h0]) (va_runV (As := [.int x1]) (rest := [.ref h0]) ⟨hx, hb, hml, hown, hts⟩ (c_Mo_isNarrow l dC dI h0 r cA H.size nf x1 si sj sa sb hc) (cwV 1 hts (gdV m_8_116 m_8_118 msel_93 m_1_10 m_8_119) rfl rfl rfl (by decide +kernel) ⟨Nat.le_trans (Nat.le_of_ble_eq_true rfl) hRf, Nat.le_trans (Nat.le_of_ble_eq_true rfl) hRl⟩) ((MU.pre hP hK hD (hST.mu hS hFc)).vir (va_recv hK hP (ci := 10) (q0 := 0) rfl rfl)) rfl rfl hl.1 rfl (lv_room (Nat.le_of_ble_eq_true rfl)) d_Mo_write_53 ⟨Nat.zero_le _, Nat.zero_le _⟩) rfl hS (fun q _ h => hFc q h) hFc (fun t H1 locs ht hvm hB hz1 hk1 hS => ?_)
    obtain ⟨hP, hD⟩ := mo_back ht hD hB
    generalize H1 = H at hP hS ⊢
    refine lv_if_ne (tgt := 63) hx hb d_Mo_write_56 (by decide) (fun c_55 => ?_) (fun c_55 => ?_)
    · have hf := it_f c_55 hf
      exact k_Mo_write_63 C0 hST hA hK hE hf hP hD hS (lv_sub hl [0, 1, 2] rfl)
    · have hf := it_t c_55 hf
      exact k_Mo_write_59 C0 hST hA hK hE hf hP hD hS (lv_sub hl [0, 1, 2] rfl)
set_option maxHeartbeats 400000 in
set_option maxRecDepth 100000 in
theorem k_Mo_write_33 (C0 : Cx p s m meth c args R b_Mo_write "ZoneFilesModel" 4 (some .int) 6 141) (hST : ST A s s.heap) (hA : ∀ q, s.heap.size ≤ q → A q) (hK : va_K (dC, dI) classes (moT cA) s) (hE : ∀ (pc : Nat) (ls : Array Slot) (H : Heap) (locs : List Loc), decode b_Mo_write pc = .ok (.ireturn, 1) → narrow .int (.int r0) = .int r0 → va_P (dC, dI) classes (moW h0 r cA vi vj va vb) H → va_D A (moW h0 r cA vi vj va vb) → va_S A s.heap H locs → W p l e R s m args below meth c H locs 0 0 Q (F0 m pc ls [.int r0])) {x1 : Int32} {x2 : Int32} {si : Nat → Int32} {sj : Nat → Int64} {sa : Nat → Nat → Int32} {sb : Nat → Nat → Int64} (hf : f_Mo_write_33 nf x1 x2 si sj sa sb = some (r0, vi, vj, va, vb)) {H : Heap} {locs : List Loc} {ls : Array Slot} (hP : va_P (dC, dI) classes (moW h0 r cA si sj sa sb) H) (hD : va_D A (moW h0 r cA si sj sa sb)) (hS : va_S A s.heap H locs) (hl : lv_has ls 4 [(0, .ref h0), (1, .int x1), (2, .int x2)]) : W p l e R s m args below meth c H locs 0 0 Q (F0 m 33 ls [.ref h0]) := by
  obtain ⟨hx, hb, hr, hml, hown, hts, hlocks, hRf, hRl⟩ := id C0
  unfold f_Mo_write_33 at hf
  refine lv_iload_n hx hb d_Mo_write_33 rfl (lv_at hl 2 rfl) ?_
  refine lv_if_ne (tgt := 45) hx hb d_Mo_write_34 (by decide) (fun c_4 => ?_) (fun c_4 => ?_)
  · have hf := it_f c_4 hf
    exact k_Mo_write_45 C0 hST hA hK hE hf hP hD hS (lv_sub hl [0, 1, 2] rfl)
  · have hf := it_t c_4 hf
    refine lv_aload_n hx hb d_Mo_write_37 rfl (lv_at hl 0 rfl) ?_
    refine lv_iload_n hx hb d_Mo_write_38 rfl (lv_at hl 1 rfl) ?_
    obtain ⟨r_56, hc, hf⟩ := ob hf
    refine cl_S (v := (some (.int r_56))) (st1 := [.int r_56, .ref h0]) (va_runV (As := [.int x1]) (rest := [.ref h0]) ⟨hx, hb, hml, hown, hts⟩ (c_Mo_fitsShort l dC dI h0 r cA nf x1 si sj sa sb hc) (cwV 1 hts (gdV m_8_112 m_8_114 msel_92 m_1_10 m_8_115) rfl rfl rfl (by decide +kernel) ⟨Nat.le_trans (Nat.le_of_ble_eq_true rfl) hRf, Nat.le_trans (Nat.le_of_ble_eq_true rfl) hRl⟩) ((RO.pre hP hK (hST.ro hS)).vir (va_recv hK hP (ci := 10) (q0 := 0) rfl rfl)) rfl rfl hl.1 rfl (lv_room (Nat.le_of_ble_eq_true rfl)) d_Mo_write_39 ⟨Nat.zero_le _, Nat.zero_le _⟩) rfl ?_
    refine lv_if_eq (tgt := 59) hx hb d_Mo_write_42 (by decide) (fun c_57 => ?_) (fun c_57 => ?_)
    · have hf := it_t c_57 hf
      exact k_Mo_write_59 C0 hST hA hK hE hf hP hD hS (lv_sub hl [0, 1, 2] rfl)
    · have hf := it_f c_57 hf
      exact k_Mo_write_45 C0 hST hA hK hE hf hP hD hS (lv_sub hl [0, 1, 2] rfl)
set_option maxHeartbeats 400000 in
set_option maxRecDepth 100000 in
theorem k_Mo_write_0 (C0 : Cx p s m meth c args R b_Mo_write "ZoneFilesModel" 4 (some .int) 6 141) (hST : ST A s s.heap) (hA : ∀ q, s.heap.size ≤ q → A q) (hK : va_K (dC, dI) classes (moT cA) s) (hE : ∀ (pc : Nat) (ls : Array Slot) (H : Heap) (locs : List Loc), decode b_Mo_write pc = .ok (.ireturn, 1) → narrow .int (.int r0) = .int r0 → va_P (dC, dI) classes (moW h0 r cA vi vj va vb) H → va_D A (moW h0 r cA vi vj va vb) → va_S A s.heap H locs → W p l e R s m args below meth c H locs 0 0 Q (F0 m pc ls [.int r0])) {x1 : Int32} {x2 : Int32} {si : Nat → Int32} {sj : Nat → Int64} {sa : Nat → Nat → Int32} {sb : Nat → Nat → Int64} (hf : f_Mo_write_0 nf x1 x2 si sj sa sb = some (r0, vi, vj, va, vb)) {H : Heap} {locs : List Loc} {ls : Array Slot} (hP : va_P (dC, dI) classes (moW h0 r cA si sj sa sb) H) (hD : va_D A (moW h0 r cA si sj sa sb)) (hS : va_S A s.heap H locs) (hl : lv_has ls 4 [(0, .ref h0), (1, .int x1), (2, .int x2)]) : W p l e R s m args below meth c H locs 0 0 Q (F0 m 0 ls []) := by
  obtain ⟨hx, hb, hr, hml, hown, hts, hlocks, hRf, hRl⟩ := id C0
  unfold f_Mo_write_0 at hf
  refine lv_aload_n hx hb d_Mo_write_0 rfl (lv_at hl 0 rfl) ?_
  refine lv_aload_n hx hb d_Mo_write_1 rfl (lv_at hl 0 rfl) ?_
  refine lv_iload_n hx hb d_Mo_write_2 rfl (lv_at hl 1 rfl) ?_
  obtain ⟨r_1, hc, hf⟩ := ob hf
  refine cl_S (v := (some (.int r_1))) (st1 := [.int r_1, .ref h0]) (va_runV (As := [.int x1]) (rest := [.ref h0]) ⟨hx, hb, hml, hown, hts⟩ (c_Mo_noZone l dC dI h0 r cA nf x1 si sj sa sb hc) (cwV 1 hts (gdV m_8_45 m_8_47 msel_83 m_1_10 m_8_48) rfl rfl rfl (by decide +kernel) ⟨Nat.le_trans (Nat.le_of_ble_eq_true rfl) hRf, Nat.le_trans (Nat.le_of_ble_eq_true rfl) hRl⟩) ((RO.pre hP hK (hST.ro hS)).vir (va_recv hK hP (ci := 10) (q0 := 0) rfl rfl)) rfl rfl hl.1 rfl (lv_room (Nat.le_of_ble_eq_true rfl)) d_Mo_write_3 ⟨Nat.zero_le _, Nat.zero_le _⟩) rfl ?_
  refine lv_if_eq (tgt := 13) hx hb d_Mo_write_6 (by decide) (fun c_2 => ?_) (fun c_2 => ?_)
  · have hf := it_t c_2 hf
    refine lv_iload_n hx hb d_Mo_write_13 rfl (lv_at hl 2 rfl) ?_
    refine lv_if_eq (tgt := 33) hx hb d_Mo_write_14 (by decide) (fun c_3 => ?_) (fun c_3 => ?_)
    · have hf := it_t c_3 hf
      exact k_Mo_write_33 C0 hST hA hK hE hf hP hD hS (lv_sub hl [0, 1, 2] rfl)
    · have hf := it_f c_3 hf
      refine lv_iload_n hx hb d_Mo_write_17 rfl (lv_at hl 2 rfl) ?_
      refine lv_bipush (v := 50) hx hb d_Mo_write_18 (by decide) ?_
      refine lv_icmp_eq (tgt := 33) hx hb d_Mo_write_20 (by decide) (fun c_58 => ?_) (fun c_58 => ?_)
      · have hf := it_t c_58 hf
        exact k_Mo_write_33 C0 hST hA hK hE hf hP hD hS (lv_sub hl [0, 1, 2] rfl)
      · have hf := it_f c_58 hf
        refine lv_iload_n hx hb d_Mo_write_23 rfl (lv_at hl 2 rfl) ?_
        refine lv_bipush (v := 51) hx hb d_Mo_write_24 (by decide) ?_
        refine lv_icmp_eq (tgt := 33) hx hb d_Mo_write_26 (by decide) (fun c_59 => ?_) (fun c_59 => ?_)
        · have hf := it_t c_59 hf
          exact k_Mo_write_33 C0 hST hA hK hE hf hP hD hS (lv_sub hl [0, 1, 2] rfl)
        · have hf := it_f c_59 hf
          refine lv_iconst (v := 2) hx hb d_Mo_write_29 (by decide) ?_
          refine lv_goto (tgt := 64) hx hb d_Mo_write_30 (by decide) ?_
          exact k_Mo_write_64 C0 hST hA hK hE hf hP hD hS (lv_sub hl [0, 1, 2] rfl)
  · have hf := it_f c_2 hf
    refine lv_iconst (v := 1) hx hb d_Mo_write_9 (by decide) ?_
    refine lv_goto (tgt := 64) hx hb d_Mo_write_10 (by decide) ?_
    exact k_Mo_write_64 C0 hST hA hK hE hf hP hD hS (lv_sub hl [0, 1, 2] rfl)
end
set_option maxHeartbeats 400000 in
set_option maxRecDepth 100000 in
theorem c_Mo_write (l : Launch) (dC : Nat → ClassId) (dI : Nat → Nat → Nat) (h0 : Nat) (r : Nat → Nat) (cA : Nat → ClassId) (sz : Nat) (nf : Nat) (p0 : Int32) (p1 : Int32) (si : Nat → Int32) (sj : Nat → Int64) (sa : Nat → Nat → Int32) (sb : Nat → Nat → Int64) {r0 : Int32} {vi : Nat → Int32} {vj : Nat → Int64} {va : Nat → Nat → Int32} {vb : Nat → Nat → Int64} (hf : f_Mo_write nf p0 p1 si sj sa sb = some (r0, vi, vj, va, vb)) : Met l y_Mo_write (wd y_Mo_write b_Mo_write 4 (some .int)) ({ frames := 6, cells := 0, slots := 0, locals := 141 }) (MU dC dI (moW h0 r cA si sj sa sb) (moT cA) sz [.ref h0, .int p0, .int p1]) (MV (some (.int r0)) (fun t => va_P (dC, dI) classes (moW h0 r cA vi vj va vb) t.heap) (va_A (moW h0 r cA si sj sa sb) sz)) 0 0 (va_A (moW h0 r cA si sj sa sb) sz) :=
  met_M (plainFor_of_name (by decide)) (Nat.le_of_ble_eq_true rfl) (fun p e R s m args below meth c ls hRc hRs hsz hin C0 hST hK hP hD hl => by
    obtain ⟨hx, hb, hr, hml, hown, hts, hlocks, hRf, hRl⟩ := id C0
    subst hsz
    have hA : ∀ q : Nat, s.heap.size ≤ q → va_A (moW h0 r cA si sj sa sb) s.heap.size q := fun q h => Or.inr h
    have hS : va_S (va_A (moW h0 r cA si sj sa sb) s.heap.size) s.heap s.heap [] := va_S.rf
    unfold f_Mo_write at hf
    exact k_Mo_write_0 C0 hST hA hK (fun pc ls H locs hd hn hP hD hS => W.zret hx hb hr hn (fun t ht hW => ⟨⟨rfl, mo_end ht hP⟩, hS.F ht⟩) hS.2.2 hd) hf hP hD hS (lv_sub hl [0, 1, 2] rfl))
-- ZoneFilesModel.out(I)I
def f_Mo_out_38 (nf : Nat) (s0 : Int32) (si : Nat → Int32) (sj : Nat → Int64) (sa : Nat → Nat → Int32) (sb : Nat → Nat → Int64) : Option (Int32 × (Nat → Int32) × (Nat → Int64) × (Nat → Nat → Int32) × (Nat → Nat → Int64)) :=
  some (s0, si, sj, sa, sb)
def f_Mo_out_18 (nf : Nat) (x1 : Int32) (s0 : Int32) (si : Nat → Int32) (sj : Nat → Int64) (sa : Nat → Nat → Int32) (sb : Nat → Nat → Int64) : Option (Int32 × (Nat → Int32) × (Nat → Int64) × (Nat → Nat → Int32) × (Nat → Nat → Int64)) :=
  if s0 ≤ 0 then
  if x1 < 0 ∨ 6000 ≤ x1.toNatClampNeg then none else
    f_Mo_out_38 nf (sa 56 x1.toNatClampNeg) (va_up si 3 s0) sj sa sb
  else
  f_Mo_out_38 nf 0 (va_up si 3 s0) sj sa sb
def f_Mo_out_13 (nf : Nat) (x1 : Int32) (si : Nat → Int32) (sj : Nat → Int64) (sa : Nat → Nat → Int32) (sb : Nat → Nat → Int64) : Option (Int32 × (Nat → Int32) × (Nat → Int64) × (Nat → Nat → Int32) × (Nat → Nat → Int64)) :=
  f_Mo_out_18 nf x1 1 si sj sa sb
def f_Mo_out_0 (nf : Nat) (x1 : Int32) (si : Nat → Int32) (sj : Nat → Int64) (sa : Nat → Nat → Int32) (sb : Nat → Nat → Int64) : Option (Int32 × (Nat → Int32) × (Nat → Int64) × (Nat → Nat → Int32) × (Nat → Nat → Int64)) :=
  if x1 < 0 then
  f_Mo_out_13 nf x1 si sj sa sb
  else
  if x1 < (si 57) then
    f_Mo_out_18 nf x1 0 si sj sa sb
    else
    f_Mo_out_13 nf x1 si sj sa sb
def f_Mo_out (nf : Nat) (p0 : Int32) (si : Nat → Int32) (sj : Nat → Int64) (sa : Nat → Nat → Int32) (sb : Nat → Nat → Int64) : Option (Int32 × (Nat → Int32) × (Nat → Int64) × (Nat → Nat → Int32) × (Nat → Nat → Int64)) :=
  f_Mo_out_0 nf p0 si sj sa sb
section
variable {p : Program} {l : Launch} {e : Env} {R : Room} {s : State} {m : MethodId} {args : Array Value} {below : List Frame} {meth : Method} {c : Code} {Q : State → Prop} {dC : Nat → ClassId} {dI : Nat → Nat → Nat} {nf : Nat} {A : Nat → Prop} {h0 : Nat} {r : Nat → Nat} {cA : Nat → ClassId}
variable {r0 : Int32} {vi : Nat → Int32} {vj : Nat → Int64} {va : Nat → Nat → Int32} {vb : Nat → Nat → Int64}
set_option maxHeartbeats 400000 in
set_option maxRecDepth 100000 in
theorem k_Mo_out_38 (C0 : Cx p s m meth c args R b_Mo_out "ZoneFilesModel" 2 (some .int) 0 0) (hST : ST A s s.heap) (hA : ∀ q, s.heap.size ≤ q → A q) (hK : va_K (dC, dI) classes (moT cA) s) (hE : ∀ (pc : Nat) (ls : Array Slot) (H : Heap) (locs : List Loc), decode b_Mo_out pc = .ok (.ireturn, 1) → narrow .int (.int r0) = .int r0 → va_P (dC, dI) classes (moW h0 r cA vi vj va vb) H → va_D A (moW h0 r cA vi vj va vb) → va_S A s.heap H locs → W p l e R s m args below meth c H locs 0 0 Q (F0 m pc ls [.int r0])) {s0 : Int32} {si : Nat → Int32} {sj : Nat → Int64} {sa : Nat → Nat → Int32} {sb : Nat → Nat → Int64} (hf : f_Mo_out_38 nf s0 si sj sa sb = some (r0, vi, vj, va, vb)) {H : Heap} {locs : List Loc} {ls : Array Slot} (hP : va_P (dC, dI) classes (moW h0 r cA si sj sa sb) H) (hD : va_D A (moW h0 r cA si sj sa sb)) (hS : va_S A s.heap H locs) (hl : lv_has ls 2 []) : W p l e R s m args below meth c H locs 0 0 Q (F0 m 38 ls [.int s0]) := by
  obtain ⟨hx, hb, hr, hml, hown, hts, hlocks, hRf, hRl⟩ := id C0
  unfold f_Mo_out_38 at hf
  cases rs hf
  exact hE _ _ _ _ d_Mo_out_38 rfl hP hD hS
set_option maxHeartbeats 400000 in
set_option maxRecDepth 100000 in
theorem k_Mo_out_18 (C0 : Cx p s m meth c args R b_Mo_out "ZoneFilesModel" 2 (some .int) 0 0) (hST : ST A s s.heap) (hA : ∀ q, s.heap.size ≤ q → A q) (hK : va_K (dC, dI) classes (moT cA) s) (hE : ∀ (pc : Nat) (ls : Array Slot) (H : Heap) (locs : List Loc), decode b_Mo_out pc = .ok (.ireturn, 1) → narrow .int (.int r0) = .int r0 → va_P (dC, dI) classes (moW h0 r cA vi vj va vb) H → va_D A (moW h0 r cA vi vj va vb) → va_S A s.heap H locs → W p l e R s m args below meth c H locs 0 0 Q (F0 m pc ls [.int r0])) {x1 : Int32} {s0 : Int32} {si : Nat → Int32} {sj : Nat → Int64} {sa : Nat → Nat → Int32} {sb : Nat → Nat → Int64} (hf : f_Mo_out_18 nf x1 s0 si sj sa sb = some (r0, vi, vj, va, vb)) {H : Heap} {locs : List Loc} {ls : Array Slot} (hP : va_P (dC, dI) classes (moW h0 r cA si sj sa sb) H) (hD : va_D A (moW h0 r cA si sj sa sb)) (hS : va_S A s.heap H locs) (hl : lv_has ls 2 [(0, .ref h0), (1, .int x1)]) : W p l e R s m args below meth c H locs 0 0 Q (F0 m 18 ls [.int s0, .ref h0]) := by
  obtain ⟨hx, hb, hr, hml, hown, hts, hlocks, hRf, hRl⟩ := id C0
  unfold f_Mo_out_18 at hf
  refine mp_3 hx hb hts hown hK hP hD hS d_Mo_out_18 (fun H locs hP hD hS => ?_)
  refine lv_aload_n hx hb d_Mo_out_21 rfl (lv_at hl 0 rfl) ?_
  refine mg_3 (v := s0) hx hb hts hown hK hP rfl d_Mo_out_22 ?_
  refine lv_if_le (tgt := 32) hx hb d_Mo_out_25 (by decide) (fun c_2 => ?_) (fun c_2 => ?_)
  · have hf := it_t c_2 hf
    refine lv_aload_n hx hb d_Mo_out_32 rfl (lv_at hl 0 rfl) ?_
    refine mg_56 hx hb hts hown hK hP d_Mo_out_33 ?_
    refine lv_iload_n hx hb d_Mo_out_36 rfl (lv_at hl 1 rfl) ?_
    obtain ⟨c_3, hf⟩ := it_n hf
    refine ma_56 (v := sa 56 x1.toNatClampNeg) hx hb hK hP c_3 rfl d_Mo_out_37 ?_
    exact k_Mo_out_38 C0 hST hA hK hE hf hP hD hS (lv_sub hl [] rfl)
  · have hf := it_f c_2 hf
    refine lv_iconst (v := 0) hx hb d_Mo_out_28 (by decide) ?_
    refine lv_goto (tgt := 38) hx hb d_Mo_out_29 (by decide) ?_
    exact k_Mo_out_38 C0 hST hA hK hE hf hP hD hS (lv_sub hl [] rfl)
set_option maxHeartbeats 400000 in
set_option maxRecDepth 100000 in
theorem k_Mo_out_13 (C0 : Cx p s m meth c args R b_Mo_out "ZoneFilesModel" 2 (some .int) 0 0) (hST : ST A s s.heap) (hA : ∀ q, s.heap.size ≤ q → A q) (hK : va_K (dC, dI) classes (moT cA) s) (hE : ∀ (pc : Nat) (ls : Array Slot) (H : Heap) (locs : List Loc), decode b_Mo_out pc = .ok (.ireturn, 1) → narrow .int (.int r0) = .int r0 → va_P (dC, dI) classes (moW h0 r cA vi vj va vb) H → va_D A (moW h0 r cA vi vj va vb) → va_S A s.heap H locs → W p l e R s m args below meth c H locs 0 0 Q (F0 m pc ls [.int r0])) {x1 : Int32} {si : Nat → Int32} {sj : Nat → Int64} {sa : Nat → Nat → Int32} {sb : Nat → Nat → Int64} (hf : f_Mo_out_13 nf x1 si sj sa sb = some (r0, vi, vj, va, vb)) {H : Heap} {locs : List Loc} {ls : Array Slot} (hP : va_P (dC, dI) classes (moW h0 r cA si sj sa sb) H) (hD : va_D A (moW h0 r cA si sj sa sb)) (hS : va_S A s.heap H locs) (hl : lv_has ls 2 [(0, .ref h0), (1, .int x1)]) : W p l e R s m args below meth c H locs 0 0 Q (F0 m 13 ls [.ref h0]) := by
  obtain ⟨hx, hb, hr, hml, hown, hts, hlocks, hRf, hRl⟩ := id C0
  unfold f_Mo_out_13 at hf
  refine lv_iconst (v := 1) hx hb d_Mo_out_13 (by decide) ?_
  refine lv_goto (tgt := 18) hx hb d_Mo_out_14 (by decide) ?_
  exact k_Mo_out_18 C0 hST hA hK hE hf hP hD hS (lv_sub hl [0, 1] rfl)
set_option maxHeartbeats 400000 in
set_option maxRecDepth 100000 in
theorem k_Mo_out_0 (C0 : Cx p s m meth c args R b_Mo_out "ZoneFilesModel" 2 (some .int) 0 0) (hST : ST A s s.heap) (hA : ∀ q, s.heap.size ≤ q → A q) (hK : va_K (dC, dI) classes (moT cA) s) (hE : ∀ (pc : Nat) (ls : Array Slot) (H : Heap) (locs : List Loc), decode b_Mo_out pc = .ok (.ireturn, 1) → narrow .int (.int r0) = .int r0 → va_P (dC, dI) classes (moW h0 r cA vi vj va vb) H → va_D A (moW h0 r cA vi vj va vb) → va_S A s.heap H locs → W p l e R s m args below meth c H locs 0 0 Q (F0 m pc ls [.int r0])) {x1 : Int32} {si : Nat → Int32} {sj : Nat → Int64} {sa : Nat → Nat → Int32} {sb : Nat → Nat → Int64} (hf : f_Mo_out_0 nf x1 si sj sa sb = some (r0, vi, vj, va, vb)) {H : Heap} {locs : List Loc} {ls : Array Slot} (hP : va_P (dC, dI) classes (moW h0 r cA si sj sa sb) H) (hD : va_D A (moW h0 r cA si sj sa sb)) (hS : va_S A s.heap H locs) (hl : lv_has ls 2 [(0, .ref h0), (1, .int x1)]) : W p l e R s m args below meth c H locs 0 0 Q (F0 m 0 ls []) := by
  obtain ⟨hx, hb, hr, hml, hown, hts, hlocks, hRf, hRl⟩ := id C0
  unfold f_Mo_out_0 at hf
  refine lv_aload_n hx hb d_Mo_out_0 rfl (lv_at hl 0 rfl) ?_
  refine lv_iload_n hx hb d_Mo_out_1 rfl (lv_at hl 1 rfl) ?_
  refine lv_if_lt (tgt := 13) hx hb d_Mo_out_2 (by decide) (fun c_1 => ?_) (fun c_1 => ?_)
  · have hf := it_t c_1 hf
    exact k_Mo_out_13 C0 hST hA hK hE hf hP hD hS (lv_sub hl [0, 1] rfl)
  · have hf := it_f c_1 hf
    refine lv_iload_n hx hb d_Mo_out_5 rfl (lv_at hl 1 rfl) ?_
    refine lv_aload_n hx hb d_Mo_out_6 rfl (lv_at hl 0 rfl) ?_
    refine mg_57 (v := si 57) hx hb hts hown hK hP rfl d_Mo_out_7 ?_
    refine lv_icmp_lt (tgt := 17) hx hb d_Mo_out_10 (by decide) (fun c_4 => ?_) (fun c_4 => ?_)
    · have hf := it_t c_4 hf
      refine lv_iconst (v := 0) hx hb d_Mo_out_17 (by decide) ?_
      exact k_Mo_out_18 C0 hST hA hK hE hf hP hD hS (lv_sub hl [0, 1] rfl)
    · have hf := it_f c_4 hf
      exact k_Mo_out_13 C0 hST hA hK hE hf hP hD hS (lv_sub hl [0, 1] rfl)
end
set_option maxHeartbeats 400000 in
set_option maxRecDepth 100000 in
theorem c_Mo_out (l : Launch) (dC : Nat → ClassId) (dI : Nat → Nat → Nat) (h0 : Nat) (r : Nat → Nat) (cA : Nat → ClassId) (sz : Nat) (nf : Nat) (p0 : Int32) (si : Nat → Int32) (sj : Nat → Int64) (sa : Nat → Nat → Int32) (sb : Nat → Nat → Int64) {r0 : Int32} {vi : Nat → Int32} {vj : Nat → Int64} {va : Nat → Nat → Int32} {vb : Nat → Nat → Int64} (hf : f_Mo_out nf p0 si sj sa sb = some (r0, vi, vj, va, vb)) : Met l y_Mo_out (wd y_Mo_out b_Mo_out 2 (some .int)) ({ frames := 0, cells := 0, slots := 0, locals := 0 }) (MU dC dI (moW h0 r cA si sj sa sb) (moT cA) sz [.ref h0, .int p0]) (MV (some (.int r0)) (fun t => va_P (dC, dI) classes (moW h0 r cA vi vj va vb) t.heap) (va_A (moW h0 r cA si sj sa sb) sz)) 0 0 (va_A (moW h0 r cA si sj sa sb) sz) :=
  met_M (plainFor_of_name (by decide)) (Nat.le_of_ble_eq_true rfl) (fun p e R s m args below meth c ls hRc hRs hsz hin C0 hST hK hP hD hl => by
    obtain ⟨hx, hb, hr, hml, hown, hts, hlocks, hRf, hRl⟩ := id C0
    subst hsz
    have hA : ∀ q : Nat, s.heap.size ≤ q → va_A (moW h0 r cA si sj sa sb) s.heap.size q := fun q h => Or.inr h
    have hS : va_S (va_A (moW h0 r cA si sj sa sb) s.heap.size) s.heap s.heap [] := va_S.rf
    unfold f_Mo_out at hf
    exact k_Mo_out_0 C0 hST hA hK (fun pc ls H locs hd hn hP hD hS => W.zret hx hb hr hn (fun t ht hW => ⟨⟨rfl, mo_end ht hP⟩, hS.F ht⟩) hS.2.2 hd) hf hP hD hS (lv_sub hl [0, 1] rfl))
-- ZoneFilesModel.again()I
def f_Mo_again_7 (nf : Nat) : Nat → Int32 → (Nat → Int32) → (Nat → Int64) → (Nat → Nat → Int32) → (Nat → Nat → Int64) → Option (Int32 × (Nat → Int32) × (Nat → Int64) × (Nat → Nat → Int32) × (Nat → Nat → Int64))
  | 0, _, _, _, _, _ => none
  | n + 1, x1, si, sj, sa, sb =>
    if (si 57) ≤ x1 then
    some (si 57, va_up si 1 (si 57), sj, sa, sb)
    else
    if x1 < 0 ∨ 6000 ≤ x1.toNatClampNeg then none else
      if x1 < 0 ∨ 6000 ≤ x1.toNatClampNeg then none else
      f_Mo_again_7 nf n (x1 + 1) si sj (va_up sa 0 (upd (sa 0) x1.toNatClampNeg (sa 56 x1.toNatClampNeg))) sb
def f_Mo_again_0 (nf : Nat) (si : Nat → Int32) (sj : Nat → Int64) (sa : Nat → Nat → Int32) (sb : Nat → Nat → Int64) : Option (Int32 × (Nat → Int32) × (Nat → Int64) × (Nat → Nat → Int32) × (Nat → Nat → Int64)) :=
  f_Mo_again_7 nf nf 0 (va_up si 3 0) sj sa sb
def f_Mo_again (nf : Nat) (si : Nat → Int32) (sj : Nat → Int64) (sa : Nat → Nat → Int32) (sb : Nat → Nat → Int64) : Option (Int32 × (Nat → Int32) × (Nat → Int64) × (Nat → Nat → Int32) × (Nat → Nat → Int64)) :=
  f_Mo_again_0 nf si sj sa sb
section
variable {p : Program} {l : Launch} {e : Env} {R : Room} {s : State} {m : MethodId} {args : Array Value} {below : List Frame} {meth : Method} {c : Code} {Q : State → Prop} {dC : Nat → ClassId} {dI : Nat → Nat → Nat} {nf : Nat} {A : Nat → Prop} {h0 : Nat} {r : Nat → Nat} {cA : Nat → ClassId}
variable {r0 : Int32} {vi : Nat → Int32} {vj : Nat → Int64} {va : Nat → Nat → Int32} {vb : Nat → Nat → Int64}
set_option maxHeartbeats 400000 in
set_option maxRecDepth 100000 in
theorem k_Mo_again_7 (C0 : Cx p s m meth c args R b_Mo_again "ZoneFilesModel" 2 (some .int) 0 0) (hST : ST A s s.heap) (hA : ∀ q, s.heap.size ≤ q → A q) (hK : va_K (dC, dI) classes (moT cA) s) (hE : ∀ (pc : Nat) (ls : Array Slot) (H : Heap) (locs : List Loc), decode b_Mo_again pc = .ok (.ireturn, 1) → narrow .int (.int r0) = .int r0 → va_P (dC, dI) classes (moW h0 r cA vi vj va vb) H → va_D A (moW h0 r cA vi vj va vb) → va_S A s.heap H locs → W p l e R s m args below meth c H locs 0 0 Q (F0 m pc ls [.int r0])) : ∀ (n : Nat) {x1 : Int32} {si : Nat → Int32} {sj : Nat → Int64} {sa : Nat → Nat → Int32} {sb : Nat → Nat → Int64}, f_Mo_again_7 nf n x1 si sj sa sb = some (r0, vi, vj, va, vb) → ∀ {H : Heap} {locs : List Loc} {ls : Array Slot}, va_P (dC, dI) classes (moW h0 r cA si sj sa sb) H → va_D A (moW h0 r cA si sj sa sb) → va_S A s.heap H locs → lv_has ls 2 [(1, .int x1), (0, .ref h0)] → W p l e R s m args below meth c H locs 0 0 Q (F0 m 7 ls []) := by
  obtain ⟨hx, hb, hr, hml, hown, hts, hlocks, hRf, hRl⟩ := id C0
  intro n
  induction n with
  | zero =>
    intro x1 si sj sa sb hf
    exact absurd hf (by simp [f_Mo_again_7])
  | succ n ih =>
    intro x1 si sj sa sb hf H locs ls hP hD hS hl
    unfold f_Mo_again_7 at hf
    refine lv_iload_n hx hb d_Mo_again_7 rfl (lv_at hl 0 rfl) ?_
    refine lv_aload_n hx hb d_Mo_again_8 rfl (lv_at hl 1 rfl) ?_
    refine mg_57 (v := si 57) hx hb hts hown hK hP rfl d_Mo_again_9 ?_
    refine lv_icmp_ge (tgt := 33) hx hb d_Mo_again_12 (by decide) (fun c_1 => ?_) (fun c_1 => ?_)
    · have hf := it_t c_1 hf
      refine lv_aload_n hx hb d_Mo_again_33 rfl (lv_at hl 1 rfl) ?_
      refine lv_aload_n hx hb d_Mo_again_34 rfl (lv_at hl 1 rfl) ?_
      refine mg_57 (v := si 57) hx hb hts hown hK hP rfl d_Mo_again_35 ?_
      refine mp_1 hx hb hts hown hK hP hD hS d_Mo_again_38 (fun H locs hP hD hS => ?_)
      refine lv_aload_n hx hb d_Mo_again_41 rfl (lv_at hl 1 rfl) ?_
      refine mg_1 (v := si 57) hx hb hts hown hK hP rfl d_Mo_again_42 ?_
      cases rs hf
      exact hE _ _ _ _ d_Mo_again_45 rfl hP hD hS
    · have hf := it_f c_1 hf
      refine lv_aload_n hx hb d_Mo_again_15 rfl (lv_at hl 1 rfl) ?_
      refine mg_0 hx hb hts hown hK hP d_Mo_again_16 ?_
      refine lv_iload_n hx hb d_Mo_again_19 rfl (lv_at hl 0 rfl) ?_
      refine lv_aload_n hx hb d_Mo_again_20 rfl (lv_at hl 1 rfl) ?_
      refine mg_56 hx hb hts hown hK hP d_Mo_again_21 ?_
      refine lv_iload_n hx hb d_Mo_again_24 rfl (lv_at hl 0 rfl) ?_
      obtain ⟨c_2, hf⟩ := it_n hf
      refine ma_56 (v := sa 56 x1.toNatClampNeg) hx hb hK hP c_2 rfl d_Mo_again_25 ?_
      obtain ⟨c_3, hf⟩ := it_n hf
      refine mz_0 hx hb hK hP hD hS c_3 d_Mo_again_26 (fun H locs hP hD hS => ?_)
      refine lv_iinc (v := x1 + 1) (lv' := [(1, .int (x1 + 1)), (0, .ref h0)]) hx hb d_Mo_again_27 hl (k := 0) rfl rfl (by decide) rfl (fun ls hl => ?_)
      refine lv_goto (tgt := 7) hx hb d_Mo_again_30 (by decide) ?_
      exact ih hf hP hD hS (lv_sub hl [0, 1] rfl)
set_option maxHeartbeats 400000 in
set_option maxRecDepth 100000 in
theorem k_Mo_again_0 (C0 : Cx p s m meth c args R b_Mo_again "ZoneFilesModel" 2 (some .int) 0 0) (hST : ST A s s.heap) (hA : ∀ q, s.heap.size ≤ q → A q) (hK : va_K (dC, dI) classes (moT cA) s) (hE : ∀ (pc : Nat) (ls : Array Slot) (H : Heap) (locs : List Loc), decode b_Mo_again pc = .ok (.ireturn, 1) → narrow .int (.int r0) = .int r0 → va_P (dC, dI) classes (moW h0 r cA vi vj va vb) H → va_D A (moW h0 r cA vi vj va vb) → va_S A s.heap H locs → W p l e R s m args below meth c H locs 0 0 Q (F0 m pc ls [.int r0])) {si : Nat → Int32} {sj : Nat → Int64} {sa : Nat → Nat → Int32} {sb : Nat → Nat → Int64} (hf : f_Mo_again_0 nf si sj sa sb = some (r0, vi, vj, va, vb)) {H : Heap} {locs : List Loc} {ls : Array Slot} (hP : va_P (dC, dI) classes (moW h0 r cA si sj sa sb) H) (hD : va_D A (moW h0 r cA si sj sa sb)) (hS : va_S A s.heap H locs) (hl : lv_has ls 2 [(0, .ref h0)]) : W p l e R s m args below meth c H locs 0 0 Q (F0 m 0 ls []) := by
  obtain ⟨hx, hb, hr, hml, hown, hts, hlocks, hRf, hRl⟩ := id C0
  unfold f_Mo_again_0 at hf
  refine lv_aload_n hx hb d_Mo_again_0 rfl (lv_at hl 0 rfl) ?_
  refine lv_iconst (v := 0) hx hb d_Mo_again_1 (by decide) ?_
  refine mp_3 hx hb hts hown hK hP hD hS d_Mo_again_2 (fun H locs hP hD hS => ?_)
  refine lv_iconst (v := 0) hx hb d_Mo_again_5 (by decide) ?_
  refine lv_istore_n (lv' := [(1, .int 0), (0, .ref h0)]) hx hb d_Mo_again_6 rfl hl (by decide) rfl (fun ls hl => ?_)
  exact k_Mo_again_7 C0 hST hA hK hE nf hf hP hD hS (lv_sub hl [0, 1] rfl)
end
set_option maxHeartbeats 400000 in
set_option maxRecDepth 100000 in
theorem c_Mo_again (l : Launch) (dC : Nat → ClassId) (dI : Nat → Nat → Nat) (h0 : Nat) (r : Nat → Nat) (cA : Nat → ClassId) (sz : Nat) (nf : Nat) (si : Nat → Int32) (sj : Nat → Int64) (sa : Nat → Nat → Int32) (sb : Nat → Nat → Int64) {r0 : Int32} {vi : Nat → Int32} {vj : Nat → Int64} {va : Nat → Nat → Int32} {vb : Nat → Nat → Int64} (hf : f_Mo_again nf si sj sa sb = some (r0, vi, vj, va, vb)) : Met l y_Mo_again (wd y_Mo_again b_Mo_again 2 (some .int)) ({ frames := 0, cells := 0, slots := 0, locals := 0 }) (MU dC dI (moW h0 r cA si sj sa sb) (moT cA) sz [.ref h0]) (MV (some (.int r0)) (fun t => va_P (dC, dI) classes (moW h0 r cA vi vj va vb) t.heap) (va_A (moW h0 r cA si sj sa sb) sz)) 0 0 (va_A (moW h0 r cA si sj sa sb) sz) :=
  met_M (plainFor_of_name (by decide)) (Nat.le_of_ble_eq_true rfl) (fun p e R s m args below meth c ls hRc hRs hsz hin C0 hST hK hP hD hl => by
    obtain ⟨hx, hb, hr, hml, hown, hts, hlocks, hRf, hRl⟩ := id C0
    subst hsz
    have hA : ∀ q : Nat, s.heap.size ≤ q → va_A (moW h0 r cA si sj sa sb) s.heap.size q := fun q h => Or.inr h
    have hS : va_S (va_A (moW h0 r cA si sj sa sb) s.heap.size) s.heap s.heap [] := va_S.rf
    unfold f_Mo_again at hf
    exact k_Mo_again_0 C0 hST hA hK (fun pc ls H locs hd hn hP hD hS => W.zret hx hb hr hn (fun t ht hW => ⟨⟨rfl, mo_end ht hP⟩, hS.F ht⟩) hS.2.2 hd) hf hP hD hS (lv_sub hl [0] rfl))
-- ZoneFilesModel.place()I
def f_Mo_place_0 (nf : Nat) (si : Nat → Int32) (sj : Nat → Int64) (sa : Nat → Nat → Int32) (sb : Nat → Nat → Int64) : Option (Int32 × (Nat → Int32) × (Nat → Int64) × (Nat → Nat → Int32) × (Nat → Nat → Int64)) :=
  some (si 2, va_up si 3 0, sj, sa, sb)
def f_Mo_place (nf : Nat) (si : Nat → Int32) (sj : Nat → Int64) (sa : Nat → Nat → Int32) (sb : Nat → Nat → Int64) : Option (Int32 × (Nat → Int32) × (Nat → Int64) × (Nat → Nat → Int32) × (Nat → Nat → Int64)) :=
  f_Mo_place_0 nf si sj sa sb
section
variable {p : Program} {l : Launch} {e : Env} {R : Room} {s : State} {m : MethodId} {args : Array Value} {below : List Frame} {meth : Method} {c : Code} {Q : State → Prop} {dC : Nat → ClassId} {dI : Nat → Nat → Nat} {nf : Nat} {A : Nat → Prop} {h0 : Nat} {r : Nat → Nat} {cA : Nat → ClassId}
variable {r0 : Int32} {vi : Nat → Int32} {vj : Nat → Int64} {va : Nat → Nat → Int32} {vb : Nat → Nat → Int64}
set_option maxHeartbeats 400000 in
set_option maxRecDepth 100000 in
theorem k_Mo_place_0 (C0 : Cx p s m meth c args R b_Mo_place "ZoneFilesModel" 1 (some .int) 0 0) (hST : ST A s s.heap) (hA : ∀ q, s.heap.size ≤ q → A q) (hK : va_K (dC, dI) classes (moT cA) s) (hE : ∀ (pc : Nat) (ls : Array Slot) (H : Heap) (locs : List Loc), decode b_Mo_place pc = .ok (.ireturn, 1) → narrow .int (.int r0) = .int r0 → va_P (dC, dI) classes (moW h0 r cA vi vj va vb) H → va_D A (moW h0 r cA vi vj va vb) → va_S A s.heap H locs → W p l e R s m args below meth c H locs 0 0 Q (F0 m pc ls [.int r0])) {si : Nat → Int32} {sj : Nat → Int64} {sa : Nat → Nat → Int32} {sb : Nat → Nat → Int64} (hf : f_Mo_place_0 nf si sj sa sb = some (r0, vi, vj, va, vb)) {H : Heap} {locs : List Loc} {ls : Array Slot} (hP : va_P (dC, dI) classes (moW h0 r cA si sj sa sb) H) (hD : va_D A (moW h0 r cA si sj sa sb)) (hS : va_S A s.heap H locs) (hl : lv_has ls 1 [(0, .ref h0)]) : W p l e R s m args below meth c H locs 0 0 Q (F0 m 0 ls []) := by
  obtain ⟨hx, hb, hr, hml, hown, hts, hlocks, hRf, hRl⟩ := id C0
  unfold f_Mo_place_0 at hf
  refine lv_aload_n hx hb d_Mo_place_0 rfl (lv_at hl 0 rfl) ?_
  refine lv_iconst (v := 0) hx hb d_Mo_place_1 (by decide) ?_
  refine mp_3 hx hb hts hown hK hP hD hS d_Mo_place_2 (fun H locs hP hD hS => ?_)
  refine lv_aload_n hx hb d_Mo_place_5 rfl (lv_at hl 0 rfl) ?_
  refine mg_2 (v := si 2) hx hb hts hown hK hP rfl d_Mo_place_6 ?_
  cases rs hf
  exact hE _ _ _ _ d_Mo_place_9 rfl hP hD hS
end
set_option maxHeartbeats 400000 in
set_option maxRecDepth 100000 in
theorem c_Mo_place (l : Launch) (dC : Nat → ClassId) (dI : Nat → Nat → Nat) (h0 : Nat) (r : Nat → Nat) (cA : Nat → ClassId) (sz : Nat) (nf : Nat) (si : Nat → Int32) (sj : Nat → Int64) (sa : Nat → Nat → Int32) (sb : Nat → Nat → Int64) {r0 : Int32} {vi : Nat → Int32} {vj : Nat → Int64} {va : Nat → Nat → Int32} {vb : Nat → Nat → Int64} (hf : f_Mo_place nf si sj sa sb = some (r0, vi, vj, va, vb)) : Met l y_Mo_place (wd y_Mo_place b_Mo_place 1 (some .int)) ({ frames := 0, cells := 0, slots := 0, locals := 0 }) (MU dC dI (moW h0 r cA si sj sa sb) (moT cA) sz [.ref h0]) (MV (some (.int r0)) (fun t => va_P (dC, dI) classes (moW h0 r cA vi vj va vb) t.heap) (va_A (moW h0 r cA si sj sa sb) sz)) 0 0 (va_A (moW h0 r cA si sj sa sb) sz) :=
  met_M (plainFor_of_name (by decide)) (Nat.le_of_ble_eq_true rfl) (fun p e R s m args below meth c ls hRc hRs hsz hin C0 hST hK hP hD hl => by
    obtain ⟨hx, hb, hr, hml, hown, hts, hlocks, hRf, hRl⟩ := id C0
    subst hsz
    have hA : ∀ q : Nat, s.heap.size ≤ q → va_A (moW h0 r cA si sj sa sb) s.heap.size q := fun q h => Or.inr h
    have hS : va_S (va_A (moW h0 r cA si sj sa sb) s.heap.size) s.heap s.heap [] := va_S.rf
    unfold f_Mo_place at hf
    exact k_Mo_place_0 C0 hST hA hK (fun pc ls H locs hd hn hP hD hS => W.zret hx hb hr hn (fun t ht hW => ⟨⟨rfl, mo_end ht hP⟩, hS.F ht⟩) hS.2.2 hd) hf hP hD hS (lv_sub hl [0] rfl))
-- ZoneFilesModel.zone(II)I
def f_Mo_zone_24 (nf : Nat) (x1 : Int32) (x2 : Int32) (s0 : Int32) (si : Nat → Int32) (sj : Nat → Int64) (sa : Nat → Nat → Int32) (sb : Nat → Nat → Int64) : Option (Int32 × (Nat → Int32) × (Nat → Int64) × (Nat → Nat → Int32) × (Nat → Nat → Int64)) :=
  if s0 ≤ 0 then
  if x2 = 0 then
    if x1 < 0 ∨ 5 ≤ x1.toNatClampNeg then none else
      some (sa 4 x1.toNatClampNeg, va_up si 3 s0, sj, sa, sb)
    else
    if x2 = 1 then
      if x1 < 0 ∨ 5 ≤ x1.toNatClampNeg then none else
        some (sa 5 x1.toNatClampNeg, va_up si 3 s0, sj, sa, sb)
      else
      if x2 = 2 then
        if x1 < 0 ∨ 5 ≤ x1.toNatClampNeg then none else
          some (sa 6 x1.toNatClampNeg, va_up si 3 s0, sj, sa, sb)
        else
        if x2 = 3 then
          if x1 < 0 ∨ 5 ≤ x1.toNatClampNeg then none else
            some (sa 7 x1.toNatClampNeg, va_up si 3 s0, sj, sa, sb)
          else
          if x2 = 4 then
            if x1 < 0 ∨ 5 ≤ x1.toNatClampNeg then none else
              some (sa 8 x1.toNatClampNeg, va_up si 3 s0, sj, sa, sb)
            else
            if x2 = 5 then
              if x1 < 0 ∨ 5 ≤ x1.toNatClampNeg then none else
                some (sa 9 x1.toNatClampNeg, va_up si 3 s0, sj, sa, sb)
              else
              if x2 = 6 then
                if x1 < 0 ∨ 5 ≤ x1.toNatClampNeg then none else
                  some (sa 10 x1.toNatClampNeg, va_up si 3 s0, sj, sa, sb)
                else
                if x1 < 0 ∨ 5 ≤ x1.toNatClampNeg then none else
                  some (sa 11 x1.toNatClampNeg, va_up si 3 s0, sj, sa, sb)
  else
  some (0, va_up si 3 s0, sj, sa, sb)
def f_Mo_zone_19 (nf : Nat) (x1 : Int32) (x2 : Int32) (si : Nat → Int32) (sj : Nat → Int64) (sa : Nat → Nat → Int32) (sb : Nat → Nat → Int64) : Option (Int32 × (Nat → Int32) × (Nat → Int64) × (Nat → Nat → Int32) × (Nat → Nat → Int64)) :=
  f_Mo_zone_24 nf x1 x2 1 si sj sa sb
def f_Mo_zone_0 (nf : Nat) (x1 : Int32) (x2 : Int32) (si : Nat → Int32) (sj : Nat → Int64) (sa : Nat → Nat → Int32) (sb : Nat → Nat → Int64) : Option (Int32 × (Nat → Int32) × (Nat → Int64) × (Nat → Nat → Int32) × (Nat → Nat → Int64)) :=
  (f_Mo_noZone nf x1 si sj sa sb).bind fun r_1 =>
  if r_1 = 0 then
  if x2 < 0 then
    f_Mo_zone_19 nf x1 x2 si sj sa sb
    else
    if x2 ≤ (7 : Int32) then
      f_Mo_zone_24 nf x1 x2 0 si sj sa sb
      else
      f_Mo_zone_19 nf x1 x2 si sj sa sb
  else
  f_Mo_zone_19 nf x1 x2 si sj sa sb
def f_Mo_zone (nf : Nat) (p0 : Int32) (p1 : Int32) (si : Nat → Int32) (sj : Nat → Int64) (sa : Nat → Nat → Int32) (sb : Nat → Nat → Int64) : Option (Int32 × (Nat → Int32) × (Nat → Int64) × (Nat → Nat → Int32) × (Nat → Nat → Int64)) :=
  f_Mo_zone_0 nf p0 p1 si sj sa sb
section
variable {p : Program} {l : Launch} {e : Env} {R : Room} {s : State} {m : MethodId} {args : Array Value} {below : List Frame} {meth : Method} {c : Code} {Q : State → Prop} {dC : Nat → ClassId} {dI : Nat → Nat → Nat} {nf : Nat} {A : Nat → Prop} {h0 : Nat} {r : Nat → Nat} {cA : Nat → ClassId}
variable {r0 : Int32} {vi : Nat → Int32} {vj : Nat → Int64} {va : Nat → Nat → Int32} {vb : Nat → Nat → Int64}
set_option maxHeartbeats 400000 in
set_option maxRecDepth 100000 in
theorem k_Mo_zone_24 (C0 : Cx p s m meth c args R b_Mo_zone "ZoneFilesModel" 3 (some .int) 1 21) (hST : ST A s s.heap) (hA : ∀ q, s.heap.size ≤ q → A q) (hK : va_K (dC, dI) classes (moT cA) s) (hE : ∀ (pc : Nat) (ls : Array Slot) (H : Heap) (locs : List Loc), decode b_Mo_zone pc = .ok (.ireturn, 1) → narrow .int (.int r0) = .int r0 → va_P (dC, dI) classes (moW h0 r cA vi vj va vb) H → va_D A (moW h0 r cA vi vj va vb) → va_S A s.heap H locs → W p l e R s m args below meth c H locs 0 0 Q (F0 m pc ls [.int r0])) {x1 : Int32} {x2 : Int32} {s0 : Int32} {si : Nat → Int32} {sj : Nat → Int64} {sa : Nat → Nat → Int32} {sb : Nat → Nat → Int64} (hf : f_Mo_zone_24 nf x1 x2 s0 si sj sa sb = some (r0, vi, vj, va, vb)) {H : Heap} {locs : List Loc} {ls : Array Slot} (hP : va_P (dC, dI) classes (moW h0 r cA si sj sa sb) H) (hD : va_D A (moW h0 r cA si sj sa sb)) (hS : va_S A s.heap H locs) (hl : lv_has ls 3 [(0, .ref h0), (1, .int x1), (2, .int x2)]) : W p l e R s m args below meth c H locs 0 0 Q (F0 m 24 ls [.int s0, .ref h0]) := by
  obtain ⟨hx, hb, hr, hml, hown, hts, hlocks, hRf, hRl⟩ := id C0
  unfold f_Mo_zone_24 at hf
  refine mp_3 hx hb hts hown hK hP hD hS d_Mo_zone_24 (fun H locs hP hD hS => ?_)
  refine lv_aload_n hx hb d_Mo_zone_27 rfl (lv_at hl 0 rfl) ?_
  refine mg_3 (v := s0) hx hb hts hown hK hP rfl d_Mo_zone_28 ?_
  refine lv_if_le (tgt := 36) hx hb d_Mo_zone_31 (by decide) (fun c_3 => ?_) (fun c_3 => ?_)
  · have hf := it_t c_3 hf
    refine lv_iload_n hx hb d_Mo_zone_36 rfl (lv_at hl 2 rfl) ?_
    by_cases c_4 : x2 = 0
    · have hf := it_t c_4 hf
      refine lv_tableIn (tgt := 80) hx hb d_Mo_zone_37 (by rw [c_4]; decide) (by rw [c_4]; decide) (by rw [c_4]; rfl) (by decide) ?_
      refine lv_aload_n hx hb d_Mo_zone_80 rfl (lv_at hl 0 rfl) ?_
      refine mg_4 hx hb hts hown hK hP d_Mo_zone_81 ?_
      refine lv_iload_n hx hb d_Mo_zone_84 rfl (lv_at hl 1 rfl) ?_
      obtain ⟨c_5, hf⟩ := it_n hf
      refine ma_4 (v := sa 4 x1.toNatClampNeg) hx hb hK hP c_5 rfl d_Mo_zone_85 ?_
      cases rs hf
      exact hE _ _ _ _ d_Mo_zone_86 rfl hP hD hS
    · have hf := it_f c_4 hf
      by_cases c_6 : x2 = 1
      · have hf := it_t c_6 hf
        refine lv_tableIn (tgt := 87) hx hb d_Mo_zone_37 (by rw [c_6]; decide) (by rw [c_6]; decide) (by rw [c_6]; rfl) (by decide) ?_
        refine lv_aload_n hx hb d_Mo_zone_87 rfl (lv_at hl 0 rfl) ?_
        refine mg_5 hx hb hts hown hK hP d_Mo_zone_88 ?_
        refine lv_iload_n hx hb d_Mo_zone_91 rfl (lv_at hl 1 rfl) ?_
        obtain ⟨c_7, hf⟩ := it_n hf
        refine ma_5 (v := sa 5 x1.toNatClampNeg) hx hb hK hP c_7 rfl d_Mo_zone_92 ?_
        cases rs hf
        exact hE _ _ _ _ d_Mo_zone_93 rfl hP hD hS
      · have hf := it_f c_6 hf
        by_cases c_8 : x2 = 2
        · have hf := it_t c_8 hf
          refine lv_tableIn (tgt := 94) hx hb d_Mo_zone_37 (by rw [c_8]; decide) (by rw [c_8]; decide) (by rw [c_8]; rfl) (by decide) ?_
          refine lv_aload_n hx hb d_Mo_zone_94 rfl (lv_at hl 0 rfl) ?_
          refine mg_6 hx hb hts hown hK hP d_Mo_zone_95 ?_
          refine lv_iload_n hx hb d_Mo_zone_98 rfl (lv_at hl 1 rfl) ?_
          obtain ⟨c_9, hf⟩ := it_n hf
          refine ma_6 (v := sa 6 x1.toNatClampNeg) hx hb hK hP c_9 rfl d_Mo_zone_99 ?_
          cases rs hf
          exact hE _ _ _ _ d_Mo_zone_100 rfl hP hD hS
        · have hf := it_f c_8 hf
          by_cases c_10 : x2 = 3
          · have hf := it_t c_10 hf
            refine lv_tableIn (tgt := 101) hx hb d_Mo_zone_37 (by rw [c_10]; decide) (by rw [c_10]; decide) (by rw [c_10]; rfl) (by decide) ?_
            refine lv_aload_n hx hb d_Mo_zone_101 rfl (lv_at hl 0 rfl) ?_
            refine mg_7 hx hb hts hown hK hP d_Mo_zone_102 ?_
            refine lv_iload_n hx hb d_Mo_zone_105 rfl (lv_at hl 1 rfl) ?_
            obtain ⟨c_11, hf⟩ := it_n hf
            refine ma_7 (v := sa 7 x1.toNatClampNeg) hx hb hK hP c_11 rfl d_Mo_zone_106 ?_
            cases rs hf
            exact hE _ _ _ _ d_Mo_zone_107 rfl hP hD hS
          · have hf := it_f c_10 hf
            by_cases c_12 : x2 = 4
            · have hf := it_t c_12 hf
              refine lv_tableIn (tgt := 108) hx hb d_Mo_zone_37 (by rw [c_12]; decide) (by rw [c_12]; decide) (by rw [c_12]; rfl) (by decide) ?_
              refine lv_aload_n hx hb d_Mo_zone_108 rfl (lv_at hl 0 rfl) ?_
              refine mg_8 hx hb hts hown hK hP d_Mo_zone_109 ?_
              refine lv_iload_n hx hb d_Mo_zone_112 rfl (lv_at hl 1 rfl) ?_
              obtain ⟨c_13, hf⟩ := it_n hf
              refine ma_8 (v := sa 8 x1.toNatClampNeg) hx hb hK hP c_13 rfl d_Mo_zone_113 ?_
              cases rs hf
              exact hE _ _ _ _ d_Mo_zone_114 rfl hP hD hS
            · have hf := it_f c_12 hf
              by_cases c_14 : x2 = 5
              · have hf := it_t c_14 hf
                refine lv_tableIn (tgt := 115) hx hb d_Mo_zone_37 (by rw [c_14]; decide) (by rw [c_14]; decide) (by rw [c_14]; rfl) (by decide) ?_
                refine lv_aload_n hx hb d_Mo_zone_115 rfl (lv_at hl 0 rfl) ?_
                refine mg_9 hx hb hts hown hK hP d_Mo_zone_116 ?_
                refine lv_iload_n hx hb d_Mo_zone_119 rfl (lv_at hl 1 rfl) ?_
                obtain ⟨c_15, hf⟩ := it_n hf
                refine ma_9 (v := sa 9 x1.toNatClampNeg) hx hb hK hP c_15 rfl d_Mo_zone_120 ?_
                cases rs hf
                exact hE _ _ _ _ d_Mo_zone_121 rfl hP hD hS
              · have hf := it_f c_14 hf
                by_cases c_16 : x2 = 6
                · have hf := it_t c_16 hf
                  refine lv_tableIn (tgt := 122) hx hb d_Mo_zone_37 (by rw [c_16]; decide) (by rw [c_16]; decide) (by rw [c_16]; rfl) (by decide) ?_
                  refine lv_aload_n hx hb d_Mo_zone_122 rfl (lv_at hl 0 rfl) ?_
                  refine mg_10 hx hb hts hown hK hP d_Mo_zone_123 ?_
                  refine lv_iload_n hx hb d_Mo_zone_126 rfl (lv_at hl 1 rfl) ?_
                  obtain ⟨c_17, hf⟩ := it_n hf
                  refine ma_10 (v := sa 10 x1.toNatClampNeg) hx hb hK hP c_17 rfl d_Mo_zone_127 ?_
                  cases rs hf
                  exact hE _ _ _ _ d_Mo_zone_128 rfl hP hD hS
                · have hf := it_f c_16 hf
                  have hsw : x2.toInt < 0 ∨ 6 < x2.toInt := by
                    have hsw0 := lv_neT c_4 (a := 0) rfl
                    have hsw1 := lv_neT c_6 (a := 1) rfl
                    have hsw2 := lv_neT c_8 (a := 2) rfl
                    have hsw3 := lv_neT c_10 (a := 3) rfl
                    have hsw4 := lv_neT c_12 (a := 4) rfl
                    have hsw5 := lv_neT c_14 (a := 5) rfl
                    have hsw6 := lv_neT c_16 (a := 6) rfl
                    omega
                  refine lv_tableOut (tgt := 129) hx hb d_Mo_zone_37 hsw (by decide) ?_
                  refine lv_aload_n hx hb d_Mo_zone_129 rfl (lv_at hl 0 rfl) ?_
                  refine mg_11 hx hb hts hown hK hP d_Mo_zone_130 ?_
                  refine lv_iload_n hx hb d_Mo_zone_133 rfl (lv_at hl 1 rfl) ?_
                  obtain ⟨c_18, hf⟩ := it_n hf
                  refine ma_11 (v := sa 11 x1.toNatClampNeg) hx hb hK hP c_18 rfl d_Mo_zone_134 ?_
                  cases rs hf
                  exact hE _ _ _ _ d_Mo_zone_135 rfl hP hD hS
  · have hf := it_f c_3 hf
    refine lv_iconst (v := 0) hx hb d_Mo_zone_34 (by decide) ?_
    cases rs hf
    exact hE _ _ _ _ d_Mo_zone_35 rfl hP hD hS
set_option maxHeartbeats 400000 in
set_option maxRecDepth 100000 in
theorem k_Mo_zone_19 (C0 : Cx p s m meth c args R b_Mo_zone "ZoneFilesModel" 3 (some .int) 1 21) (hST : ST A s s.heap) (hA : ∀ q, s.heap.size ≤ q → A q) (hK : va_K (dC, dI) classes (moT cA) s) (hE : ∀ (pc : Nat) (ls : Array Slot) (H : Heap) (locs : List Loc), decode b_Mo_zone pc = .ok (.ireturn, 1) → narrow .int (.int r0) = .int r0 → va_P (dC, dI) classes (moW h0 r cA vi vj va vb) H → va_D A (moW h0 r cA vi vj va vb) → va_S A s.heap H locs → W p l e R s m args below meth c H locs 0 0 Q (F0 m pc ls [.int r0])) {x1 : Int32} {x2 : Int32} {si : Nat → Int32} {sj : Nat → Int64} {sa : Nat → Nat → Int32} {sb : Nat → Nat → Int64} (hf : f_Mo_zone_19 nf x1 x2 si sj sa sb = some (r0, vi, vj, va, vb)) {H : Heap} {locs : List Loc} {ls : Array Slot} (hP : va_P (dC, dI) classes (moW h0 r cA si sj sa sb) H) (hD : va_D A (moW h0 r cA si sj sa sb)) (hS : va_S A s.heap H locs) (hl : lv_has ls 3 [(0, .ref h0), (1, .int x1), (2, .int x2)]) : W p l e R s m args below meth c H locs 0 0 Q (F0 m 19 ls [.ref h0]) := by
  obtain ⟨hx, hb, hr, hml, hown, hts, hlocks, hRf, hRl⟩ := id C0
  unfold f_Mo_zone_19 at hf
  refine lv_iconst (v := 1) hx hb d_Mo_zone_19 (by decide) ?_
  refine lv_goto (tgt := 24) hx hb d_Mo_zone_20 (by decide) ?_
  exact k_Mo_zone_24 C0 hST hA hK hE hf hP hD hS (lv_sub hl [0, 1, 2] rfl)
set_option maxHeartbeats 400000 in
set_option maxRecDepth 100000 in
theorem k_Mo_zone_0 (C0 : Cx p s m meth c args R b_Mo_zone "ZoneFilesModel" 3 (some .int) 1 21) (hST : ST A s s.heap) (hA : ∀ q, s.heap.size ≤ q → A q) (hK : va_K (dC, dI) classes (moT cA) s) (hE : ∀ (pc : Nat) (ls : Array Slot) (H : Heap) (locs : List Loc), decode b_Mo_zone pc = .ok (.ireturn, 1) → narrow .int (.int r0) = .int r0 → va_P (dC, dI) classes (moW h0 r cA vi vj va vb) H → va_D A (moW h0 r cA vi vj va vb) → va_S A s.heap H locs → W p l e R s m args below meth c H locs 0 0 Q (F0 m pc ls [.int r0])) {x1 : Int32} {x2 : Int32} {si : Nat → Int32} {sj : Nat → Int64} {sa : Nat → Nat → Int32} {sb : Nat → Nat → Int64} (hf : f_Mo_zone_0 nf x1 x2 si sj sa sb = some (r0, vi, vj, va, vb)) {H : Heap} {locs : List Loc} {ls : Array Slot} (hP : va_P (dC, dI) classes (moW h0 r cA si sj sa sb) H) (hD : va_D A (moW h0 r cA si sj sa sb)) (hS : va_S A s.heap H locs) (hl : lv_has ls 3 [(0, .ref h0), (1, .int x1), (2, .int x2)]) : W p l e R s m args below meth c H locs 0 0 Q (F0 m 0 ls []) := by
  obtain ⟨hx, hb, hr, hml, hown, hts, hlocks, hRf, hRl⟩ := id C0
  unfold f_Mo_zone_0 at hf
  refine lv_aload_n hx hb d_Mo_zone_0 rfl (lv_at hl 0 rfl) ?_
  refine lv_aload_n hx hb d_Mo_zone_1 rfl (lv_at hl 0 rfl) ?_
  refine lv_iload_n hx hb d_Mo_zone_2 rfl (lv_at hl 1 rfl) ?_
  obtain ⟨r_1, hc, hf⟩ := ob hf
  refine cl_S (v := (some (.int r_1))) (st1 := [.int r_1, .ref h0]) (va_runV (As := [.int x1]) (rest := [.ref h0]) ⟨hx, hb, hml, hown, hts⟩ (c_Mo_noZone l dC dI h0 r cA nf x1 si sj sa sb hc) (cwV 1 hts (gdV m_8_45 m_8_47 msel_83 m_1_10 m_8_48) rfl rfl rfl (by decide +kernel) ⟨Nat.le_trans (Nat.le_of_ble_eq_true rfl) hRf, Nat.le_trans (Nat.le_of_ble_eq_true rfl) hRl⟩) ((RO.pre hP hK (hST.ro hS)).vir (va_recv hK hP (ci := 10) (q0 := 0) rfl rfl)) rfl rfl hl.1 rfl (lv_room (Nat.le_of_ble_eq_true rfl)) d_Mo_zone_3 ⟨Nat.zero_le _, Nat.zero_le _⟩) rfl ?_
  refine lv_if_ne (tgt := 19) hx hb d_Mo_zone_6 (by decide) (fun c_2 => ?_) (fun c_2 => ?_)
  · have hf := it_f c_2 hf
    exact k_Mo_zone_19 C0 hST hA hK hE hf hP hD hS (lv_sub hl [0, 1, 2] rfl)
  · have hf := it_t c_2 hf
    refine lv_iload_n hx hb d_Mo_zone_9 rfl (lv_at hl 2 rfl) ?_
    refine lv_if_lt (tgt := 19) hx hb d_Mo_zone_10 (by decide) (fun c_19 => ?_) (fun c_19 => ?_)
    · have hf := it_t c_19 hf
      exact k_Mo_zone_19 C0 hST hA hK hE hf hP hD hS (lv_sub hl [0, 1, 2] rfl)
    · have hf := it_f c_19 hf
      refine lv_iload_n hx hb d_Mo_zone_13 rfl (lv_at hl 2 rfl) ?_
      refine lv_bipush (v := 7) hx hb d_Mo_zone_14 (by decide) ?_
      refine lv_icmp_le (tgt := 23) hx hb d_Mo_zone_16 (by decide) (fun c_20 => ?_) (fun c_20 => ?_)
      · have hf := it_t c_20 hf
        refine lv_iconst (v := 0) hx hb d_Mo_zone_23 (by decide) ?_
        exact k_Mo_zone_24 C0 hST hA hK hE hf hP hD hS (lv_sub hl [0, 1, 2] rfl)
      · have hf := it_f c_20 hf
        exact k_Mo_zone_19 C0 hST hA hK hE hf hP hD hS (lv_sub hl [0, 1, 2] rfl)
end
set_option maxHeartbeats 400000 in
set_option maxRecDepth 100000 in
theorem c_Mo_zone (l : Launch) (dC : Nat → ClassId) (dI : Nat → Nat → Nat) (h0 : Nat) (r : Nat → Nat) (cA : Nat → ClassId) (sz : Nat) (nf : Nat) (p0 : Int32) (p1 : Int32) (si : Nat → Int32) (sj : Nat → Int64) (sa : Nat → Nat → Int32) (sb : Nat → Nat → Int64) {r0 : Int32} {vi : Nat → Int32} {vj : Nat → Int64} {va : Nat → Nat → Int32} {vb : Nat → Nat → Int64} (hf : f_Mo_zone nf p0 p1 si sj sa sb = some (r0, vi, vj, va, vb)) : Met l y_Mo_zone (wd y_Mo_zone b_Mo_zone 3 (some .int)) ({ frames := 1, cells := 0, slots := 0, locals := 21 }) (MU dC dI (moW h0 r cA si sj sa sb) (moT cA) sz [.ref h0, .int p0, .int p1]) (MV (some (.int r0)) (fun t => va_P (dC, dI) classes (moW h0 r cA vi vj va vb) t.heap) (va_A (moW h0 r cA si sj sa sb) sz)) 0 0 (va_A (moW h0 r cA si sj sa sb) sz) :=
  met_M (plainFor_of_name (by decide)) (Nat.le_of_ble_eq_true rfl) (fun p e R s m args below meth c ls hRc hRs hsz hin C0 hST hK hP hD hl => by
    obtain ⟨hx, hb, hr, hml, hown, hts, hlocks, hRf, hRl⟩ := id C0
    subst hsz
    have hA : ∀ q : Nat, s.heap.size ≤ q → va_A (moW h0 r cA si sj sa sb) s.heap.size q := fun q h => Or.inr h
    have hS : va_S (va_A (moW h0 r cA si sj sa sb) s.heap.size) s.heap s.heap [] := va_S.rf
    unfold f_Mo_zone at hf
    exact k_Mo_zone_0 C0 hST hA hK (fun pc ls H locs hd hn hP hD hS => W.zret hx hb hr hn (fun t ht hW => ⟨⟨rfl, mo_end ht hP⟩, hS.F ht⟩) hS.2.2 hd) hf hP hD hS (lv_sub hl [0, 1, 2] rfl))
-- ZoneFilesModel.time(II)J
def f_Mo_time_54 (nf : Nat) (s0 : Int64) (si : Nat → Int32) (sj : Nat → Int64) (sa : Nat → Nat → Int32) (sb : Nat → Nat → Int64) : Option (Int64 × (Nat → Int32) × (Nat → Int64) × (Nat → Nat → Int32) × (Nat → Nat → Int64)) :=
  some (s0, si, sj, sa, sb)
def f_Mo_time_28 (nf : Nat) (x1 : Int32) (x2 : Int32) (s0 : Int32) (si : Nat → Int32) (sj : Nat → Int64) (sa : Nat → Nat → Int32) (sb : Nat → Nat → Int64) : Option (Int64 × (Nat → Int32) × (Nat → Int64) × (Nat → Nat → Int32) × (Nat → Nat → Int64)) :=
  if s0 ≤ 0 then
  if ((200 * x1) + x2) < 0 ∨ 1000 ≤ ((200 * x1) + x2).toNatClampNeg then none else
    f_Mo_time_54 nf (sb 12 ((200 * x1) + x2).toNatClampNeg) (va_up si 3 s0) sj sa sb
  else
  f_Mo_time_54 nf 0 (va_up si 3 s0) sj sa sb
def f_Mo_time_23 (nf : Nat) (x1 : Int32) (x2 : Int32) (si : Nat → Int32) (sj : Nat → Int64) (sa : Nat → Nat → Int32) (sb : Nat → Nat → Int64) : Option (Int64 × (Nat → Int32) × (Nat → Int64) × (Nat → Nat → Int32) × (Nat → Nat → Int64)) :=
  f_Mo_time_28 nf x1 x2 1 si sj sa sb
def f_Mo_time_0 (nf : Nat) (x1 : Int32) (x2 : Int32) (si : Nat → Int32) (sj : Nat → Int64) (sa : Nat → Nat → Int32) (sb : Nat → Nat → Int64) : Option (Int64 × (Nat → Int32) × (Nat → Int64) × (Nat → Nat → Int32) × (Nat → Nat → Int64)) :=
  (f_Mo_noZone nf x1 si sj sa sb).bind fun r_1 =>
  if r_1 = 0 then
  if x2 < 0 then
    f_Mo_time_23 nf x1 x2 si sj sa sb
    else
    if x1 < 0 ∨ 5 ≤ x1.toNatClampNeg then none else
      if x2 < (sa 5 x1.toNatClampNeg) then
      f_Mo_time_28 nf x1 x2 0 si sj sa sb
      else
      f_Mo_time_23 nf x1 x2 si sj sa sb
  else
  f_Mo_time_23 nf x1 x2 si sj sa sb
def f_Mo_time (nf : Nat) (p0 : Int32) (p1 : Int32) (si : Nat → Int32) (sj : Nat → Int64) (sa : Nat → Nat → Int32) (sb : Nat → Nat → Int64) : Option (Int64 × (Nat → Int32) × (Nat → Int64) × (Nat → Nat → Int32) × (Nat → Nat → Int64)) :=
  f_Mo_time_0 nf p0 p1 si sj sa sb
section
variable {p : Program} {l : Launch} {e : Env} {R : Room} {s : State} {m : MethodId} {args : Array Value} {below : List Frame} {meth : Method} {c : Code} {Q : State → Prop} {dC : Nat → ClassId} {dI : Nat → Nat → Nat} {nf : Nat} {A : Nat → Prop} {h0 : Nat} {r : Nat → Nat} {cA : Nat → ClassId}
variable {r0 : Int64} {vi : Nat → Int32} {vj : Nat → Int64} {va : Nat → Nat → Int32} {vb : Nat → Nat → Int64}
set_option maxHeartbeats 400000 in
set_option maxRecDepth 100000 in
theorem k_Mo_time_54 (C0 : Cx p s m meth c args R b_Mo_time "ZoneFilesModel" 3 (some .long) 1 21) (hST : ST A s s.heap) (hA : ∀ q, s.heap.size ≤ q → A q) (hK : va_K (dC, dI) classes (moT cA) s) (hE : ∀ (pc : Nat) (ls : Array Slot) (H : Heap) (locs : List Loc), decode b_Mo_time pc = .ok (.lreturn, 1) → va_P (dC, dI) classes (moW h0 r cA vi vj va vb) H → va_D A (moW h0 r cA vi vj va vb) → va_S A s.heap H locs → W p l e R s m args below meth c H locs 0 0 Q (F0 m pc ls [.long r0])) {s0 : Int64} {si : Nat → Int32} {sj : Nat → Int64} {sa : Nat → Nat → Int32} {sb : Nat → Nat → Int64} (hf : f_Mo_time_54 nf s0 si sj sa sb = some (r0, vi, vj, va, vb)) {H : Heap} {locs : List Loc} {ls : Array Slot} (hP : va_P (dC, dI) classes (moW h0 r cA si sj sa sb) H) (hD : va_D A (moW h0 r cA si sj sa sb)) (hS : va_S A s.heap H locs) (hl : lv_has ls 3 []) : W p l e R s m args below meth c H locs 0 0 Q (F0 m 54 ls [.long s0]) := by
  obtain ⟨hx, hb, hr, hml, hown, hts, hlocks, hRf, hRl⟩ := id C0
  unfold f_Mo_time_54 at hf
  cases rs hf
  exact hE _ _ _ _ d_Mo_time_54 hP hD hS
set_option maxHeartbeats 400000 in
set_option maxRecDepth 100000 in
theorem k_Mo_time_28 (C0 : Cx p s m meth c args R b_Mo_time "ZoneFilesModel" 3 (some .long) 1 21) (hST : ST A s s.heap) (hA : ∀ q, s.heap.size ≤ q → A q) (hK : va_K (dC, dI) classes (moT cA) s) (hE : ∀ (pc : Nat) (ls : Array Slot) (H : Heap) (locs : List Loc), decode b_Mo_time pc = .ok (.lreturn, 1) → va_P (dC, dI) classes (moW h0 r cA vi vj va vb) H → va_D A (moW h0 r cA vi vj va vb) → va_S A s.heap H locs → W p l e R s m args below meth c H locs 0 0 Q (F0 m pc ls [.long r0])) {x1 : Int32} {x2 : Int32} {s0 : Int32} {si : Nat → Int32} {sj : Nat → Int64} {sa : Nat → Nat → Int32} {sb : Nat → Nat → Int64} (hf : f_Mo_time_28 nf x1 x2 s0 si sj sa sb = some (r0, vi, vj, va, vb)) {H : Heap} {locs : List Loc} {ls : Array Slot} (hP : va_P (dC, dI) classes (moW h0 r cA si sj sa sb) H) (hD : va_D A (moW h0 r cA si sj sa sb)) (hS : va_S A s.heap H locs) (hl : lv_has ls 3 [(0, .ref h0), (1, .int x1), (2, .int x2)]) : W p l e R s m args below meth c H locs 0 0 Q (F0 m 28 ls [.int s0, .ref h0]) := by
  obtain ⟨hx, hb, hr, hml, hown, hts, hlocks, hRf, hRl⟩ := id C0
  unfold f_Mo_time_28 at hf
  refine mp_3 hx hb hts hown hK hP hD hS d_Mo_time_28 (fun H locs hP hD hS => ?_)
  refine lv_aload_n hx hb d_Mo_time_31 rfl (lv_at hl 0 rfl) ?_
  refine mg_3 (v := s0) hx hb hts hown hK hP rfl d_Mo_time_32 ?_
  refine lv_if_le (tgt := 42) hx hb d_Mo_time_35 (by decide) (fun c_3 => ?_) (fun c_3 => ?_)
  · have hf := it_t c_3 hf
    refine lv_aload_n hx hb d_Mo_time_42 rfl (lv_at hl 0 rfl) ?_
    refine mg_12 hx hb hts hown hK hP d_Mo_time_43 ?_
    refine lv_sipush (v := 200) hx hb d_Mo_time_46 (by decide) ?_
    refine lv_iload_n hx hb d_Mo_time_49 rfl (lv_at hl 1 rfl) ?_
    refine lv_imul hx hb d_Mo_time_50 ?_
    refine lv_iload_n hx hb d_Mo_time_51 rfl (lv_at hl 2 rfl) ?_
    refine lv_iadd hx hb d_Mo_time_52 ?_
    obtain ⟨c_4, hf⟩ := it_n hf
    refine ma_12 (v := sb 12 ((200 * x1) + x2).toNatClampNeg) hx hb hK hP c_4 rfl d_Mo_time_53 ?_
    exact k_Mo_time_54 C0 hST hA hK hE hf hP hD hS (lv_sub hl [] rfl)
  · have hf := it_f c_3 hf
    refine lv_lconst (v := 0) hx hb d_Mo_time_38 (by decide) ?_
    refine lv_goto (tgt := 54) hx hb d_Mo_time_39 (by decide) ?_
    exact k_Mo_time_54 C0 hST hA hK hE hf hP hD hS (lv_sub hl [] rfl)
set_option maxHeartbeats 400000 in
set_option maxRecDepth 100000 in
theorem k_Mo_time_23 (C0 : Cx p s m meth c args R b_Mo_time "ZoneFilesModel" 3 (some .long) 1 21) (hST : ST A s s.heap) (hA : ∀ q, s.heap.size ≤ q → A q) (hK : va_K (dC, dI) classes (moT cA) s) (hE : ∀ (pc : Nat) (ls : Array Slot) (H : Heap) (locs : List Loc), decode b_Mo_time pc = .ok (.lreturn, 1) → va_P (dC, dI) classes (moW h0 r cA vi vj va vb) H → va_D A (moW h0 r cA vi vj va vb) → va_S A s.heap H locs → W p l e R s m args below meth c H locs 0 0 Q (F0 m pc ls [.long r0])) {x1 : Int32} {x2 : Int32} {si : Nat → Int32} {sj : Nat → Int64} {sa : Nat → Nat → Int32} {sb : Nat → Nat → Int64} (hf : f_Mo_time_23 nf x1 x2 si sj sa sb = some (r0, vi, vj, va, vb)) {H : Heap} {locs : List Loc} {ls : Array Slot} (hP : va_P (dC, dI) classes (moW h0 r cA si sj sa sb) H) (hD : va_D A (moW h0 r cA si sj sa sb)) (hS : va_S A s.heap H locs) (hl : lv_has ls 3 [(0, .ref h0), (1, .int x1), (2, .int x2)]) : W p l e R s m args below meth c H locs 0 0 Q (F0 m 23 ls [.ref h0]) := by
  obtain ⟨hx, hb, hr, hml, hown, hts, hlocks, hRf, hRl⟩ := id C0
  unfold f_Mo_time_23 at hf
  refine lv_iconst (v := 1) hx hb d_Mo_time_23 (by decide) ?_
  refine lv_goto (tgt := 28) hx hb d_Mo_time_24 (by decide) ?_
  exact k_Mo_time_28 C0 hST hA hK hE hf hP hD hS (lv_sub hl [0, 1, 2] rfl)
set_option maxHeartbeats 400000 in
set_option maxRecDepth 100000 in
theorem k_Mo_time_0 (C0 : Cx p s m meth c args R b_Mo_time "ZoneFilesModel" 3 (some .long) 1 21) (hST : ST A s s.heap) (hA : ∀ q, s.heap.size ≤ q → A q) (hK : va_K (dC, dI) classes (moT cA) s) (hE : ∀ (pc : Nat) (ls : Array Slot) (H : Heap) (locs : List Loc), decode b_Mo_time pc = .ok (.lreturn, 1) → va_P (dC, dI) classes (moW h0 r cA vi vj va vb) H → va_D A (moW h0 r cA vi vj va vb) → va_S A s.heap H locs → W p l e R s m args below meth c H locs 0 0 Q (F0 m pc ls [.long r0])) {x1 : Int32} {x2 : Int32} {si : Nat → Int32} {sj : Nat → Int64} {sa : Nat → Nat → Int32} {sb : Nat → Nat → Int64} (hf : f_Mo_time_0 nf x1 x2 si sj sa sb = some (r0, vi, vj, va, vb)) {H : Heap} {locs : List Loc} {ls : Array Slot} (hP : va_P (dC, dI) classes (moW h0 r cA si sj sa sb) H) (hD : va_D A (moW h0 r cA si sj sa sb)) (hS : va_S A s.heap H locs) (hl : lv_has ls 3 [(0, .ref h0), (1, .int x1), (2, .int x2)]) : W p l e R s m args below meth c H locs 0 0 Q (F0 m 0 ls []) := by
  obtain ⟨hx, hb, hr, hml, hown, hts, hlocks, hRf, hRl⟩ := id C0
  unfold f_Mo_time_0 at hf
  refine lv_aload_n hx hb d_Mo_time_0 rfl (lv_at hl 0 rfl) ?_
  refine lv_aload_n hx hb d_Mo_time_1 rfl (lv_at hl 0 rfl) ?_
  refine lv_iload_n hx hb d_Mo_time_2 rfl (lv_at hl 1 rfl) ?_
  obtain ⟨r_1, hc, hf⟩ := ob hf
  refine cl_S (v := (some (.int r_1))) (st1 := [.int r_1, .ref h0]) (va_runV (As := [.int x1]) (rest := [.ref h0]) ⟨hx, hb, hml, hown, hts⟩ (c_Mo_noZone l dC dI h0 r cA nf x1 si sj sa sb hc) (cwV 1 hts (gdV m_8_45 m_8_47 msel_83 m_1_10 m_8_48) rfl rfl rfl (by decide +kernel) ⟨Nat.le_trans (Nat.le_of_ble_eq_true rfl) hRf, Nat.le_trans (Nat.le_of_ble_eq_true rfl) hRl⟩) ((RO.pre hP hK (hST.ro hS)).vir (va_recv hK hP (ci := 10) (q0 := 0) rfl rfl)) rfl rfl hl.1 rfl (lv_room (Nat.le_of_ble_eq_true rfl)) d_Mo_time_3 ⟨Nat.zero_le _, Nat.zero_le _⟩) rfl ?_
  refine lv_if_ne (tgt := 23) hx hb d_Mo_time_6 (by decide) (fun c_2 => ?_) (fun c_2 => ?_)
  · have hf := it_f c_2 hf
    exact k_Mo_time_23 C0 hST hA hK hE hf hP hD hS (lv_sub hl [0, 1, 2] rfl)
  · have hf := it_t c_2 hf
    refine lv_iload_n hx hb d_Mo_time_9 rfl (lv_at hl 2 rfl) ?_
    refine lv_if_lt (tgt := 23) hx hb d_Mo_time_10 (by decide) (fun c_5 => ?_) (fun c_5 => ?_)
    · have hf := it_t c_5 hf
      exact k_Mo_time_23 C0 hST hA hK hE hf hP hD hS (lv_sub hl [0, 1, 2] rfl)
    · have hf := it_f c_5 hf
      refine lv_iload_n hx hb d_Mo_time_13 rfl (lv_at hl 2 rfl) ?_
      refine lv_aload_n hx hb d_Mo_time_14 rfl (lv_at hl 0 rfl) ?_
      refine mg_5 hx hb hts hown hK hP d_Mo_time_15 ?_
      refine lv_iload_n hx hb d_Mo_time_18 rfl (lv_at hl 1 rfl) ?_
      obtain ⟨c_6, hf⟩ := it_n hf
      refine ma_5 (v := sa 5 x1.toNatClampNeg) hx hb hK hP c_6 rfl d_Mo_time_19 ?_
      refine lv_icmp_lt (tgt := 27) hx hb d_Mo_time_20 (by decide) (fun c_7 => ?_) (fun c_7 => ?_)
      · have hf := it_t c_7 hf
        refine lv_iconst (v := 0) hx hb d_Mo_time_27 (by decide) ?_
        exact k_Mo_time_28 C0 hST hA hK hE hf hP hD hS (lv_sub hl [0, 1, 2] rfl)
      · have hf := it_f c_7 hf
        exact k_Mo_time_23 C0 hST hA hK hE hf hP hD hS (lv_sub hl [0, 1, 2] rfl)
end
set_option maxHeartbeats 400000 in
set_option maxRecDepth 100000 in
theorem c_Mo_time (l : Launch) (dC : Nat → ClassId) (dI : Nat → Nat → Nat) (h0 : Nat) (r : Nat → Nat) (cA : Nat → ClassId) (sz : Nat) (nf : Nat) (p0 : Int32) (p1 : Int32) (si : Nat → Int32) (sj : Nat → Int64) (sa : Nat → Nat → Int32) (sb : Nat → Nat → Int64) {r0 : Int64} {vi : Nat → Int32} {vj : Nat → Int64} {va : Nat → Nat → Int32} {vb : Nat → Nat → Int64} (hf : f_Mo_time nf p0 p1 si sj sa sb = some (r0, vi, vj, va, vb)) : Met l y_Mo_time (wd y_Mo_time b_Mo_time 3 (some .long)) ({ frames := 1, cells := 0, slots := 0, locals := 21 }) (MU dC dI (moW h0 r cA si sj sa sb) (moT cA) sz [.ref h0, .int p0, .int p1]) (MV (some (.long r0)) (fun t => va_P (dC, dI) classes (moW h0 r cA vi vj va vb) t.heap) (va_A (moW h0 r cA si sj sa sb) sz)) 0 0 (va_A (moW h0 r cA si sj sa sb) sz) :=
  met_M (plainFor_of_name (by decide)) (Nat.le_of_ble_eq_true rfl) (fun p e R s m args below meth c ls hRc hRs hsz hin C0 hST hK hP hD hl => by
    obtain ⟨hx, hb, hr, hml, hown, hts, hlocks, hRf, hRl⟩ := id C0
    subst hsz
    have hA : ∀ q : Nat, s.heap.size ≤ q → va_A (moW h0 r cA si sj sa sb) s.heap.size q := fun q h => Or.inr h
    have hS : va_S (va_A (moW h0 r cA si sj sa sb) s.heap.size) s.heap s.heap [] := va_S.rf
    unfold f_Mo_time at hf
    exact k_Mo_time_0 C0 hST hA hK (fun pc ls H locs hd hP hD hS => W.lret hx hb hr (fun t ht hW => ⟨⟨rfl, mo_end ht hP⟩, hS.F ht⟩) hS.2.2 hd) hf hP hD hS (lv_sub hl [0, 1, 2] rfl))
-- ZoneFilesModel.typeAt(II)I
def f_Mo_typeAt_54 (nf : Nat) (s0 : Int32) (si : Nat → Int32) (sj : Nat → Int64) (sa : Nat → Nat → Int32) (sb : Nat → Nat → Int64) : Option (Int32 × (Nat → Int32) × (Nat → Int64) × (Nat → Nat → Int32) × (Nat → Nat → Int64)) :=
  some (s0, si, sj, sa, sb)
def f_Mo_typeAt_28 (nf : Nat) (x1 : Int32) (x2 : Int32) (s0 : Int32) (si : Nat → Int32) (sj : Nat → Int64) (sa : Nat → Nat → Int32) (sb : Nat → Nat → Int64) : Option (Int32 × (Nat → Int32) × (Nat → Int64) × (Nat → Nat → Int32) × (Nat → Nat → Int64)) :=
  if s0 ≤ 0 then
  if ((200 * x1) + x2) < 0 ∨ 1000 ≤ ((200 * x1) + x2).toNatClampNeg then none else
    f_Mo_typeAt_54 nf (sa 13 ((200 * x1) + x2).toNatClampNeg) (va_up si 3 s0) sj sa sb
  else
  f_Mo_typeAt_54 nf 0 (va_up si 3 s0) sj sa sb
def f_Mo_typeAt_23 (nf : Nat) (x1 : Int32) (x2 : Int32) (si : Nat → Int32) (sj : Nat → Int64) (sa : Nat → Nat → Int32) (sb : Nat → Nat → Int64) : Option (Int32 × (Nat → Int32) × (Nat → Int64) × (Nat → Nat → Int32) × (Nat → Nat → Int64)) :=
  f_Mo_typeAt_28 nf x1 x2 1 si sj sa sb
def f_Mo_typeAt_0 (nf : Nat) (x1 : Int32) (x2 : Int32) (si : Nat → Int32) (sj : Nat → Int64) (sa : Nat → Nat → Int32) (sb : Nat → Nat → Int64) : Option (Int32 × (Nat → Int32) × (Nat → Int64) × (Nat → Nat → Int32) × (Nat → Nat → Int64)) :=
  (f_Mo_noZone nf x1 si sj sa sb).bind fun r_1 =>
  if r_1 = 0 then
  if x2 < 0 then
    f_Mo_typeAt_23 nf x1 x2 si sj sa sb
    else
    if x1 < 0 ∨ 5 ≤ x1.toNatClampNeg then none else
      if x2 < (sa 5 x1.toNatClampNeg) then
      f_Mo_typeAt_28 nf x1 x2 0 si sj sa sb
      else
      f_Mo_typeAt_23 nf x1 x2 si sj sa sb
  else
  f_Mo_typeAt_23 nf x1 x2 si sj sa sb
def f_Mo_typeAt (nf : Nat) (p0 : Int32) (p1 : Int32) (si : Nat → Int32) (sj : Nat → Int64) (sa : Nat → Nat → Int32) (sb : Nat → Nat → Int64) : Option (Int32 × (Nat → Int32) × (Nat → Int64) × (Nat → Nat → Int32) × (Nat → Nat → Int64)) :=
  f_Mo_typeAt_0 nf p0 p1 si sj sa sb
section
variable {p : Program} {l : Launch} {e : Env} {R : Room} {s : State} {m : MethodId} {args : Array Value} {below : List Frame} {meth : Method} {c : Code} {Q : State → Prop} {dC : Nat → ClassId} {dI : Nat → Nat → Nat} {nf : Nat} {A : Nat → Prop} {h0 : Nat} {r : Nat → Nat} {cA : Nat → ClassId}
variable {r0 : Int32} {vi : Nat → Int32} {vj : Nat → Int64} {va : Nat → Nat → Int32} {vb : Nat → Nat → Int64}
set_option maxHeartbeats 400000 in
set_option maxRecDepth 100000 in
theorem k_Mo_typeAt_54 (C0 : Cx p s m meth c args R b_Mo_typeAt "ZoneFilesModel" 3 (some .int) 1 21) (hST : ST A s s.heap) (hA : ∀ q, s.heap.size ≤ q → A q) (hK : va_K (dC, dI) classes (moT cA) s) (hE : ∀ (pc : Nat) (ls : Array Slot) (H : Heap) (locs : List Loc), decode b_Mo_typeAt pc = .ok (.ireturn, 1) → narrow .int (.int r0) = .int r0 → va_P (dC, dI) classes (moW h0 r cA vi vj va vb) H → va_D A (moW h0 r cA vi vj va vb) → va_S A s.heap H locs → W p l e R s m args below meth c H locs 0 0 Q (F0 m pc ls [.int r0])) {s0 : Int32} {si : Nat → Int32} {sj : Nat → Int64} {sa : Nat → Nat → Int32} {sb : Nat → Nat → Int64} (hf : f_Mo_typeAt_54 nf s0 si sj sa sb = some (r0, vi, vj, va, vb)) {H : Heap} {locs : List Loc} {ls : Array Slot} (hP : va_P (dC, dI) classes (moW h0 r cA si sj sa sb) H) (hD : va_D A (moW h0 r cA si sj sa sb)) (hS : va_S A s.heap H locs) (hl : lv_has ls 3 []) : W p l e R s m args below meth c H locs 0 0 Q (F0 m 54 ls [.int s0]) := by
  obtain ⟨hx, hb, hr, hml, hown, hts, hlocks, hRf, hRl⟩ := id C0
  unfold f_Mo_typeAt_54 at hf
  cases rs hf
  exact hE _ _ _ _ d_Mo_typeAt_54 rfl hP hD hS
set_option maxHeartbeats 400000 in
set_option maxRecDepth 100000 in
theorem k_Mo_typeAt_28 (C0 : Cx p s m meth c args R b_Mo_typeAt "ZoneFilesModel" 3 (some .int) 1 21) (hST : ST A s s.heap) (hA : ∀ q, s.heap.size ≤ q → A q) (hK : va_K (dC, dI) classes (moT cA) s) (hE : ∀ (pc : Nat) (ls : Array Slot) (H : Heap) (locs : List Loc), decode b_Mo_typeAt pc = .ok (.ireturn, 1) → narrow .int (.int r0) = .int r0 → va_P (dC, dI) classes (moW h0 r cA vi vj va vb) H → va_D A (moW h0 r cA vi vj va vb) → va_S A s.heap H locs → W p l e R s m args below meth c H locs 0 0 Q (F0 m pc ls [.int r0])) {x1 : Int32} {x2 : Int32} {s0 : Int32} {si : Nat → Int32} {sj : Nat → Int64} {sa : Nat → Nat → Int32} {sb : Nat → Nat → Int64} (hf : f_Mo_typeAt_28 nf x1 x2 s0 si sj sa sb = some (r0, vi, vj, va, vb)) {H : Heap} {locs : List Loc} {ls : Array Slot} (hP : va_P (dC, dI) classes (moW h0 r cA si sj sa sb) H) (hD : va_D A (moW h0 r cA si sj sa sb)) (hS : va_S A s.heap H locs) (hl : lv_has ls 3 [(0, .ref h0), (1, .int x1), (2, .int x2)]) : W p l e R s m args below meth c H locs 0 0 Q (F0 m 28 ls [.int s0, .ref h0]) := by
  obtain ⟨hx, hb, hr, hml, hown, hts, hlocks, hRf, hRl⟩ := id C0
  unfold f_Mo_typeAt_28 at hf
  refine mp_3 hx hb hts hown hK hP hD hS d_Mo_typeAt_28 (fun H locs hP hD hS => ?_)
  refine lv_aload_n hx hb d_Mo_typeAt_31 rfl (lv_at hl 0 rfl) ?_
  refine mg_3 (v := s0) hx hb hts hown hK hP rfl d_Mo_typeAt_32 ?_
  refine lv_if_le (tgt := 42) hx hb d_Mo_typeAt_35 (by decide) (fun c_3 => ?_) (fun c_3 => ?_)
  · have hf := it_t c_3 hf
    refine lv_aload_n hx hb d_Mo_typeAt_42 rfl (lv_at hl 0 rfl) ?_
    refine mg_13 hx hb hts hown hK hP d_Mo_typeAt_43 ?_
    refine lv_sipush (v := 200) hx hb d_Mo_typeAt_46 (by decide) ?_
    refine lv_iload_n hx hb d_Mo_typeAt_49 rfl (lv_at hl 1 rfl) ?_
    refine lv_imul hx hb d_Mo_typeAt_50 ?_
    refine lv_iload_n hx hb d_Mo_typeAt_51 rfl (lv_at hl 2 rfl) ?_
    refine lv_iadd hx hb d_Mo_typeAt_52 ?_
    obtain ⟨c_4, hf⟩ := it_n hf
    refine ma_13 (v := sa 13 ((200 * x1) + x2).toNatClampNeg) hx hb hK hP c_4 rfl d_Mo_typeAt_53 ?_
    exact k_Mo_typeAt_54 C0 hST hA hK hE hf hP hD hS (lv_sub hl [] rfl)
  · have hf := it_f c_3 hf
    refine lv_iconst (v := 0) hx hb d_Mo_typeAt_38 (by decide) ?_
    refine lv_goto (tgt := 54) hx hb d_Mo_typeAt_39 (by decide) ?_
    exact k_Mo_typeAt_54 C0 hST hA hK hE hf hP hD hS (lv_sub hl [] rfl)
set_option maxHeartbeats 400000 in
set_option maxRecDepth 100000 in
theorem k_Mo_typeAt_23 (C0 : Cx p s m meth c args R b_Mo_typeAt "ZoneFilesModel" 3 (some .int) 1 21) (hST : ST A s s.heap) (hA : ∀ q, s.heap.size ≤ q → A q) (hK : va_K (dC, dI) classes (moT cA) s) (hE : ∀ (pc : Nat) (ls : Array Slot) (H : Heap) (locs : List Loc), decode b_Mo_typeAt pc = .ok (.ireturn, 1) → narrow .int (.int r0) = .int r0 → va_P (dC, dI) classes (moW h0 r cA vi vj va vb) H → va_D A (moW h0 r cA vi vj va vb) → va_S A s.heap H locs → W p l e R s m args below meth c H locs 0 0 Q (F0 m pc ls [.int r0])) {x1 : Int32} {x2 : Int32} {si : Nat → Int32} {sj : Nat → Int64} {sa : Nat → Nat → Int32} {sb : Nat → Nat → Int64} (hf : f_Mo_typeAt_23 nf x1 x2 si sj sa sb = some (r0, vi, vj, va, vb)) {H : Heap} {locs : List Loc} {ls : Array Slot} (hP : va_P (dC, dI) classes (moW h0 r cA si sj sa sb) H) (hD : va_D A (moW h0 r cA si sj sa sb)) (hS : va_S A s.heap H locs) (hl : lv_has ls 3 [(0, .ref h0), (1, .int x1), (2, .int x2)]) : W p l e R s m args below meth c H locs 0 0 Q (F0 m 23 ls [.ref h0]) := by
  obtain ⟨hx, hb, hr, hml, hown, hts, hlocks, hRf, hRl⟩ := id C0
  unfold f_Mo_typeAt_23 at hf
  refine lv_iconst (v := 1) hx hb d_Mo_typeAt_23 (by decide) ?_
  refine lv_goto (tgt := 28) hx hb d_Mo_typeAt_24 (by decide) ?_
  exact k_Mo_typeAt_28 C0 hST hA hK hE hf hP hD hS (lv_sub hl [0, 1, 2] rfl)
set_option maxHeartbeats 400000 in
set_option maxRecDepth 100000 in
theorem k_Mo_typeAt_0 (C0 : Cx p s m meth c args R b_Mo_typeAt "ZoneFilesModel" 3 (some .int) 1 21) (hST : ST A s s.heap) (hA : ∀ q, s.heap.size ≤ q → A q) (hK : va_K (dC, dI) classes (moT cA) s) (hE : ∀ (pc : Nat) (ls : Array Slot) (H : Heap) (locs : List Loc), decode b_Mo_typeAt pc = .ok (.ireturn, 1) → narrow .int (.int r0) = .int r0 → va_P (dC, dI) classes (moW h0 r cA vi vj va vb) H → va_D A (moW h0 r cA vi vj va vb) → va_S A s.heap H locs → W p l e R s m args below meth c H locs 0 0 Q (F0 m pc ls [.int r0])) {x1 : Int32} {x2 : Int32} {si : Nat → Int32} {sj : Nat → Int64} {sa : Nat → Nat → Int32} {sb : Nat → Nat → Int64} (hf : f_Mo_typeAt_0 nf x1 x2 si sj sa sb = some (r0, vi, vj, va, vb)) {H : Heap} {locs : List Loc} {ls : Array Slot} (hP : va_P (dC, dI) classes (moW h0 r cA si sj sa sb) H) (hD : va_D A (moW h0 r cA si sj sa sb)) (hS : va_S A s.heap H locs) (hl : lv_has ls 3 [(0, .ref h0), (1, .int x1), (2, .int x2)]) : W p l e R s m args below meth c H locs 0 0 Q (F0 m 0 ls []) := by
  obtain ⟨hx, hb, hr, hml, hown, hts, hlocks, hRf, hRl⟩ := id C0
  unfold f_Mo_typeAt_0 at hf
  refine lv_aload_n hx hb d_Mo_typeAt_0 rfl (lv_at hl 0 rfl) ?_
  refine lv_aload_n hx hb d_Mo_typeAt_1 rfl (lv_at hl 0 rfl) ?_
  refine lv_iload_n hx hb d_Mo_typeAt_2 rfl (lv_at hl 1 rfl) ?_
  obtain ⟨r_1, hc, hf⟩ := ob hf
  refine cl_S (v := (some (.int r_1))) (st1 := [.int r_1, .ref h0]) (va_runV (As := [.int x1]) (rest := [.ref h0]) ⟨hx, hb, hml, hown, hts⟩ (c_Mo_noZone l dC dI h0 r cA nf x1 si sj sa sb hc) (cwV 1 hts (gdV m_8_45 m_8_47 msel_83 m_1_10 m_8_48) rfl rfl rfl (by decide +kernel) ⟨Nat.le_trans (Nat.le_of_ble_eq_true rfl) hRf, Nat.le_trans (Nat.le_of_ble_eq_true rfl) hRl⟩) ((RO.pre hP hK (hST.ro hS)).vir (va_recv hK hP (ci := 10) (q0 := 0) rfl rfl)) rfl rfl hl.1 rfl (lv_room (Nat.le_of_ble_eq_true rfl)) d_Mo_typeAt_3 ⟨Nat.zero_le _, Nat.zero_le _⟩) rfl ?_
  refine lv_if_ne (tgt := 23) hx hb d_Mo_typeAt_6 (by decide) (fun c_2 => ?_) (fun c_2 => ?_)
  · have hf := it_f c_2 hf
    exact k_Mo_typeAt_23 C0 hST hA hK hE hf hP hD hS (lv_sub hl [0, 1, 2] rfl)
  · have hf := it_t c_2 hf
    refine lv_iload_n hx hb d_Mo_typeAt_9 rfl (lv_at hl 2 rfl) ?_
    refine lv_if_lt (tgt := 23) hx hb d_Mo_typeAt_10 (by decide) (fun c_5 => ?_) (fun c_5 => ?_)
    · have hf := it_t c_5 hf
      exact k_Mo_typeAt_23 C0 hST hA hK hE hf hP hD hS (lv_sub hl [0, 1, 2] rfl)
    · have hf := it_f c_5 hf
      refine lv_iload_n hx hb d_Mo_typeAt_13 rfl (lv_at hl 2 rfl) ?_
      refine lv_aload_n hx hb d_Mo_typeAt_14 rfl (lv_at hl 0 rfl) ?_
      refine mg_5 hx hb hts hown hK hP d_Mo_typeAt_15 ?_
      refine lv_iload_n hx hb d_Mo_typeAt_18 rfl (lv_at hl 1 rfl) ?_
      obtain ⟨c_6, hf⟩ := it_n hf
      refine ma_5 (v := sa 5 x1.toNatClampNeg) hx hb hK hP c_6 rfl d_Mo_typeAt_19 ?_
      refine lv_icmp_lt (tgt := 27) hx hb d_Mo_typeAt_20 (by decide) (fun c_7 => ?_) (fun c_7 => ?_)
      · have hf := it_t c_7 hf
        refine lv_iconst (v := 0) hx hb d_Mo_typeAt_27 (by decide) ?_
        exact k_Mo_typeAt_28 C0 hST hA hK hE hf hP hD hS (lv_sub hl [0, 1, 2] rfl)
      · have hf := it_f c_7 hf
        exact k_Mo_typeAt_23 C0 hST hA hK hE hf hP hD hS (lv_sub hl [0, 1, 2] rfl)
end
set_option maxHeartbeats 400000 in
set_option maxRecDepth 100000 in
theorem c_Mo_typeAt (l : Launch) (dC : Nat → ClassId) (dI : Nat → Nat → Nat) (h0 : Nat) (r : Nat → Nat) (cA : Nat → ClassId) (sz : Nat) (nf : Nat) (p0 : Int32) (p1 : Int32) (si : Nat → Int32) (sj : Nat → Int64) (sa : Nat → Nat → Int32) (sb : Nat → Nat → Int64) {r0 : Int32} {vi : Nat → Int32} {vj : Nat → Int64} {va : Nat → Nat → Int32} {vb : Nat → Nat → Int64} (hf : f_Mo_typeAt nf p0 p1 si sj sa sb = some (r0, vi, vj, va, vb)) : Met l y_Mo_typeAt (wd y_Mo_typeAt b_Mo_typeAt 3 (some .int)) ({ frames := 1, cells := 0, slots := 0, locals := 21 }) (MU dC dI (moW h0 r cA si sj sa sb) (moT cA) sz [.ref h0, .int p0, .int p1]) (MV (some (.int r0)) (fun t => va_P (dC, dI) classes (moW h0 r cA vi vj va vb) t.heap) (va_A (moW h0 r cA si sj sa sb) sz)) 0 0 (va_A (moW h0 r cA si sj sa sb) sz) :=
  met_M (plainFor_of_name (by decide)) (Nat.le_of_ble_eq_true rfl) (fun p e R s m args below meth c ls hRc hRs hsz hin C0 hST hK hP hD hl => by
    obtain ⟨hx, hb, hr, hml, hown, hts, hlocks, hRf, hRl⟩ := id C0
    subst hsz
    have hA : ∀ q : Nat, s.heap.size ≤ q → va_A (moW h0 r cA si sj sa sb) s.heap.size q := fun q h => Or.inr h
    have hS : va_S (va_A (moW h0 r cA si sj sa sb) s.heap.size) s.heap s.heap [] := va_S.rf
    unfold f_Mo_typeAt at hf
    exact k_Mo_typeAt_0 C0 hST hA hK (fun pc ls H locs hd hn hP hD hS => W.zret hx hb hr hn (fun t ht hW => ⟨⟨rfl, mo_end ht hP⟩, hS.F ht⟩) hS.2.2 hd) hf hP hD hS (lv_sub hl [0, 1, 2] rfl))
-- ZoneFilesModel.type(III)I
def f_Mo_type_143 (nf : Nat) (s0 : Int32) (si : Nat → Int32) (sj : Nat → Int64) (sa : Nat → Nat → Int32) (sb : Nat → Nat → Int64) : Option (Int32 × (Nat → Int32) × (Nat → Int64) × (Nat → Nat → Int32) × (Nat → Nat → Int64)) :=
  some (s0, si, sj, sa, sb)
def f_Mo_type_164 (nf : Nat) (s0 : Int32) (si : Nat → Int32) (sj : Nat → Int64) (sa : Nat → Nat → Int32) (sb : Nat → Nat → Int64) : Option (Int32 × (Nat → Int32) × (Nat → Int64) × (Nat → Nat → Int32) × (Nat → Nat → Int64)) :=
  some (s0, si, sj, sa, sb)
def f_Mo_type_37 (nf : Nat) (x1 : Int32) (x2 : Int32) (x3 : Int32) (s0 : Int32) (si : Nat → Int32) (sj : Nat → Int64) (sa : Nat → Nat → Int32) (sb : Nat → Nat → Int64) : Option (Int32 × (Nat → Int32) × (Nat → Int64) × (Nat → Nat → Int32) × (Nat → Nat → Int64)) :=
  if s0 ≤ 0 then
  if x3 = 0 then
    if ((40 * x1) + x2) < 0 ∨ 200 ≤ ((40 * x1) + x2).toNatClampNeg then none else
      some (sa 14 ((40 * x1) + x2).toNatClampNeg, va_up si 3 s0, sj, sa, sb)
    else
    if x3 = 1 then
      if ((40 * x1) + x2) < 0 ∨ 200 ≤ ((40 * x1) + x2).toNatClampNeg then none else
        some (sa 15 ((40 * x1) + x2).toNatClampNeg, va_up si 3 s0, sj, sa, sb)
      else
      if x3 = 2 then
        if ((40 * x1) + x2) < 0 ∨ 200 ≤ ((40 * x1) + x2).toNatClampNeg then none else
          some (sa 16 ((40 * x1) + x2).toNatClampNeg, va_up si 3 s0, sj, sa, sb)
        else
        if x3 = 3 then
          (f_Mo_nameSize nf x1 x2 (va_up si 3 s0) sj sa sb).bind fun r_11 =>
            some (r_11, va_up si 3 s0, sj, sa, sb)
          else
          if x3 = 4 then
            if x1 < 0 ∨ 5 ≤ x1.toNatClampNeg then none else
              if (sa 9 x1.toNatClampNeg) ≤ 0 then
              f_Mo_type_143 nf 0 (va_up si 3 s0) sj sa sb
              else
              if ((40 * x1) + x2) < 0 ∨ 200 ≤ ((40 * x1) + x2).toNatClampNeg then none else
                f_Mo_type_143 nf (sa 20 ((40 * x1) + x2).toNatClampNeg) (va_up si 3 s0) sj sa sb
            else
            if x1 < 0 ∨ 5 ≤ x1.toNatClampNeg then none else
              if (sa 10 x1.toNatClampNeg) ≤ 0 then
              f_Mo_type_164 nf 0 (va_up si 3 s0) sj sa sb
              else
              if ((40 * x1) + x2) < 0 ∨ 200 ≤ ((40 * x1) + x2).toNatClampNeg then none else
                f_Mo_type_164 nf (sa 21 ((40 * x1) + x2).toNatClampNeg) (va_up si 3 s0) sj sa sb
  else
  some (0, va_up si 3 s0, sj, sa, sb)
def f_Mo_type_32 (nf : Nat) (x1 : Int32) (x2 : Int32) (x3 : Int32) (si : Nat → Int32) (sj : Nat → Int64) (sa : Nat → Nat → Int32) (sb : Nat → Nat → Int64) : Option (Int32 × (Nat → Int32) × (Nat → Int64) × (Nat → Nat → Int32) × (Nat → Nat → Int64)) :=
  f_Mo_type_37 nf x1 x2 x3 1 si sj sa sb
def f_Mo_type_0 (nf : Nat) (x1 : Int32) (x2 : Int32) (x3 : Int32) (si : Nat → Int32) (sj : Nat → Int64) (sa : Nat → Nat → Int32) (sb : Nat → Nat → Int64) : Option (Int32 × (Nat → Int32) × (Nat → Int64) × (Nat → Nat → Int32) × (Nat → Nat → Int64)) :=
  (f_Mo_noZone nf x1 si sj sa sb).bind fun r_1 =>
  if r_1 = 0 then
  if x2 < 0 then
    f_Mo_type_32 nf x1 x2 x3 si sj sa sb
    else
    if x1 < 0 ∨ 5 ≤ x1.toNatClampNeg then none else
      if (sa 6 x1.toNatClampNeg) ≤ x2 then
      f_Mo_type_32 nf x1 x2 x3 si sj sa sb
      else
      if x3 < 0 then
        f_Mo_type_32 nf x1 x2 x3 si sj sa sb
        else
        if x3 ≤ (5 : Int32) then
          f_Mo_type_37 nf x1 x2 x3 0 si sj sa sb
          else
          f_Mo_type_32 nf x1 x2 x3 si sj sa sb
  else
  f_Mo_type_32 nf x1 x2 x3 si sj sa sb
def f_Mo_type (nf : Nat) (p0 : Int32) (p1 : Int32) (p2 : Int32) (si : Nat → Int32) (sj : Nat → Int64) (sa : Nat → Nat → Int32) (sb : Nat → Nat → Int64) : Option (Int32 × (Nat → Int32) × (Nat → Int64) × (Nat → Nat → Int32) × (Nat → Nat → Int64)) :=
  f_Mo_type_0 nf p0 p1 p2 si sj sa sb
section
variable {p : Program} {l : Launch} {e : Env} {R : Room} {s : State} {m : MethodId} {args : Array Value} {below : List Frame} {meth : Method} {c : Code} {Q : State → Prop} {dC : Nat → ClassId} {dI : Nat → Nat → Nat} {nf : Nat} {A : Nat → Prop} {h0 : Nat} {r : Nat → Nat} {cA : Nat → ClassId}
variable {r0 : Int32} {vi : Nat → Int32} {vj : Nat → Int64} {va : Nat → Nat → Int32} {vb : Nat → Nat → Int64}
set_option maxHeartbeats 400000 in
set_option maxRecDepth 100000 in
theorem k_Mo_type_143 (C0 : Cx p s m meth c args R b_Mo_type "ZoneFilesModel" 5 (some .int) 1 24) (hST : ST A s s.heap) (hA : ∀ q, s.heap.size ≤ q → A q) (hK : va_K (dC, dI) classes (moT cA) s) (hE : ∀ (pc : Nat) (ls : Array Slot) (H : Heap) (locs : List Loc), decode b_Mo_type pc = .ok (.ireturn, 1) → narrow .int (.int r0) = .int r0 → va_P (dC, dI) classes (moW h0 r cA vi vj va vb) H → va_D A (moW h0 r cA vi vj va vb) → va_S A s.heap H locs → W p l e R s m args below meth c H locs 0 0 Q (F0 m pc ls [.int r0])) {s0 : Int32} {si : Nat → Int32} {sj : Nat → Int64} {sa : Nat → Nat → Int32} {sb : Nat → Nat → Int64} (hf : f_Mo_type_143 nf s0 si sj sa sb = some (r0, vi, vj, va, vb)) {H : Heap} {locs : List Loc} {ls : Array Slot} (hP : va_P (dC, dI) classes (moW h0 r cA si sj sa sb) H) (hD : va_D A (moW h0 r cA si sj sa sb)) (hS : va_S A s.heap H locs) (hl : lv_has ls 5 []) : W p l e R s m args below meth c H locs 0 0 Q (F0 m 143 ls [.int s0]) := by
  obtain ⟨hx, hb, hr, hml, hown, hts, hlocks, hRf, hRl⟩ := id C0
  unfold f_Mo_type_143 at hf
  cases rs hf
  exact hE _ _ _ _ d_Mo_type_143 rfl hP hD hS
set_option maxHeartbeats 400000 in
set_option maxRecDepth 100000 in
theorem k_Mo_type_164 (C0 : Cx p s m meth c args R b_Mo_type "ZoneFilesModel" 5 (some .int) 1 24) (hST : ST A s s.heap) (hA : ∀ q, s.heap.size ≤ q → A q) (hK : va_K (dC, dI) classes (moT cA) s) (hE : ∀ (pc : Nat) (ls : Array Slot) (H : Heap) (locs : List Loc), decode b_Mo_type pc = .ok (.ireturn, 1) → narrow .int (.int r0) = .int r0 → va_P (dC, dI) classes (moW h0 r cA vi vj va vb) H → va_D A (moW h0 r cA vi vj va vb) → va_S A s.heap H locs → W p l e R s m args below meth c H locs 0 0 Q (F0 m pc ls [.int r0])) {s0 : Int32} {si : Nat → Int32} {sj : Nat → Int64} {sa : Nat → Nat → Int32} {sb : Nat → Nat → Int64} (hf : f_Mo_type_164 nf s0 si sj sa sb = some (r0, vi, vj, va, vb)) {H : Heap} {locs : List Loc} {ls : Array Slot} (hP : va_P (dC, dI) classes (moW h0 r cA si sj sa sb) H) (hD : va_D A (moW h0 r cA si sj sa sb)) (hS : va_S A s.heap H locs) (hl : lv_has ls 5 []) : W p l e R s m args below meth c H locs 0 0 Q (F0 m 164 ls [.int s0]) := by
  obtain ⟨hx, hb, hr, hml, hown, hts, hlocks, hRf, hRl⟩ := id C0
  unfold f_Mo_type_164 at hf
  cases rs hf
  exact hE _ _ _ _ d_Mo_type_164 rfl hP hD hS
set_option maxHeartbeats 400000 in
set_option maxRecDepth 100000 in
theorem k_Mo_type_37 (C0 : Cx p s m meth c args R b_Mo_type "ZoneFilesModel" 5 (some .int) 1 24) (hST : ST A s s.heap) (hA : ∀ q, s.heap.size ≤ q → A q) (hK : va_K (dC, dI) classes (moT cA) s) (hE : ∀ (pc : Nat) (ls : Array Slot) (H : Heap) (locs : List Loc), decode b_Mo_type pc = .ok (.ireturn, 1) → narrow .int (.int r0) = .int r0 → va_P (dC, dI) classes (moW h0 r cA vi vj va vb) H → va_D A (moW h0 r cA vi vj va vb) → va_S A s.heap H locs → W p l e R s m args below meth c H locs 0 0 Q (F0 m pc ls [.int r0])) {x1 : Int32} {x2 : Int32} {x3 : Int32} {s0 : Int32} {si : Nat → Int32} {sj : Nat → Int64} {sa : Nat → Nat → Int32} {sb : Nat → Nat → Int64} (hf : f_Mo_type_37 nf x1 x2 x3 s0 si sj sa sb = some (r0, vi, vj, va, vb)) {H : Heap} {locs : List Loc} {ls : Array Slot} (hP : va_P (dC, dI) classes (moW h0 r cA si sj sa sb) H) (hD : va_D A (moW h0 r cA si sj sa sb)) (hS : va_S A s.heap H locs) (hl : lv_has ls 5 [(0, .ref h0), (1, .int x1), (2, .int x2), (3, .int x3)]) : W p l e R s m args below meth c H locs 0 0 Q (F0 m 37 ls [.int s0, .ref h0]) := by
  obtain ⟨hx, hb, hr, hml, hown, hts, hlocks, hRf, hRl⟩ := id C0
  unfold f_Mo_type_37 at hf
  refine mp_3 hx hb hts hown hK hP hD hS d_Mo_type_37 (fun H locs hP hD hS => ?_)
  refine lv_aload_n hx hb d_Mo_type_40 rfl (lv_at hl 0 rfl) ?_
  refine mg_3 (v := s0) hx hb hts hown hK hP rfl d_Mo_type_41 ?_
  refine lv_if_le (tgt := 49) hx hb d_Mo_type_44 (by decide) (fun c_3 => ?_) (fun c_3 => ?_)
  · have hf := it_t c_3 hf
    refine lv_bipush (v := 40) hx hb d_Mo_type_49 (by decide) ?_
    refine lv_iload_n hx hb d_Mo_type_51 rfl (lv_at hl 1 rfl) ?_
    refine lv_imul hx hb d_Mo_type_52 ?_
    refine lv_iload_n hx hb d_Mo_type_53 rfl (lv_at hl 2 rfl) ?_
    refine lv_iadd hx hb d_Mo_type_54 ?_
    refine lv_istore (lv' := [(4, .int ((40 * x1) + x2)), (0, .ref h0), (1, .int x1), (2, .int x2), (3, .int x3)]) hx hb d_Mo_type_55 hl (by decide) rfl (fun ls hl => ?_)
    refine lv_iload_n hx hb d_Mo_type_57 rfl (lv_at hl 4 rfl) ?_
    by_cases c_4 : x3 = 0
    · have hf := it_t c_4 hf
      refine lv_tableIn (tgt := 92) hx hb d_Mo_type_58 (by rw [c_4]; decide) (by rw [c_4]; decide) (by rw [c_4]; rfl) (by decide) ?_
      refine lv_aload_n hx hb d_Mo_type_92 rfl (lv_at hl 1 rfl) ?_
      refine mg_14 hx hb hts hown hK hP d_Mo_type_93 ?_
      refine lv_iload hx hb d_Mo_type_96 (lv_at hl 0 rfl) ?_
      obtain ⟨c_5, hf⟩ := it_n hf
      refine ma_14 (v := sa 14 ((40 * x1) + x2).toNatClampNeg) hx hb hK hP c_5 rfl d_Mo_type_98 ?_
      cases rs hf
      exact hE _ _ _ _ d_Mo_type_99 rfl hP hD hS
    · have hf := it_f c_4 hf
      by_cases c_6 : x3 = 1
      · have hf := it_t c_6 hf
        refine lv_tableIn (tgt := 100) hx hb d_Mo_type_58 (by rw [c_6]; decide) (by rw [c_6]; decide) (by rw [c_6]; rfl) (by decide) ?_
        refine lv_aload_n hx hb d_Mo_type_100 rfl (lv_at hl 1 rfl) ?_
        refine mg_15 hx hb hts hown hK hP d_Mo_type_101 ?_
        refine lv_iload hx hb d_Mo_type_104 (lv_at hl 0 rfl) ?_
        obtain ⟨c_7, hf⟩ := it_n hf
        refine ma_15 (v := sa 15 ((40 * x1) + x2).toNatClampNeg) hx hb hK hP c_7 rfl d_Mo_type_106 ?_
        cases rs hf
        exact hE _ _ _ _ d_Mo_type_107 rfl hP hD hS
      · have hf := it_f c_6 hf
        by_cases c_8 : x3 = 2
        · have hf := it_t c_8 hf
          refine lv_tableIn (tgt := 108) hx hb d_Mo_type_58 (by rw [c_8]; decide) (by rw [c_8]; decide) (by rw [c_8]; rfl) (by decide) ?_
          refine lv_aload_n hx hb d_Mo_type_108 rfl (lv_at hl 1 rfl) ?_
          refine mg_16 hx hb hts hown hK hP d_Mo_type_109 ?_
          refine lv_iload hx hb d_Mo_type_112 (lv_at hl 0 rfl) ?_
          obtain ⟨c_9, hf⟩ := it_n hf
          refine ma_16 (v := sa 16 ((40 * x1) + x2).toNatClampNeg) hx hb hK hP c_9 rfl d_Mo_type_114 ?_
          cases rs hf
          exact hE _ _ _ _ d_Mo_type_115 rfl hP hD hS
        · have hf := it_f c_8 hf
          by_cases c_10 : x3 = 3
          · have hf := it_t c_10 hf
            refine lv_tableIn (tgt := 116) hx hb d_Mo_type_58 (by rw [c_10]; decide) (by rw [c_10]; decide) (by rw [c_10]; rfl) (by decide) ?_
            refine lv_aload_n hx hb d_Mo_type_116 rfl (lv_at hl 1 rfl) ?_
            refine lv_iload_n hx hb d_Mo_type_117 rfl (lv_at hl 2 rfl) ?_
            refine lv_iload_n hx hb d_Mo_type_118 rfl (lv_at hl 3 rfl) ?_
            obtain ⟨r_11, hc, hf⟩ := ob hf
            refine cl_S (v := (some (.int r_11))) (st1 := [.int r_11]) (va_runV (As := [.int x1, .int x2]) (rest := []) ⟨hx, hb, hml, hown, hts⟩ (c_Mo_nameSize l dC dI h0 r cA nf x1 x2 (va_up si 3 s0) sj sa sb hc) (cwV 2 hts (gdV m_7_175 m_7_177 msel_68 m_1_10 m_7_178) rfl rfl rfl (by decide +kernel) ⟨Nat.le_trans (Nat.le_of_ble_eq_true rfl) hRf, Nat.le_trans (Nat.le_of_ble_eq_true rfl) hRl⟩) ((RO.pre hP hK (hST.ro hS)).vir (va_recv hK hP (ci := 10) (q0 := 0) rfl rfl)) rfl rfl hl.1 rfl (lv_room (Nat.le_of_ble_eq_true rfl)) d_Mo_type_119 ⟨Nat.zero_le _, Nat.zero_le _⟩) rfl ?_
            cases rs hf
            exact hE _ _ _ _ d_Mo_type_122 rfl hP hD hS
          · have hf := it_f c_10 hf
            by_cases c_12 : x3 = 4
            · have hf := it_t c_12 hf
              refine lv_tableIn (tgt := 123) hx hb d_Mo_type_58 (by rw [c_12]; decide) (by rw [c_12]; decide) (by rw [c_12]; rfl) (by decide) ?_
              refine lv_aload_n hx hb d_Mo_type_123 rfl (lv_at hl 1 rfl) ?_
              refine mg_9 hx hb hts hown hK hP d_Mo_type_124 ?_
              refine lv_iload_n hx hb d_Mo_type_127 rfl (lv_at hl 2 rfl) ?_
              obtain ⟨c_13, hf⟩ := it_n hf
              refine ma_9 (v := sa 9 x1.toNatClampNeg) hx hb hK hP c_13 rfl d_Mo_type_128 ?_
              refine lv_if_le (tgt := 142) hx hb d_Mo_type_129 (by decide) (fun c_14 => ?_) (fun c_14 => ?_)
              · have hf := it_t c_14 hf
                refine lv_iconst (v := 0) hx hb d_Mo_type_142 (by decide) ?_
                exact k_Mo_type_143 C0 hST hA hK hE hf hP hD hS (lv_sub hl [] rfl)
              · have hf := it_f c_14 hf
                refine lv_aload_n hx hb d_Mo_type_132 rfl (lv_at hl 1 rfl) ?_
                refine mg_20 hx hb hts hown hK hP d_Mo_type_133 ?_
                refine lv_iload hx hb d_Mo_type_136 (lv_at hl 0 rfl) ?_
                obtain ⟨c_15, hf⟩ := it_n hf
                refine ma_20 (v := sa 20 ((40 * x1) + x2).toNatClampNeg) hx hb hK hP c_15 rfl d_Mo_type_138 ?_
                refine lv_goto (tgt := 143) hx hb d_Mo_type_139 (by decide) ?_
                exact k_Mo_type_143 C0 hST hA hK hE hf hP hD hS (lv_sub hl [] rfl)
            · have hf := it_f c_12 hf
              have hsw : x3.toInt < 0 ∨ 4 < x3.toInt := by
                have hsw0 := lv_neT c_4 (a := 0) rfl
                have hsw1 := lv_neT c_6 (a := 1) rfl
                have hsw2 := lv_neT c_8 (a := 2) rfl
                have hsw3 := lv_neT c_10 (a := 3) rfl
                have hsw4 := lv_neT c_12 (a := 4) rfl
                omega
              refine lv_tableOut (tgt := 144) hx hb d_Mo_type_58 hsw (by decide) ?_
              refine lv_aload_n hx hb d_Mo_type_144 rfl (lv_at hl 1 rfl) ?_
              refine mg_10 hx hb hts hown hK hP d_Mo_type_145 ?_
              refine lv_iload_n hx hb d_Mo_type_148 rfl (lv_at hl 2 rfl) ?_
              obtain ⟨c_16, hf⟩ := it_n hf
              refine ma_10 (v := sa 10 x1.toNatClampNeg) hx hb hK hP c_16 rfl d_Mo_type_149 ?_
              refine lv_if_le (tgt := 163) hx hb d_Mo_type_150 (by decide) (fun c_17 => ?_) (fun c_17 => ?_)
              · have hf := it_t c_17 hf
                refine lv_iconst (v := 0) hx hb d_Mo_type_163 (by decide) ?_
                exact k_Mo_type_164 C0 hST hA hK hE hf hP hD hS (lv_sub hl [] rfl)
              · have hf := it_f c_17 hf
                refine lv_aload_n hx hb d_Mo_type_153 rfl (lv_at hl 1 rfl) ?_
                refine mg_21 hx hb hts hown hK hP d_Mo_type_154 ?_
                refine lv_iload hx hb d_Mo_type_157 (lv_at hl 0 rfl) ?_
                obtain ⟨c_18, hf⟩ := it_n hf
                refine ma_21 (v := sa 21 ((40 * x1) + x2).toNatClampNeg) hx hb hK hP c_18 rfl d_Mo_type_159 ?_
                refine lv_goto (tgt := 164) hx hb d_Mo_type_160 (by decide) ?_
                exact k_Mo_type_164 C0 hST hA hK hE hf hP hD hS (lv_sub hl [] rfl)
  · have hf := it_f c_3 hf
    refine lv_iconst (v := 0) hx hb d_Mo_type_47 (by decide) ?_
    cases rs hf
    exact hE _ _ _ _ d_Mo_type_48 rfl hP hD hS
set_option maxHeartbeats 400000 in
set_option maxRecDepth 100000 in
theorem k_Mo_type_32 (C0 : Cx p s m meth c args R b_Mo_type "ZoneFilesModel" 5 (some .int) 1 24) (hST : ST A s s.heap) (hA : ∀ q, s.heap.size ≤ q → A q) (hK : va_K (dC, dI) classes (moT cA) s) (hE : ∀ (pc : Nat) (ls : Array Slot) (H : Heap) (locs : List Loc), decode b_Mo_type pc = .ok (.ireturn, 1) → narrow .int (.int r0) = .int r0 → va_P (dC, dI) classes (moW h0 r cA vi vj va vb) H → va_D A (moW h0 r cA vi vj va vb) → va_S A s.heap H locs → W p l e R s m args below meth c H locs 0 0 Q (F0 m pc ls [.int r0])) {x1 : Int32} {x2 : Int32} {x3 : Int32} {si : Nat → Int32} {sj : Nat → Int64} {sa : Nat → Nat → Int32} {sb : Nat → Nat → Int64} (hf : f_Mo_type_32 nf x1 x2 x3 si sj sa sb = some (r0, vi, vj, va, vb)) {H : Heap} {locs : List Loc} {ls : Array Slot} (hP : va_P (dC, dI) classes (moW h0 r cA si sj sa sb) H) (hD : va_D A (moW h0 r cA si sj sa sb)) (hS : va_S A s.heap H locs) (hl : lv_has ls 5 [(0, .ref h0), (1, .int x1), (2, .int x2), (3, .int x3)]) : W p l e R s m args below meth c H locs 0 0 Q (F0 m 32 ls [.ref h0]) := by
  obtain ⟨hx, hb, hr, hml, hown, hts, hlocks, hRf, hRl⟩ := id C0
  unfold f_Mo_type_32 at hf
  refine lv_iconst (v := 1) hx hb d_Mo_type_32 (by decide) ?_
  refine lv_goto (tgt := 37) hx hb d_Mo_type_33 (by decide) ?_
  exact k_Mo_type_37 C0 hST hA hK hE hf hP hD hS (lv_sub hl [0, 1, 2, 3] rfl)
set_option maxHeartbeats 400000 in
set_option maxRecDepth 100000 in
theorem k_Mo_type_0 (C0 : Cx p s m meth c args R b_Mo_type "ZoneFilesModel" 5 (some .int) 1 24) (hST : ST A s s.heap) (hA : ∀ q, s.heap.size ≤ q → A q) (hK : va_K (dC, dI) classes (moT cA) s) (hE : ∀ (pc : Nat) (ls : Array Slot) (H : Heap) (locs : List Loc), decode b_Mo_type pc = .ok (.ireturn, 1) → narrow .int (.int r0) = .int r0 → va_P (dC, dI) classes (moW h0 r cA vi vj va vb) H → va_D A (moW h0 r cA vi vj va vb) → va_S A s.heap H locs → W p l e R s m args below meth c H locs 0 0 Q (F0 m pc ls [.int r0])) {x1 : Int32} {x2 : Int32} {x3 : Int32} {si : Nat → Int32} {sj : Nat → Int64} {sa : Nat → Nat → Int32} {sb : Nat → Nat → Int64} (hf : f_Mo_type_0 nf x1 x2 x3 si sj sa sb = some (r0, vi, vj, va, vb)) {H : Heap} {locs : List Loc} {ls : Array Slot} (hP : va_P (dC, dI) classes (moW h0 r cA si sj sa sb) H) (hD : va_D A (moW h0 r cA si sj sa sb)) (hS : va_S A s.heap H locs) (hl : lv_has ls 5 [(0, .ref h0), (1, .int x1), (2, .int x2), (3, .int x3)]) : W p l e R s m args below meth c H locs 0 0 Q (F0 m 0 ls []) := by
  obtain ⟨hx, hb, hr, hml, hown, hts, hlocks, hRf, hRl⟩ := id C0
  unfold f_Mo_type_0 at hf
  refine lv_aload_n hx hb d_Mo_type_0 rfl (lv_at hl 0 rfl) ?_
  refine lv_aload_n hx hb d_Mo_type_1 rfl (lv_at hl 0 rfl) ?_
  refine lv_iload_n hx hb d_Mo_type_2 rfl (lv_at hl 1 rfl) ?_
  obtain ⟨r_1, hc, hf⟩ := ob hf
  refine cl_S (v := (some (.int r_1))) (st1 := [.int r_1, .ref h0]) (va_runV (As := [.int x1]) (rest := [.ref h0]) ⟨hx, hb, hml, hown, hts⟩ (c_Mo_noZone l dC dI h0 r cA nf x1 si sj sa sb hc) (cwV 1 hts (gdV m_8_45 m_8_47 msel_83 m_1_10 m_8_48) rfl rfl rfl (by decide +kernel) ⟨Nat.le_trans (Nat.le_of_ble_eq_true rfl) hRf, Nat.le_trans (Nat.le_of_ble_eq_true rfl) hRl⟩) ((RO.pre hP hK (hST.ro hS)).vir (va_recv hK hP (ci := 10) (q0 := 0) rfl rfl)) rfl rfl hl.1 rfl (lv_room (Nat.le_of_ble_eq_true rfl)) d_Mo_type_3 ⟨Nat.zero_le _, Nat.zero_le _⟩) rfl ?_
  refine lv_if_ne (tgt := 32) hx hb d_Mo_type_6 (by decide) (fun c_2 => ?_) (fun c_2 => ?_)
  · have hf := it_f c_2 hf
    exact k_Mo_type_32 C0 hST hA hK hE hf hP hD hS (lv_sub hl [0, 1, 2, 3] rfl)
  · have hf := it_t c_2 hf
    refine lv_iload_n hx hb d_Mo_type_9 rfl (lv_at hl 2 rfl) ?_
    refine lv_if_lt (tgt := 32) hx hb d_Mo_type_10 (by decide) (fun c_19 => ?_) (fun c_19 => ?_)
    · have hf := it_t c_19 hf
      exact k_Mo_type_32 C0 hST hA hK hE hf hP hD hS (lv_sub hl [0, 1, 2, 3] rfl)
    · have hf := it_f c_19 hf
      refine lv_iload_n hx hb d_Mo_type_13 rfl (lv_at hl 2 rfl) ?_
      refine lv_aload_n hx hb d_Mo_type_14 rfl (lv_at hl 0 rfl) ?_
      refine mg_6 hx hb hts hown hK hP d_Mo_type_15 ?_
      refine lv_iload_n hx hb d_Mo_type_18 rfl (lv_at hl 1 rfl) ?_
      obtain ⟨c_20, hf⟩ := it_n hf
      refine ma_6 (v := sa 6 x1.toNatClampNeg) hx hb hK hP c_20 rfl d_Mo_type_19 ?_
      refine lv_icmp_ge (tgt := 32) hx hb d_Mo_type_20 (by decide) (fun c_21 => ?_) (fun c_21 => ?_)
      · have hf := it_t c_21 hf
        exact k_Mo_type_32 C0 hST hA hK hE hf hP hD hS (lv_sub hl [0, 1, 2, 3] rfl)
      · have hf := it_f c_21 hf
        refine lv_iload_n hx hb d_Mo_type_23 rfl (lv_at hl 3 rfl) ?_
        refine lv_if_lt (tgt := 32) hx hb d_Mo_type_24 (by decide) (fun c_22 => ?_) (fun c_22 => ?_)
        · have hf := it_t c_22 hf
          exact k_Mo_type_32 C0 hST hA hK hE hf hP hD hS (lv_sub hl [0, 1, 2, 3] rfl)
        · have hf := it_f c_22 hf
          refine lv_iload_n hx hb d_Mo_type_27 rfl (lv_at hl 3 rfl) ?_
          refine lv_iconst (v := 5) hx hb d_Mo_type_28 (by decide) ?_
          refine lv_icmp_le (tgt := 36) hx hb d_Mo_type_29 (by decide) (fun c_23 => ?_) (fun c_23 => ?_)
          · have hf := it_t c_23 hf
            refine lv_iconst (v := 0) hx hb d_Mo_type_36 (by decide) ?_
            exact k_Mo_type_37 C0 hST hA hK hE hf hP hD hS (lv_sub hl [0, 1, 2, 3] rfl)
          · have hf := it_f c_23 hf
            exact k_Mo_type_32 C0 hST hA hK hE hf hP hD hS (lv_sub hl [0, 1, 2, 3] rfl)
end
set_option maxHeartbeats 400000 in
set_option maxRecDepth 100000 in
theorem c_Mo_type (l : Launch) (dC : Nat → ClassId) (dI : Nat → Nat → Nat) (h0 : Nat) (r : Nat → Nat) (cA : Nat → ClassId) (sz : Nat) (nf : Nat) (p0 : Int32) (p1 : Int32) (p2 : Int32) (si : Nat → Int32) (sj : Nat → Int64) (sa : Nat → Nat → Int32) (sb : Nat → Nat → Int64) {r0 : Int32} {vi : Nat → Int32} {vj : Nat → Int64} {va : Nat → Nat → Int32} {vb : Nat → Nat → Int64} (hf : f_Mo_type nf p0 p1 p2 si sj sa sb = some (r0, vi, vj, va, vb)) : Met l y_Mo_type (wd y_Mo_type b_Mo_type 5 (some .int)) ({ frames := 1, cells := 0, slots := 0, locals := 24 }) (MU dC dI (moW h0 r cA si sj sa sb) (moT cA) sz [.ref h0, .int p0, .int p1, .int p2]) (MV (some (.int r0)) (fun t => va_P (dC, dI) classes (moW h0 r cA vi vj va vb) t.heap) (va_A (moW h0 r cA si sj sa sb) sz)) 0 0 (va_A (moW h0 r cA si sj sa sb) sz) :=
  met_M (plainFor_of_name (by decide)) (Nat.le_of_ble_eq_true rfl) (fun p e R s m args below meth c ls hRc hRs hsz hin C0 hST hK hP hD hl => by
    obtain ⟨hx, hb, hr, hml, hown, hts, hlocks, hRf, hRl⟩ := id C0
    subst hsz
    have hA : ∀ q : Nat, s.heap.size ≤ q → va_A (moW h0 r cA si sj sa sb) s.heap.size q := fun q h => Or.inr h
    have hS : va_S (va_A (moW h0 r cA si sj sa sb) s.heap.size) s.heap s.heap [] := va_S.rf
    unfold f_Mo_type at hf
    exact k_Mo_type_0 C0 hST hA hK (fun pc ls H locs hd hn hP hD hS => W.zret hx hb hr hn (fun t ht hW => ⟨⟨rfl, mo_end ht hP⟩, hS.F ht⟩) hS.2.2 hd) hf hP hD hS (lv_sub hl [0, 1, 2, 3] rfl))
-- ZoneFilesModel.letter(III)I
def f_Mo_letter_95 (nf : Nat) (s0 : Int32) (si : Nat → Int32) (sj : Nat → Int64) (sa : Nat → Nat → Int32) (sb : Nat → Nat → Int64) : Option (Int32 × (Nat → Int32) × (Nat → Int64) × (Nat → Nat → Int32) × (Nat → Nat → Int64)) :=
  some (s0, si, sj, sa, sb)
def f_Mo_letter_50 (nf : Nat) (x1 : Int32) (x2 : Int32) (x3 : Int32) (s0 : Int32) (si : Nat → Int32) (sj : Nat → Int64) (sa : Nat → Nat → Int32) (sb : Nat → Nat → Int64) : Option (Int32 × (Nat → Int32) × (Nat → Int64) × (Nat → Nat → Int32) × (Nat → Nat → Int64)) :=
  if s0 ≤ 0 then
  if x2 = 0 then
    if ((200 * x1) + x3) < 0 ∨ 1000 ≤ ((200 * x1) + x3).toNatClampNeg then none else
      f_Mo_letter_95 nf (sa 17 ((200 * x1) + x3).toNatClampNeg) (va_up si 3 s0) sj sa sb
    else
    if ((128 * x1) + x3) < 0 ∨ 640 ≤ ((128 * x1) + x3).toNatClampNeg then none else
      f_Mo_letter_95 nf (sa 22 ((128 * x1) + x3).toNatClampNeg) (va_up si 3 s0) sj sa sb
  else
  f_Mo_letter_95 nf 0 (va_up si 3 s0) sj sa sb
def f_Mo_letter_45 (nf : Nat) (x1 : Int32) (x2 : Int32) (x3 : Int32) (si : Nat → Int32) (sj : Nat → Int64) (sa : Nat → Nat → Int32) (sb : Nat → Nat → Int64) : Option (Int32 × (Nat → Int32) × (Nat → Int64) × (Nat → Nat → Int32) × (Nat → Nat → Int64)) :=
  f_Mo_letter_50 nf x1 x2 x3 1 si sj sa sb
def f_Mo_letter_42 (nf : Nat) (x1 : Int32) (x2 : Int32) (x3 : Int32) (s0 : Int32) (s1 : Int32) (si : Nat → Int32) (sj : Nat → Int64) (sa : Nat → Nat → Int32) (sb : Nat → Nat → Int64) : Option (Int32 × (Nat → Int32) × (Nat → Int64) × (Nat → Nat → Int32) × (Nat → Nat → Int64)) :=
  if s1 < s0 then
  f_Mo_letter_50 nf x1 x2 x3 0 si sj sa sb
  else
  f_Mo_letter_45 nf x1 x2 x3 si sj sa sb
def f_Mo_letter_0 (nf : Nat) (x1 : Int32) (x2 : Int32) (x3 : Int32) (si : Nat → Int32) (sj : Nat → Int64) (sa : Nat → Nat → Int32) (sb : Nat → Nat → Int64) : Option (Int32 × (Nat → Int32) × (Nat → Int64) × (Nat → Nat → Int32) × (Nat → Nat → Int64)) :=
  (f_Mo_noZone nf x1 si sj sa sb).bind fun r_1 =>
  if r_1 = 0 then
  if x2 < 0 then
    f_Mo_letter_45 nf x1 x2 x3 si sj sa sb
    else
    if (1 : Int32) < x2 then
      f_Mo_letter_45 nf x1 x2 x3 si sj sa sb
      else
      if x3 < 0 then
        f_Mo_letter_45 nf x1 x2 x3 si sj sa sb
        else
        if x2 = 0 then
          if x1 < 0 ∨ 5 ≤ x1.toNatClampNeg then none else
            f_Mo_letter_42 nf x1 x2 x3 (sa 7 x1.toNatClampNeg) x3 si sj sa sb
          else
          if x1 < 0 ∨ 5 ≤ x1.toNatClampNeg then none else
            f_Mo_letter_42 nf x1 x2 x3 (sa 11 x1.toNatClampNeg) x3 si sj sa sb
  else
  f_Mo_letter_45 nf x1 x2 x3 si sj sa sb
def f_Mo_letter (nf : Nat) (p0 : Int32) (p1 : Int32) (p2 : Int32) (si : Nat → Int32) (sj : Nat → Int64) (sa : Nat → Nat → Int32) (sb : Nat → Nat → Int64) : Option (Int32 × (Nat → Int32) × (Nat → Int64) × (Nat → Nat → Int32) × (Nat → Nat → Int64)) :=
  f_Mo_letter_0 nf p0 p1 p2 si sj sa sb
section
variable {p : Program} {l : Launch} {e : Env} {R : Room} {s : State} {m : MethodId} {args : Array Value} {below : List Frame} {meth : Method} {c : Code} {Q : State → Prop} {dC : Nat → ClassId} {dI : Nat → Nat → Nat} {nf : Nat} {A : Nat → Prop} {h0 : Nat} {r : Nat → Nat} {cA : Nat → ClassId}
variable {r0 : Int32} {vi : Nat → Int32} {vj : Nat → Int64} {va : Nat → Nat → Int32} {vb : Nat → Nat → Int64}
set_option maxHeartbeats 400000 in
set_option maxRecDepth 100000 in
theorem k_Mo_letter_95 (C0 : Cx p s m meth c args R b_Mo_letter "ZoneFilesModel" 4 (some .int) 1 21) (hST : ST A s s.heap) (hA : ∀ q, s.heap.size ≤ q → A q) (hK : va_K (dC, dI) classes (moT cA) s) (hE : ∀ (pc : Nat) (ls : Array Slot) (H : Heap) (locs : List Loc), decode b_Mo_letter pc = .ok (.ireturn, 1) → narrow .int (.int r0) = .int r0 → va_P (dC, dI) classes (moW h0 r cA vi vj va vb) H → va_D A (moW h0 r cA vi vj va vb) → va_S A s.heap H locs → W p l e R s m args below meth c H locs 0 0 Q (F0 m pc ls [.int r0])) {s0 : Int32} {si : Nat → Int32} {sj : Nat → Int64} {sa : Nat → Nat → Int32} {sb : Nat → Nat → Int64} (hf : f_Mo_letter_95 nf s0 si sj sa sb = some (r0, vi, vj, va, vb)) {H : Heap} {locs : List Loc} {ls : Array Slot} (hP : va_P (dC, dI) classes (moW h0 r cA si sj sa sb) H) (hD : va_D A (moW h0 r cA si sj sa sb)) (hS : va_S A s.heap H locs) (hl : lv_has ls 4 []) : W p l e R s m args below meth c H locs 0 0 Q (F0 m 95 ls [.int s0]) := by
  obtain ⟨hx, hb, hr, hml, hown, hts, hlocks, hRf, hRl⟩ := id C0
  unfold f_Mo_letter_95 at hf
  cases rs hf
  exact hE _ _ _ _ d_Mo_letter_95 rfl hP hD hS
set_option maxHeartbeats 400000 in
set_option maxRecDepth 100000 in
theorem k_Mo_letter_50 (C0 : Cx p s m meth c args R b_Mo_letter "ZoneFilesModel" 4 (some .int) 1 21) (hST : ST A s s.heap) (hA : ∀ q, s.heap.size ≤ q → A q) (hK : va_K (dC, dI) classes (moT cA) s) (hE : ∀ (pc : Nat) (ls : Array Slot) (H : Heap) (locs : List Loc), decode b_Mo_letter pc = .ok (.ireturn, 1) → narrow .int (.int r0) = .int r0 → va_P (dC, dI) classes (moW h0 r cA vi vj va vb) H → va_D A (moW h0 r cA vi vj va vb) → va_S A s.heap H locs → W p l e R s m args below meth c H locs 0 0 Q (F0 m pc ls [.int r0])) {x1 : Int32} {x2 : Int32} {x3 : Int32} {s0 : Int32} {si : Nat → Int32} {sj : Nat → Int64} {sa : Nat → Nat → Int32} {sb : Nat → Nat → Int64} (hf : f_Mo_letter_50 nf x1 x2 x3 s0 si sj sa sb = some (r0, vi, vj, va, vb)) {H : Heap} {locs : List Loc} {ls : Array Slot} (hP : va_P (dC, dI) classes (moW h0 r cA si sj sa sb) H) (hD : va_D A (moW h0 r cA si sj sa sb)) (hS : va_S A s.heap H locs) (hl : lv_has ls 4 [(0, .ref h0), (1, .int x1), (2, .int x2), (3, .int x3)]) : W p l e R s m args below meth c H locs 0 0 Q (F0 m 50 ls [.int s0, .ref h0]) := by
  obtain ⟨hx, hb, hr, hml, hown, hts, hlocks, hRf, hRl⟩ := id C0
  unfold f_Mo_letter_50 at hf
  refine mp_3 hx hb hts hown hK hP hD hS d_Mo_letter_50 (fun H locs hP hD hS => ?_)
  refine lv_aload_n hx hb d_Mo_letter_53 rfl (lv_at hl 0 rfl) ?_
  refine mg_3 (v := s0) hx hb hts hown hK hP rfl d_Mo_letter_54 ?_
  refine lv_if_le (tgt := 64) hx hb d_Mo_letter_57 (by decide) (fun c_3 => ?_) (fun c_3 => ?_)
  · have hf := it_t c_3 hf
    refine lv_iload_n hx hb d_Mo_letter_64 rfl (lv_at hl 2 rfl) ?_
    refine lv_if_ne (tgt := 83) hx hb d_Mo_letter_65 (by decide) (fun c_4 => ?_) (fun c_4 => ?_)
    · have hf := it_f c_4 hf
      refine lv_aload_n hx hb d_Mo_letter_83 rfl (lv_at hl 0 rfl) ?_
      refine mg_22 hx hb hts hown hK hP d_Mo_letter_84 ?_
      refine lv_sipush (v := 128) hx hb d_Mo_letter_87 (by decide) ?_
      refine lv_iload_n hx hb d_Mo_letter_90 rfl (lv_at hl 1 rfl) ?_
      refine lv_imul hx hb d_Mo_letter_91 ?_
      refine lv_iload_n hx hb d_Mo_letter_92 rfl (lv_at hl 3 rfl) ?_
      refine lv_iadd hx hb d_Mo_letter_93 ?_
      obtain ⟨c_5, hf⟩ := it_n hf
      refine ma_22 (v := sa 22 ((128 * x1) + x3).toNatClampNeg) hx hb hK hP c_5 rfl d_Mo_letter_94 ?_
      exact k_Mo_letter_95 C0 hST hA hK hE hf hP hD hS (lv_sub hl [] rfl)
    · have hf := it_t c_4 hf
      refine lv_aload_n hx hb d_Mo_letter_68 rfl (lv_at hl 0 rfl) ?_
      refine mg_17 hx hb hts hown hK hP d_Mo_letter_69 ?_
      refine lv_sipush (v := 200) hx hb d_Mo_letter_72 (by decide) ?_
      refine lv_iload_n hx hb d_Mo_letter_75 rfl (lv_at hl 1 rfl) ?_
      refine lv_imul hx hb d_Mo_letter_76 ?_
      refine lv_iload_n hx hb d_Mo_letter_77 rfl (lv_at hl 3 rfl) ?_
      refine lv_iadd hx hb d_Mo_letter_78 ?_
      obtain ⟨c_6, hf⟩ := it_n hf
      refine ma_17 (v := sa 17 ((200 * x1) + x3).toNatClampNeg) hx hb hK hP c_6 rfl d_Mo_letter_79 ?_
      refine lv_goto (tgt := 95) hx hb d_Mo_letter_80 (by decide) ?_
      exact k_Mo_letter_95 C0 hST hA hK hE hf hP hD hS (lv_sub hl [] rfl)
  · have hf := it_f c_3 hf
    refine lv_iconst (v := 0) hx hb d_Mo_letter_60 (by decide) ?_
    refine lv_goto (tgt := 95) hx hb d_Mo_letter_61 (by decide) ?_
    exact k_Mo_letter_95 C0 hST hA hK hE hf hP hD hS (lv_sub hl [] rfl)
set_option maxHeartbeats 400000 in
set_option maxRecDepth 100000 in
theorem k_Mo_letter_45 (C0 : Cx p s m meth c args R b_Mo_letter "ZoneFilesModel" 4 (some .int) 1 21) (hST : ST A s s.heap) (hA : ∀ q, s.heap.size ≤ q → A q) (hK : va_K (dC, dI) classes (moT cA) s) (hE : ∀ (pc : Nat) (ls : Array Slot) (H : Heap) (locs : List Loc), decode b_Mo_letter pc = .ok (.ireturn, 1) → narrow .int (.int r0) = .int r0 → va_P (dC, dI) classes (moW h0 r cA vi vj va vb) H → va_D A (moW h0 r cA vi vj va vb) → va_S A s.heap H locs → W p l e R s m args below meth c H locs 0 0 Q (F0 m pc ls [.int r0])) {x1 : Int32} {x2 : Int32} {x3 : Int32} {si : Nat → Int32} {sj : Nat → Int64} {sa : Nat → Nat → Int32} {sb : Nat → Nat → Int64} (hf : f_Mo_letter_45 nf x1 x2 x3 si sj sa sb = some (r0, vi, vj, va, vb)) {H : Heap} {locs : List Loc} {ls : Array Slot} (hP : va_P (dC, dI) classes (moW h0 r cA si sj sa sb) H) (hD : va_D A (moW h0 r cA si sj sa sb)) (hS : va_S A s.heap H locs) (hl : lv_has ls 4 [(0, .ref h0), (1, .int x1), (2, .int x2), (3, .int x3)]) : W p l e R s m args below meth c H locs 0 0 Q (F0 m 45 ls [.ref h0]) := by
  obtain ⟨hx, hb, hr, hml, hown, hts, hlocks, hRf, hRl⟩ := id C0
  unfold f_Mo_letter_45 at hf
  refine lv_iconst (v := 1) hx hb d_Mo_letter_45 (by decide) ?_
  refine lv_goto (tgt := 50) hx hb d_Mo_letter_46 (by decide) ?_
  exact k_Mo_letter_50 C0 hST hA hK hE hf hP hD hS (lv_sub hl [0, 1, 2, 3] rfl)
set_option maxHeartbeats 400000 in
set_option maxRecDepth 100000 in
theorem k_Mo_letter_42 (C0 : Cx p s m meth c args R b_Mo_letter "ZoneFilesModel" 4 (some .int) 1 21) (hST : ST A s s.heap) (hA : ∀ q, s.heap.size ≤ q → A q) (hK : va_K (dC, dI) classes (moT cA) s) (hE : ∀ (pc : Nat) (ls : Array Slot) (H : Heap) (locs : List Loc), decode b_Mo_letter pc = .ok (.ireturn, 1) → narrow .int (.int r0) = .int r0 → va_P (dC, dI) classes (moW h0 r cA vi vj va vb) H → va_D A (moW h0 r cA vi vj va vb) → va_S A s.heap H locs → W p l e R s m args below meth c H locs 0 0 Q (F0 m pc ls [.int r0])) {x1 : Int32} {x2 : Int32} {x3 : Int32} {s0 : Int32} {s1 : Int32} {si : Nat → Int32} {sj : Nat → Int64} {sa : Nat → Nat → Int32} {sb : Nat → Nat → Int64} (hf : f_Mo_letter_42 nf x1 x2 x3 s0 s1 si sj sa sb = some (r0, vi, vj, va, vb)) {H : Heap} {locs : List Loc} {ls : Array Slot} (hP : va_P (dC, dI) classes (moW h0 r cA si sj sa sb) H) (hD : va_D A (moW h0 r cA si sj sa sb)) (hS : va_S A s.heap H locs) (hl : lv_has ls 4 [(0, .ref h0), (1, .int x1), (2, .int x2), (3, .int x3)]) : W p l e R s m args below meth c H locs 0 0 Q (F0 m 42 ls [.int s0, .int s1, .ref h0]) := by
  obtain ⟨hx, hb, hr, hml, hown, hts, hlocks, hRf, hRl⟩ := id C0
  unfold f_Mo_letter_42 at hf
  refine lv_icmp_lt (tgt := 49) hx hb d_Mo_letter_42 (by decide) (fun c_12 => ?_) (fun c_12 => ?_)
  · have hf := it_t c_12 hf
    refine lv_iconst (v := 0) hx hb d_Mo_letter_49 (by decide) ?_
    exact k_Mo_letter_50 C0 hST hA hK hE hf hP hD hS (lv_sub hl [0, 1, 2, 3] rfl)
  · have hf := it_f c_12 hf
    exact k_Mo_letter_45 C0 hST hA hK hE hf hP hD hS (lv_sub hl [0, 1, 2, 3] rfl)
set_option maxHeartbeats 400000 in
set_option maxRecDepth 100000 in
theorem k_Mo_letter_0 (C0 : Cx p s m meth c args R b_Mo_letter "ZoneFilesModel" 4 (some .int) 1 21) (hST : ST A s s.heap) (hA : ∀ q, s.heap.size ≤ q → A q) (hK : va_K (dC, dI) classes (moT cA) s) (hE : ∀ (pc : Nat) (ls : Array Slot) (H : Heap) (locs : List Loc), decode b_Mo_letter pc = .ok (.ireturn, 1) → narrow .int (.int r0) = .int r0 → va_P (dC, dI) classes (moW h0 r cA vi vj va vb) H → va_D A (moW h0 r cA vi vj va vb) → va_S A s.heap H locs → W p l e R s m args below meth c H locs 0 0 Q (F0 m pc ls [.int r0])) {x1 : Int32} {x2 : Int32} {x3 : Int32} {si : Nat → Int32} {sj : Nat → Int64} {sa : Nat → Nat → Int32} {sb : Nat → Nat → Int64} (hf : f_Mo_letter_0 nf x1 x2 x3 si sj sa sb = some (r0, vi, vj, va, vb)) {H : Heap} {locs : List Loc} {ls : Array Slot} (hP : va_P (dC, dI) classes (moW h0 r cA si sj sa sb) H) (hD : va_D A (moW h0 r cA si sj sa sb)) (hS : va_S A s.heap H locs) (hl : lv_has ls 4 [(0, .ref h0), (1, .int x1), (2, .int x2), (3, .int x3)]) : W p l e R s m args below meth c H locs 0 0 Q (F0 m 0 ls []) := by
  obtain ⟨hx, hb, hr, hml, hown, hts, hlocks, hRf, hRl⟩ := id C0
  unfold f_Mo_letter_0 at hf
  refine lv_aload_n hx hb d_Mo_letter_0 rfl (lv_at hl 0 rfl) ?_
  refine lv_aload_n hx hb d_Mo_letter_1 rfl (lv_at hl 0 rfl) ?_
  refine lv_iload_n hx hb d_Mo_letter_2 rfl (lv_at hl 1 rfl) ?_
  obtain ⟨r_1, hc, hf⟩ := ob hf
  refine cl_S (v := (some (.int r_1))) (st1 := [.int r_1, .ref h0]) (va_runV (As := [.int x1]) (rest := [.ref h0]) ⟨hx, hb, hml, hown, hts⟩ (c_Mo_noZone l dC dI h0 r cA nf x1 si sj sa sb hc) (cwV 1 hts (gdV m_8_45 m_8_47 msel_83 m_1_10 m_8_48) rfl rfl rfl (by decide +kernel) ⟨Nat.le_trans (Nat.le_of_ble_eq_true rfl) hRf, Nat.le_trans (Nat.le_of_ble_eq_true rfl) hRl⟩) ((RO.pre hP hK (hST.ro hS)).vir (va_recv hK hP (ci := 10) (q0 := 0) rfl rfl)) rfl rfl hl.1 rfl (lv_room (Nat.le_of_ble_eq_true rfl)) d_Mo_letter_3 ⟨Nat.zero_le _, Nat.zero_le _⟩) rfl ?_
  refine lv_if_ne (tgt := 45) hx hb d_Mo_letter_6 (by decide) (fun c_2 => ?_) (fun c_2 => ?_)
  · have hf := it_f c_2 hf
    exact k_Mo_letter_45 C0 hST hA hK hE hf hP hD hS (lv_sub hl [0, 1, 2, 3] rfl)
  · have hf := it_t c_2 hf
    refine lv_iload_n hx hb d_Mo_letter_9 rfl (lv_at hl 2 rfl) ?_
    refine lv_if_lt (tgt := 45) hx hb d_Mo_letter_10 (by decide) (fun c_7 => ?_) (fun c_7 => ?_)
    · have hf := it_t c_7 hf
      exact k_Mo_letter_45 C0 hST hA hK hE hf hP hD hS (lv_sub hl [0, 1, 2, 3] rfl)
    · have hf := it_f c_7 hf
      refine lv_iload_n hx hb d_Mo_letter_13 rfl (lv_at hl 2 rfl) ?_
      refine lv_iconst (v := 1) hx hb d_Mo_letter_14 (by decide) ?_
      refine lv_icmp_gt (tgt := 45) hx hb d_Mo_letter_15 (by decide) (fun c_8 => ?_) (fun c_8 => ?_)
      · have hf := it_t c_8 hf
        exact k_Mo_letter_45 C0 hST hA hK hE hf hP hD hS (lv_sub hl [0, 1, 2, 3] rfl)
      · have hf := it_f c_8 hf
        refine lv_iload_n hx hb d_Mo_letter_18 rfl (lv_at hl 3 rfl) ?_
        refine lv_if_lt (tgt := 45) hx hb d_Mo_letter_19 (by decide) (fun c_9 => ?_) (fun c_9 => ?_)
        · have hf := it_t c_9 hf
          exact k_Mo_letter_45 C0 hST hA hK hE hf hP hD hS (lv_sub hl [0, 1, 2, 3] rfl)
        · have hf := it_f c_9 hf
          refine lv_iload_n hx hb d_Mo_letter_22 rfl (lv_at hl 3 rfl) ?_
          refine lv_iload_n hx hb d_Mo_letter_23 rfl (lv_at hl 2 rfl) ?_
          refine lv_if_ne (tgt := 36) hx hb d_Mo_letter_24 (by decide) (fun c_10 => ?_) (fun c_10 => ?_)
          · have hf := it_f c_10 hf
            refine lv_aload_n hx hb d_Mo_letter_36 rfl (lv_at hl 0 rfl) ?_
            refine mg_11 hx hb hts hown hK hP d_Mo_letter_37 ?_
            refine lv_iload_n hx hb d_Mo_letter_40 rfl (lv_at hl 1 rfl) ?_
            obtain ⟨c_11, hf⟩ := it_n hf
            refine ma_11 (v := sa 11 x1.toNatClampNeg) hx hb hK hP c_11 rfl d_Mo_letter_41 ?_
            exact k_Mo_letter_42 C0 hST hA hK hE hf hP hD hS (lv_sub hl [0, 1, 2, 3] rfl)
          · have hf := it_t c_10 hf
            refine lv_aload_n hx hb d_Mo_letter_27 rfl (lv_at hl 0 rfl) ?_
            refine mg_7 hx hb hts hown hK hP d_Mo_letter_28 ?_
            refine lv_iload_n hx hb d_Mo_letter_31 rfl (lv_at hl 1 rfl) ?_
            obtain ⟨c_13, hf⟩ := it_n hf
            refine ma_7 (v := sa 7 x1.toNatClampNeg) hx hb hK hP c_13 rfl d_Mo_letter_32 ?_
            refine lv_goto (tgt := 42) hx hb d_Mo_letter_33 (by decide) ?_
            exact k_Mo_letter_42 C0 hST hA hK hE hf hP hD hS (lv_sub hl [0, 1, 2, 3] rfl)
end
set_option maxHeartbeats 400000 in
set_option maxRecDepth 100000 in
theorem c_Mo_letter (l : Launch) (dC : Nat → ClassId) (dI : Nat → Nat → Nat) (h0 : Nat) (r : Nat → Nat) (cA : Nat → ClassId) (sz : Nat) (nf : Nat) (p0 : Int32) (p1 : Int32) (p2 : Int32) (si : Nat → Int32) (sj : Nat → Int64) (sa : Nat → Nat → Int32) (sb : Nat → Nat → Int64) {r0 : Int32} {vi : Nat → Int32} {vj : Nat → Int64} {va : Nat → Nat → Int32} {vb : Nat → Nat → Int64} (hf : f_Mo_letter nf p0 p1 p2 si sj sa sb = some (r0, vi, vj, va, vb)) : Met l y_Mo_letter (wd y_Mo_letter b_Mo_letter 4 (some .int)) ({ frames := 1, cells := 0, slots := 0, locals := 21 }) (MU dC dI (moW h0 r cA si sj sa sb) (moT cA) sz [.ref h0, .int p0, .int p1, .int p2]) (MV (some (.int r0)) (fun t => va_P (dC, dI) classes (moW h0 r cA vi vj va vb) t.heap) (va_A (moW h0 r cA si sj sa sb) sz)) 0 0 (va_A (moW h0 r cA si sj sa sb) sz) :=
  met_M (plainFor_of_name (by decide)) (Nat.le_of_ble_eq_true rfl) (fun p e R s m args below meth c ls hRc hRs hsz hin C0 hST hK hP hD hl => by
    obtain ⟨hx, hb, hr, hml, hown, hts, hlocks, hRf, hRl⟩ := id C0
    subst hsz
    have hA : ∀ q : Nat, s.heap.size ≤ q → va_A (moW h0 r cA si sj sa sb) s.heap.size q := fun q h => Or.inr h
    have hS : va_S (va_A (moW h0 r cA si sj sa sb) s.heap.size) s.heap s.heap [] := va_S.rf
    unfold f_Mo_letter at hf
    exact k_Mo_letter_0 C0 hST hA hK (fun pc ls H locs hd hn hP hD hS => W.zret hx hb hr hn (fun t ht hW => ⟨⟨rfl, mo_end ht hP⟩, hS.F ht⟩) hS.2.2 hd) hf hP hD hS (lv_sub hl [0, 1, 2, 3] rfl))
-- ZoneFilesModel.leap(III)J
def f_Mo_leap_80 (nf : Nat) (s0 : Int64) (si : Nat → Int32) (sj : Nat → Int64) (sa : Nat → Nat → Int32) (sb : Nat → Nat → Int64) : Option (Int64 × (Nat → Int32) × (Nat → Int64) × (Nat → Nat → Int32) × (Nat → Nat → Int64)) :=
  some (s0, si, sj, sa, sb)
def f_Mo_leap_37 (nf : Nat) (x1 : Int32) (x2 : Int32) (x3 : Int32) (s0 : Int32) (si : Nat → Int32) (sj : Nat → Int64) (sa : Nat → Nat → Int32) (sb : Nat → Nat → Int64) : Option (Int64 × (Nat → Int32) × (Nat → Int64) × (Nat → Nat → Int32) × (Nat → Nat → Int64)) :=
  if s0 ≤ 0 then
  if x3 = 0 then
    if ((40 * x1) + x2) < 0 ∨ 200 ≤ ((40 * x1) + x2).toNatClampNeg then none else
      f_Mo_leap_80 nf (sb 18 ((40 * x1) + x2).toNatClampNeg) (va_up si 3 s0) sj sa sb
    else
    if ((40 * x1) + x2) < 0 ∨ 200 ≤ ((40 * x1) + x2).toNatClampNeg then none else
      f_Mo_leap_80 nf (sb 19 ((40 * x1) + x2).toNatClampNeg) (va_up si 3 s0) sj sa sb
  else
  f_Mo_leap_80 nf 0 (va_up si 3 s0) sj sa sb
def f_Mo_leap_32 (nf : Nat) (x1 : Int32) (x2 : Int32) (x3 : Int32) (si : Nat → Int32) (sj : Nat → Int64) (sa : Nat → Nat → Int32) (sb : Nat → Nat → Int64) : Option (Int64 × (Nat → Int32) × (Nat → Int64) × (Nat → Nat → Int32) × (Nat → Nat → Int64)) :=
  f_Mo_leap_37 nf x1 x2 x3 1 si sj sa sb
def f_Mo_leap_0 (nf : Nat) (x1 : Int32) (x2 : Int32) (x3 : Int32) (si : Nat → Int32) (sj : Nat → Int64) (sa : Nat → Nat → Int32) (sb : Nat → Nat → Int64) : Option (Int64 × (Nat → Int32) × (Nat → Int64) × (Nat → Nat → Int32) × (Nat → Nat → Int64)) :=
  (f_Mo_noZone nf x1 si sj sa sb).bind fun r_1 =>
  if r_1 = 0 then
  if x2 < 0 then
    f_Mo_leap_32 nf x1 x2 x3 si sj sa sb
    else
    if x1 < 0 ∨ 5 ≤ x1.toNatClampNeg then none else
      if (sa 8 x1.toNatClampNeg) ≤ x2 then
      f_Mo_leap_32 nf x1 x2 x3 si sj sa sb
      else
      if x3 < 0 then
        f_Mo_leap_32 nf x1 x2 x3 si sj sa sb
        else
        if x3 ≤ (1 : Int32) then
          f_Mo_leap_37 nf x1 x2 x3 0 si sj sa sb
          else
          f_Mo_leap_32 nf x1 x2 x3 si sj sa sb
  else
  f_Mo_leap_32 nf x1 x2 x3 si sj sa sb
def f_Mo_leap (nf : Nat) (p0 : Int32) (p1 : Int32) (p2 : Int32) (si : Nat → Int32) (sj : Nat → Int64) (sa : Nat → Nat → Int32) (sb : Nat → Nat → Int64) : Option (Int64 × (Nat → Int32) × (Nat → Int64) × (Nat → Nat → Int32) × (Nat → Nat → Int64)) :=
  f_Mo_leap_0 nf p0 p1 p2 si sj sa sb
section
variable {p : Program} {l : Launch} {e : Env} {R : Room} {s : State} {m : MethodId} {args : Array Value} {below : List Frame} {meth : Method} {c : Code} {Q : State → Prop} {dC : Nat → ClassId} {dI : Nat → Nat → Nat} {nf : Nat} {A : Nat → Prop} {h0 : Nat} {r : Nat → Nat} {cA : Nat → ClassId}
variable {r0 : Int64} {vi : Nat → Int32} {vj : Nat → Int64} {va : Nat → Nat → Int32} {vb : Nat → Nat → Int64}
set_option maxHeartbeats 400000 in
set_option maxRecDepth 100000 in
theorem k_Mo_leap_80 (C0 : Cx p s m meth c args R b_Mo_leap "ZoneFilesModel" 4 (some .long) 1 21) (hST : ST A s s.heap) (hA : ∀ q, s.heap.size ≤ q → A q) (hK : va_K (dC, dI) classes (moT cA) s) (hE : ∀ (pc : Nat) (ls : Array Slot) (H : Heap) (locs : List Loc), decode b_Mo_leap pc = .ok (.lreturn, 1) → va_P (dC, dI) classes (moW h0 r cA vi vj va vb) H → va_D A (moW h0 r cA vi vj va vb) → va_S A s.heap H locs → W p l e R s m args below meth c H locs 0 0 Q (F0 m pc ls [.long r0])) {s0 : Int64} {si : Nat → Int32} {sj : Nat → Int64} {sa : Nat → Nat → Int32} {sb : Nat → Nat → Int64} (hf : f_Mo_leap_80 nf s0 si sj sa sb = some (r0, vi, vj, va, vb)) {H : Heap} {locs : List Loc} {ls : Array Slot} (hP : va_P (dC, dI) classes (moW h0 r cA si sj sa sb) H) (hD : va_D A (moW h0 r cA si sj sa sb)) (hS : va_S A s.heap H locs) (hl : lv_has ls 4 []) : W p l e R s m args below meth c H locs 0 0 Q (F0 m 80 ls [.long s0]) := by
  obtain ⟨hx, hb, hr, hml, hown, hts, hlocks, hRf, hRl⟩ := id C0
  unfold f_Mo_leap_80 at hf
  cases rs hf
  exact hE _ _ _ _ d_Mo_leap_80 hP hD hS
set_option maxHeartbeats 400000 in
set_option maxRecDepth 100000 in
theorem k_Mo_leap_37 (C0 : Cx p s m meth c args R b_Mo_leap "ZoneFilesModel" 4 (some .long) 1 21) (hST : ST A s s.heap) (hA : ∀ q, s.heap.size ≤ q → A q) (hK : va_K (dC, dI) classes (moT cA) s) (hE : ∀ (pc : Nat) (ls : Array Slot) (H : Heap) (locs : List Loc), decode b_Mo_leap pc = .ok (.lreturn, 1) → va_P (dC, dI) classes (moW h0 r cA vi vj va vb) H → va_D A (moW h0 r cA vi vj va vb) → va_S A s.heap H locs → W p l e R s m args below meth c H locs 0 0 Q (F0 m pc ls [.long r0])) {x1 : Int32} {x2 : Int32} {x3 : Int32} {s0 : Int32} {si : Nat → Int32} {sj : Nat → Int64} {sa : Nat → Nat → Int32} {sb : Nat → Nat → Int64} (hf : f_Mo_leap_37 nf x1 x2 x3 s0 si sj sa sb = some (r0, vi, vj, va, vb)) {H : Heap} {locs : List Loc} {ls : Array Slot} (hP : va_P (dC, dI) classes (moW h0 r cA si sj sa sb) H) (hD : va_D A (moW h0 r cA si sj sa sb)) (hS : va_S A s.heap H locs) (hl : lv_has ls 4 [(0, .ref h0), (1, .int x1), (2, .int x2), (3, .int x3)]) : W p l e R s m args below meth c H locs 0 0 Q (F0 m 37 ls [.int s0, .ref h0]) := by
  obtain ⟨hx, hb, hr, hml, hown, hts, hlocks, hRf, hRl⟩ := id C0
  unfold f_Mo_leap_37 at hf
  refine mp_3 hx hb hts hown hK hP hD hS d_Mo_leap_37 (fun H locs hP hD hS => ?_)
  refine lv_aload_n hx hb d_Mo_leap_40 rfl (lv_at hl 0 rfl) ?_
  refine mg_3 (v := s0) hx hb hts hown hK hP rfl d_Mo_leap_41 ?_
  refine lv_if_le (tgt := 51) hx hb d_Mo_leap_44 (by decide) (fun c_3 => ?_) (fun c_3 => ?_)
  · have hf := it_t c_3 hf
    refine lv_iload_n hx hb d_Mo_leap_51 rfl (lv_at hl 3 rfl) ?_
    refine lv_if_ne (tgt := 69) hx hb d_Mo_leap_52 (by decide) (fun c_4 => ?_) (fun c_4 => ?_)
    · have hf := it_f c_4 hf
      refine lv_aload_n hx hb d_Mo_leap_69 rfl (lv_at hl 0 rfl) ?_
      refine mg_19 hx hb hts hown hK hP d_Mo_leap_70 ?_
      refine lv_bipush (v := 40) hx hb d_Mo_leap_73 (by decide) ?_
      refine lv_iload_n hx hb d_Mo_leap_75 rfl (lv_at hl 1 rfl) ?_
      refine lv_imul hx hb d_Mo_leap_76 ?_
      refine lv_iload_n hx hb d_Mo_leap_77 rfl (lv_at hl 2 rfl) ?_
      refine lv_iadd hx hb d_Mo_leap_78 ?_
      obtain ⟨c_5, hf⟩ := it_n hf
      refine ma_19 (v := sb 19 ((40 * x1) + x2).toNatClampNeg) hx hb hK hP c_5 rfl d_Mo_leap_79 ?_
      exact k_Mo_leap_80 C0 hST hA hK hE hf hP hD hS (lv_sub hl [] rfl)
    · have hf := it_t c_4 hf
      refine lv_aload_n hx hb d_Mo_leap_55 rfl (lv_at hl 0 rfl) ?_
      refine mg_18 hx hb hts hown hK hP d_Mo_leap_56 ?_
      refine lv_bipush (v := 40) hx hb d_Mo_leap_59 (by decide) ?_
      refine lv_iload_n hx hb d_Mo_leap_61 rfl (lv_at hl 1 rfl) ?_
      refine lv_imul hx hb d_Mo_leap_62 ?_
      refine lv_iload_n hx hb d_Mo_leap_63 rfl (lv_at hl 2 rfl) ?_
      refine lv_iadd hx hb d_Mo_leap_64 ?_
      obtain ⟨c_6, hf⟩ := it_n hf
      refine ma_18 (v := sb 18 ((40 * x1) + x2).toNatClampNeg) hx hb hK hP c_6 rfl d_Mo_leap_65 ?_
      refine lv_goto (tgt := 80) hx hb d_Mo_leap_66 (by decide) ?_
      exact k_Mo_leap_80 C0 hST hA hK hE hf hP hD hS (lv_sub hl [] rfl)
  · have hf := it_f c_3 hf
    refine lv_lconst (v := 0) hx hb d_Mo_leap_47 (by decide) ?_
    refine lv_goto (tgt := 80) hx hb d_Mo_leap_48 (by decide) ?_
    exact k_Mo_leap_80 C0 hST hA hK hE hf hP hD hS (lv_sub hl [] rfl)
set_option maxHeartbeats 400000 in
set_option maxRecDepth 100000 in
theorem k_Mo_leap_32 (C0 : Cx p s m meth c args R b_Mo_leap "ZoneFilesModel" 4 (some .long) 1 21) (hST : ST A s s.heap) (hA : ∀ q, s.heap.size ≤ q → A q) (hK : va_K (dC, dI) classes (moT cA) s) (hE : ∀ (pc : Nat) (ls : Array Slot) (H : Heap) (locs : List Loc), decode b_Mo_leap pc = .ok (.lreturn, 1) → va_P (dC, dI) classes (moW h0 r cA vi vj va vb) H → va_D A (moW h0 r cA vi vj va vb) → va_S A s.heap H locs → W p l e R s m args below meth c H locs 0 0 Q (F0 m pc ls [.long r0])) {x1 : Int32} {x2 : Int32} {x3 : Int32} {si : Nat → Int32} {sj : Nat → Int64} {sa : Nat → Nat → Int32} {sb : Nat → Nat → Int64} (hf : f_Mo_leap_32 nf x1 x2 x3 si sj sa sb = some (r0, vi, vj, va, vb)) {H : Heap} {locs : List Loc} {ls : Array Slot} (hP : va_P (dC, dI) classes (moW h0 r cA si sj sa sb) H) (hD : va_D A (moW h0 r cA si sj sa sb)) (hS : va_S A s.heap H locs) (hl : lv_has ls 4 [(0, .ref h0), (1, .int x1), (2, .int x2), (3, .int x3)]) : W p l e R s m args below meth c H locs 0 0 Q (F0 m 32 ls [.ref h0]) := by
  obtain ⟨hx, hb, hr, hml, hown, hts, hlocks, hRf, hRl⟩ := id C0
  unfold f_Mo_leap_32 at hf
  refine lv_iconst (v := 1) hx hb d_Mo_leap_32 (by decide) ?_
  refine lv_goto (tgt := 37) hx hb d_Mo_leap_33 (by decide) ?_
  exact k_Mo_leap_37 C0 hST hA hK hE hf hP hD hS (lv_sub hl [0, 1, 2, 3] rfl)
set_option maxHeartbeats 400000 in
set_option maxRecDepth 100000 in
theorem k_Mo_leap_0 (C0 : Cx p s m meth c args R b_Mo_leap "ZoneFilesModel" 4 (some .long) 1 21) (hST : ST A s s.heap) (hA : ∀ q, s.heap.size ≤ q → A q) (hK : va_K (dC, dI) classes (moT cA) s) (hE : ∀ (pc : Nat) (ls : Array Slot) (H : Heap) (locs : List Loc), decode b_Mo_leap pc = .ok (.lreturn, 1) → va_P (dC, dI) classes (moW h0 r cA vi vj va vb) H → va_D A (moW h0 r cA vi vj va vb) → va_S A s.heap H locs → W p l e R s m args below meth c H locs 0 0 Q (F0 m pc ls [.long r0])) {x1 : Int32} {x2 : Int32} {x3 : Int32} {si : Nat → Int32} {sj : Nat → Int64} {sa : Nat → Nat → Int32} {sb : Nat → Nat → Int64} (hf : f_Mo_leap_0 nf x1 x2 x3 si sj sa sb = some (r0, vi, vj, va, vb)) {H : Heap} {locs : List Loc} {ls : Array Slot} (hP : va_P (dC, dI) classes (moW h0 r cA si sj sa sb) H) (hD : va_D A (moW h0 r cA si sj sa sb)) (hS : va_S A s.heap H locs) (hl : lv_has ls 4 [(0, .ref h0), (1, .int x1), (2, .int x2), (3, .int x3)]) : W p l e R s m args below meth c H locs 0 0 Q (F0 m 0 ls []) := by
  obtain ⟨hx, hb, hr, hml, hown, hts, hlocks, hRf, hRl⟩ := id C0
  unfold f_Mo_leap_0 at hf
  refine lv_aload_n hx hb d_Mo_leap_0 rfl (lv_at hl 0 rfl) ?_
  refine lv_aload_n hx hb d_Mo_leap_1 rfl (lv_at hl 0 rfl) ?_
  refine lv_iload_n hx hb d_Mo_leap_2 rfl (lv_at hl 1 rfl) ?_
  obtain ⟨r_1, hc, hf⟩ := ob hf
  refine cl_S (v := (some (.int r_1))) (st1 := [.int r_1, .ref h0]) (va_runV (As := [.int x1]) (rest := [.ref h0]) ⟨hx, hb, hml, hown, hts⟩ (c_Mo_noZone l dC dI h0 r cA nf x1 si sj sa sb hc) (cwV 1 hts (gdV m_8_45 m_8_47 msel_83 m_1_10 m_8_48) rfl rfl rfl (by decide +kernel) ⟨Nat.le_trans (Nat.le_of_ble_eq_true rfl) hRf, Nat.le_trans (Nat.le_of_ble_eq_true rfl) hRl⟩) ((RO.pre hP hK (hST.ro hS)).vir (va_recv hK hP (ci := 10) (q0 := 0) rfl rfl)) rfl rfl hl.1 rfl (lv_room (Nat.le_of_ble_eq_true rfl)) d_Mo_leap_3 ⟨Nat.zero_le _, Nat.zero_le _⟩) rfl ?_
  refine lv_if_ne (tgt := 32) hx hb d_Mo_leap_6 (by decide) (fun c_2 => ?_) (fun c_2 => ?_)
  · have hf := it_f c_2 hf
    exact k_Mo_leap_32 C0 hST hA hK hE hf hP hD hS (lv_sub hl [0, 1, 2, 3] rfl)
  · have hf := it_t c_2 hf
    refine lv_iload_n hx hb d_Mo_leap_9 rfl (lv_at hl 2 rfl) ?_
    refine lv_if_lt (tgt := 32) hx hb d_Mo_leap_10 (by decide) (fun c_7 => ?_) (fun c_7 => ?_)
    · have hf := it_t c_7 hf
      exact k_Mo_leap_32 C0 hST hA hK hE hf hP hD hS (lv_sub hl [0, 1, 2, 3] rfl)
    · have hf := it_f c_7 hf
      refine lv_iload_n hx hb d_Mo_leap_13 rfl (lv_at hl 2 rfl) ?_
      refine lv_aload_n hx hb d_Mo_leap_14 rfl (lv_at hl 0 rfl) ?_
      refine mg_8 hx hb hts hown hK hP d_Mo_leap_15 ?_
      refine lv_iload_n hx hb d_Mo_leap_18 rfl (lv_at hl 1 rfl) ?_
      obtain ⟨c_8, hf⟩ := it_n hf
      refine ma_8 (v := sa 8 x1.toNatClampNeg) hx hb hK hP c_8 rfl d_Mo_leap_19 ?_
      refine lv_icmp_ge (tgt := 32) hx hb d_Mo_leap_20 (by decide) (fun c_9 => ?_) (fun c_9 => ?_)
      · have hf := it_t c_9 hf
        exact k_Mo_leap_32 C0 hST hA hK hE hf hP hD hS (lv_sub hl [0, 1, 2, 3] rfl)
      · have hf := it_f c_9 hf
        refine lv_iload_n hx hb d_Mo_leap_23 rfl (lv_at hl 3 rfl) ?_
        refine lv_if_lt (tgt := 32) hx hb d_Mo_leap_24 (by decide) (fun c_10 => ?_) (fun c_10 => ?_)
        · have hf := it_t c_10 hf
          exact k_Mo_leap_32 C0 hST hA hK hE hf hP hD hS (lv_sub hl [0, 1, 2, 3] rfl)
        · have hf := it_f c_10 hf
          refine lv_iload_n hx hb d_Mo_leap_27 rfl (lv_at hl 3 rfl) ?_
          refine lv_iconst (v := 1) hx hb d_Mo_leap_28 (by decide) ?_
          refine lv_icmp_le (tgt := 36) hx hb d_Mo_leap_29 (by decide) (fun c_11 => ?_) (fun c_11 => ?_)
          · have hf := it_t c_11 hf
            refine lv_iconst (v := 0) hx hb d_Mo_leap_36 (by decide) ?_
            exact k_Mo_leap_37 C0 hST hA hK hE hf hP hD hS (lv_sub hl [0, 1, 2, 3] rfl)
          · have hf := it_f c_11 hf
            exact k_Mo_leap_32 C0 hST hA hK hE hf hP hD hS (lv_sub hl [0, 1, 2, 3] rfl)
end
set_option maxHeartbeats 400000 in
set_option maxRecDepth 100000 in
theorem c_Mo_leap (l : Launch) (dC : Nat → ClassId) (dI : Nat → Nat → Nat) (h0 : Nat) (r : Nat → Nat) (cA : Nat → ClassId) (sz : Nat) (nf : Nat) (p0 : Int32) (p1 : Int32) (p2 : Int32) (si : Nat → Int32) (sj : Nat → Int64) (sa : Nat → Nat → Int32) (sb : Nat → Nat → Int64) {r0 : Int64} {vi : Nat → Int32} {vj : Nat → Int64} {va : Nat → Nat → Int32} {vb : Nat → Nat → Int64} (hf : f_Mo_leap nf p0 p1 p2 si sj sa sb = some (r0, vi, vj, va, vb)) : Met l y_Mo_leap (wd y_Mo_leap b_Mo_leap 4 (some .long)) ({ frames := 1, cells := 0, slots := 0, locals := 21 }) (MU dC dI (moW h0 r cA si sj sa sb) (moT cA) sz [.ref h0, .int p0, .int p1, .int p2]) (MV (some (.long r0)) (fun t => va_P (dC, dI) classes (moW h0 r cA vi vj va vb) t.heap) (va_A (moW h0 r cA si sj sa sb) sz)) 0 0 (va_A (moW h0 r cA si sj sa sb) sz) :=
  met_M (plainFor_of_name (by decide)) (Nat.le_of_ble_eq_true rfl) (fun p e R s m args below meth c ls hRc hRs hsz hin C0 hST hK hP hD hl => by
    obtain ⟨hx, hb, hr, hml, hown, hts, hlocks, hRf, hRl⟩ := id C0
    subst hsz
    have hA : ∀ q : Nat, s.heap.size ≤ q → va_A (moW h0 r cA si sj sa sb) s.heap.size q := fun q h => Or.inr h
    have hS : va_S (va_A (moW h0 r cA si sj sa sb) s.heap.size) s.heap s.heap [] := va_S.rf
    unfold f_Mo_leap at hf
    exact k_Mo_leap_0 C0 hST hA hK (fun pc ls H locs hd hP hD hS => W.lret hx hb hr (fun t ht hW => ⟨⟨rfl, mo_end ht hP⟩, hS.F ht⟩) hS.2.2 hd) hf hP hD hS (lv_sub hl [0, 1, 2, 3] rfl))
-- ZoneFilesModel.isBlank(I)Z
def f_Mo_isBlank_17 (nf : Nat) (s0 : Int32) : Option (Int32) :=
  if s0 = 0 ∨ s0 = 1 then some s0 else none
def f_Mo_isBlank_12 (nf : Nat) : Option (Int32) :=
  f_Mo_isBlank_17 nf 1
def f_Mo_isBlank_0 (nf : Nat) (x0 : Int32) : Option (Int32) :=
  if x0 = (32 : Int32) then
  f_Mo_isBlank_12 nf
  else
  if x0 = (9 : Int32) then
    f_Mo_isBlank_12 nf
    else
    f_Mo_isBlank_17 nf 0
def f_Mo_isBlank (nf : Nat) (p0 : Int32) : Option (Int32) :=
  f_Mo_isBlank_0 nf p0
section
variable {p : Program} {l : Launch} {e : Env} {R : Room} {s : State} {m : MethodId} {args : Array Value} {below : List Frame} {meth : Method} {c : Code} {Q : State → Prop} {dC : Nat → ClassId} {dI : Nat → Nat → Nat} {nf : Nat}
variable {r0 : Int32}
set_option maxHeartbeats 400000 in
set_option maxRecDepth 100000 in
theorem k_Mo_isBlank_17 (C0 : Cx p s m meth c args R b_Mo_isBlank "ZoneFilesModel" 1 (some .boolean) 0 0) (hST : ST (fun _ => False) s s.heap) (hK : va_K (dC, dI) classes [] s) (hE : ∀ (pc : Nat) (ls : Array Slot), decode b_Mo_isBlank pc = .ok (.ireturn, 1) → narrow .boolean (.int r0) = .int r0 → W p l e R s m args below meth c s.heap [] 0 0 Q (F0 m pc ls [.int r0])) {s0 : Int32} (hf : f_Mo_isBlank_17 nf s0 = some r0) {ls : Array Slot} (hl : lv_has ls 1 []) : W p l e R s m args below meth c s.heap [] 0 0 Q (F0 m 17 ls [.int s0]) := by
  obtain ⟨hx, hb, hr, hml, hown, hts, hlocks, hRf, hRl⟩ := id C0
  obtain ⟨tms, hZms, hTms, tmg, hZmg, hTmg, hNW⟩ := id hST
  unfold f_Mo_isBlank_17 at hf
  obtain ⟨c_2, hf⟩ := it_g hf
  have e := rs hf
  subst e
  exact hE _ _ d_Mo_isBlank_17 (nb_of c_2)
set_option maxHeartbeats 400000 in
set_option maxRecDepth 100000 in
theorem k_Mo_isBlank_12 (C0 : Cx p s m meth c args R b_Mo_isBlank "ZoneFilesModel" 1 (some .boolean) 0 0) (hST : ST (fun _ => False) s s.heap) (hK : va_K (dC, dI) classes [] s) (hE : ∀ (pc : Nat) (ls : Array Slot), decode b_Mo_isBlank pc = .ok (.ireturn, 1) → narrow .boolean (.int r0) = .int r0 → W p l e R s m args below meth c s.heap [] 0 0 Q (F0 m pc ls [.int r0])) (hf : f_Mo_isBlank_12 nf = some r0) {ls : Array Slot} (hl : lv_has ls 1 []) : W p l e R s m args below meth c s.heap [] 0 0 Q (F0 m 12 ls []) := by
  obtain ⟨hx, hb, hr, hml, hown, hts, hlocks, hRf, hRl⟩ := id C0
  obtain ⟨tms, hZms, hTms, tmg, hZmg, hTmg, hNW⟩ := id hST
  unfold f_Mo_isBlank_12 at hf
  refine lv_iconst (v := 1) hx hb d_Mo_isBlank_12 (by decide) ?_
  refine lv_goto (tgt := 17) hx hb d_Mo_isBlank_13 (by decide) ?_
  exact k_Mo_isBlank_17 C0 hST hK hE hf (lv_sub hl [] rfl)
set_option maxHeartbeats 400000 in
set_option maxRecDepth 100000 in
theorem k_Mo_isBlank_0 (C0 : Cx p s m meth c args R b_Mo_isBlank "ZoneFilesModel" 1 (some .boolean) 0 0) (hST : ST (fun _ => False) s s.heap) (hK : va_K (dC, dI) classes [] s) (hE : ∀ (pc : Nat) (ls : Array Slot), decode b_Mo_isBlank pc = .ok (.ireturn, 1) → narrow .boolean (.int r0) = .int r0 → W p l e R s m args below meth c s.heap [] 0 0 Q (F0 m pc ls [.int r0])) {x0 : Int32} (hf : f_Mo_isBlank_0 nf x0 = some r0) {ls : Array Slot} (hl : lv_has ls 1 [(0, .int x0)]) : W p l e R s m args below meth c s.heap [] 0 0 Q (F0 m 0 ls []) := by
  obtain ⟨hx, hb, hr, hml, hown, hts, hlocks, hRf, hRl⟩ := id C0
  obtain ⟨tms, hZms, hTms, tmg, hZmg, hTmg, hNW⟩ := id hST
  unfold f_Mo_isBlank_0 at hf
  refine lv_iload_n hx hb d_Mo_isBlank_0 rfl (lv_at hl 0 rfl) ?_
  refine lv_bipush (v := 32) hx hb d_Mo_isBlank_1 (by decide) ?_
  refine lv_icmp_eq (tgt := 12) hx hb d_Mo_isBlank_3 (by decide) (fun c_1 => ?_) (fun c_1 => ?_)
  · have hf := it_t c_1 hf
    exact k_Mo_isBlank_12 C0 hST hK hE hf (lv_sub hl [] rfl)
  · have hf := it_f c_1 hf
    refine lv_iload_n hx hb d_Mo_isBlank_6 rfl (lv_at hl 0 rfl) ?_
    refine lv_bipush (v := 9) hx hb d_Mo_isBlank_7 (by decide) ?_
    refine lv_icmp_ne (tgt := 16) hx hb d_Mo_isBlank_9 (by decide) (fun c_3 => ?_) (fun c_3 => ?_)
    · have hf := it_f c_3 hf
      refine lv_iconst (v := 0) hx hb d_Mo_isBlank_16 (by decide) ?_
      exact k_Mo_isBlank_17 C0 hST hK hE hf (lv_sub hl [] rfl)
    · have hf := it_t c_3 hf
      exact k_Mo_isBlank_12 C0 hST hK hE hf (lv_sub hl [] rfl)
end
set_option maxHeartbeats 400000 in
set_option maxRecDepth 100000 in
theorem c_Mo_isBlank (l : Launch) (dC : Nat → ClassId) (dI : Nat → Nat → Nat) (nf : Nat) (p0 : Int32) {r0 : Int32} (hf : f_Mo_isBlank nf p0 = some r0) : Met l y_Mo_isBlank (wd y_Mo_isBlank b_Mo_isBlank 1 (some .boolean)) ({ frames := 0, cells := 0, slots := 0, locals := 0 }) (RO dC dI [] [] [.int p0]) (SV (some (.int r0))) 0 0 (fun _ => False) :=
  met_S (plainFor_of_name (by decide)) (Nat.le_of_ble_eq_true rfl) (fun p e R s m args below meth c ls C0 hST hK hP hl => by
    obtain ⟨hx, hb, hr, hml, hown, hts, hlocks, hRf, hRl⟩ := id C0
    unfold f_Mo_isBlank at hf
    exact k_Mo_isBlank_0 C0 hST hK (fun pc ls hd hn => W.zret hx hb hr hn (fun t ht hW => ⟨rfl, ht⟩) (fun q h => by cases h) hd) hf (lv_sub hl [0] rfl))
