theorem dX10_actOnLeaf_77 : decode cX10_actOnLeaf 77 = .ok (.aload_n 0, 1) := by decide +kernel
theorem dX10_actOnLeaf_78 : decode cX10_actOnLeaf 78 = .ok (.getfield 148, 3) := by decide +kernel
theorem dX10_actOnLeaf_81 : decode cX10_actOnLeaf 81 = .ok (.iload_n 1, 1) := by decide +kernel
theorem dX10_actOnLeaf_82 : decode cX10_actOnLeaf 82 = .ok (.iconst (-1), 1) := by decide +kernel
theorem dX10_actOnLeaf_83 : decode cX10_actOnLeaf 83 = .ok (.iastore, 1) := by decide +kernel
theorem dX10_actOnLeaf_84 : decode cX10_actOnLeaf 84 = .ok (.iload 9, 2) := by decide +kernel
theorem dX10_actOnLeaf_86 : decode cX10_actOnLeaf 86 = .ok (.istore 8, 2) := by decide +kernel
theorem dX10_actOnLeaf_88 : decode cX10_actOnLeaf 88 = .ok (.goto (-46), 3) := by decide +kernel
theorem dX10_actOnLeaf_91 : decode cX10_actOnLeaf 91 = .ok (.return_, 1) := by decide +kernel
theorem dX10_actOnLeaf_92 : decode cX10_actOnLeaf 92 = .ok (.iload 8, 2) := by decide +kernel
theorem dX10_actOnLeaf_94 : decode cX10_actOnLeaf 94 = .ok (.iconst (-1), 1) := by decide +kernel
theorem dX10_actOnLeaf_95 : decode cX10_actOnLeaf 95 = .ok (.if_icmp .eq 19, 3) := by decide +kernel
theorem dX10_actOnLeaf_98 : decode cX10_actOnLeaf 98 = .ok (.aload_n 0, 1) := by decide +kernel
theorem dX10_actOnLeaf_99 : decode cX10_actOnLeaf 99 = .ok (.getfield 154, 3) := by decide +kernel
theorem dX10_actOnLeaf_102 : decode cX10_actOnLeaf 102 = .ok (.iload 8, 2) := by decide +kernel
theorem dX10_actOnLeaf_104 : decode cX10_actOnLeaf 104 = .ok (.laload, 1) := by decide +kernel
theorem dX10_actOnLeaf_105 : decode cX10_actOnLeaf 105 = .ok (.lload_n 3, 1) := by decide +kernel
theorem dX10_actOnLeaf_106 : decode cX10_actOnLeaf 106 = .ok (.lcmp, 1) := by decide +kernel
theorem dX10_actOnLeaf_107 : decode cX10_actOnLeaf 107 = .ok (.ifCond .ne 7, 3) := by decide +kernel
theorem dX10_actOnLeaf_110 : decode cX10_actOnLeaf 110 = .ok (.iconst 1, 1) := by decide +kernel
theorem dX10_actOnLeaf_111 : decode cX10_actOnLeaf 111 = .ok (.goto 4, 3) := by decide +kernel
theorem dX10_actOnLeaf_114 : decode cX10_actOnLeaf 114 = .ok (.iconst 0, 1) := by decide +kernel
theorem dX10_actOnLeaf_115 : decode cX10_actOnLeaf 115 = .ok (.istore 9, 2) := by decide +kernel
theorem dX10_actOnLeaf_117 : decode cX10_actOnLeaf 117 = .ok (.aload_n 0, 1) := by decide +kernel
theorem dX10_actOnLeaf_118 : decode cX10_actOnLeaf 118 = .ok (.iload 9, 2) := by decide +kernel
theorem dX10_actOnLeaf_120 : decode cX10_actOnLeaf 120 = .ok (.ifCond .eq 13, 3) := by decide +kernel
theorem dX10_actOnLeaf_123 : decode cX10_actOnLeaf 123 = .ok (.aload_n 0, 1) := by decide +kernel
theorem dX10_actOnLeaf_124 : decode cX10_actOnLeaf 124 = .ok (.getfield 157, 3) := by decide +kernel
theorem dX10_actOnLeaf_127 : decode cX10_actOnLeaf 127 = .ok (.iload 8, 2) := by decide +kernel
theorem dX10_actOnLeaf_129 : decode cX10_actOnLeaf 129 = .ok (.iaload, 1) := by decide +kernel
theorem dX10_actOnLeaf_130 : decode cX10_actOnLeaf 130 = .ok (.goto 4, 3) := by decide +kernel
theorem dX10_actOnLeaf_133 : decode cX10_actOnLeaf 133 = .ok (.iconst (-1), 1) := by decide +kernel
theorem dX10_actOnLeaf_134 : decode cX10_actOnLeaf 134 = .ok (.putfield 34, 3) := by decide +kernel
theorem dX10_actOnLeaf_137 : decode cX10_actOnLeaf 137 = .ok (.iconst 0, 1) := by decide +kernel
theorem dX10_actOnLeaf_138 : decode cX10_actOnLeaf 138 = .ok (.istore 10, 2) := by decide +kernel
theorem dX10_actOnLeaf_140 : decode cX10_actOnLeaf 140 = .ok (.iload 10, 2) := by decide +kernel
theorem dX10_actOnLeaf_142 : decode cX10_actOnLeaf 142 = .ok (.bipush 20, 2) := by decide +kernel
theorem dX10_actOnLeaf_144 : decode cX10_actOnLeaf 144 = .ok (.if_icmp .ge 34, 3) := by decide +kernel
theorem dX10_actOnLeaf_147 : decode cX10_actOnLeaf 147 = .ok (.iload 9, 2) := by decide +kernel
theorem dX10_actOnLeaf_149 : decode cX10_actOnLeaf 149 = .ok (.ifCond .eq 29, 3) := by decide +kernel
theorem dX10_actOnLeaf_152 : decode cX10_actOnLeaf 152 = .ok (.aload_n 0, 1) := by decide +kernel
theorem dX10_actOnLeaf_153 : decode cX10_actOnLeaf 153 = .ok (.getfield 40, 3) := by decide +kernel
theorem dX10_actOnLeaf_156 : decode cX10_actOnLeaf 156 = .ok (.iload 10, 2) := by decide +kernel
theorem dX10_actOnLeaf_158 : decode cX10_actOnLeaf 158 = .ok (.aload_n 0, 1) := by decide +kernel
theorem dX10_actOnLeaf_159 : decode cX10_actOnLeaf 159 = .ok (.getfield 161, 3) := by decide +kernel
theorem dX10_actOnLeaf_162 : decode cX10_actOnLeaf 162 = .ok (.bipush 20, 2) := by decide +kernel
theorem dX10_actOnLeaf_164 : decode cX10_actOnLeaf 164 = .ok (.iload 8, 2) := by decide +kernel
theorem dX10_actOnLeaf_166 : decode cX10_actOnLeaf 166 = .ok (.imul, 1) := by decide +kernel
theorem dX10_actOnLeaf_167 : decode cX10_actOnLeaf 167 = .ok (.iload 10, 2) := by decide +kernel
theorem dX10_actOnLeaf_169 : decode cX10_actOnLeaf 169 = .ok (.iadd, 1) := by decide +kernel
theorem dX10_actOnLeaf_170 : decode cX10_actOnLeaf 170 = .ok (.baload, 1) := by decide +kernel
theorem dX10_actOnLeaf_171 : decode cX10_actOnLeaf 171 = .ok (.bastore, 1) := by decide +kernel
theorem dX10_actOnLeaf_172 : decode cX10_actOnLeaf 172 = .ok (.iinc 10 1, 3) := by decide +kernel
theorem dX10_actOnLeaf_175 : decode cX10_actOnLeaf 175 = .ok (.goto (-35), 3) := by decide +kernel
theorem dX10_actOnLeaf_178 : decode cX10_actOnLeaf 178 = .ok (.aload_n 0, 1) := by decide +kernel
theorem dX10_actOnLeaf_179 : decode cX10_actOnLeaf 179 = .ok (.iload_n 2, 1) := by decide +kernel
theorem dX10_actOnLeaf_180 : decode cX10_actOnLeaf 180 = .ok (.invokevirtual 80, 3) := by decide +kernel
theorem dX10_actOnLeaf_183 : decode cX10_actOnLeaf 183 = .ok (.ifCond .eq 10, 3) := by decide +kernel
theorem dX10_actOnLeaf_186 : decode cX10_actOnLeaf 186 = .ok (.aload_n 0, 1) := by decide +kernel
theorem dX10_actOnLeaf_187 : decode cX10_actOnLeaf 187 = .ok (.getfield 148, 3) := by decide +kernel
theorem dX10_actOnLeaf_190 : decode cX10_actOnLeaf 190 = .ok (.iload_n 1, 1) := by decide +kernel
theorem dX10_actOnLeaf_191 : decode cX10_actOnLeaf 191 = .ok (.iconst (-1), 1) := by decide +kernel
theorem dX10_actOnLeaf_192 : decode cX10_actOnLeaf 192 = .ok (.iastore, 1) := by decide +kernel
theorem dX10_actOnLeaf_193 : decode cX10_actOnLeaf 193 = .ok (.aload_n 0, 1) := by decide +kernel
theorem dX10_actOnLeaf_194 : decode cX10_actOnLeaf 194 = .ok (.getfield 34, 3) := by decide +kernel
theorem dX10_actOnLeaf_197 : decode cX10_actOnLeaf 197 = .ok (.iconst (-1), 1) := by decide +kernel
theorem dX10_actOnLeaf_198 : decode cX10_actOnLeaf 198 = .ok (.if_icmp .ne 16, 3) := by decide +kernel
theorem dX10_actOnLeaf_201 : decode cX10_actOnLeaf 201 = .ok (.iload 9, 2) := by decide +kernel
theorem dX10_actOnLeaf_203 : decode cX10_actOnLeaf 203 = .ok (.ifCond .eq 10, 3) := by decide +kernel
theorem dX10_actOnLeaf_206 : decode cX10_actOnLeaf 206 = .ok (.aload_n 0, 1) := by decide +kernel
theorem dX10_actOnLeaf_207 : decode cX10_actOnLeaf 207 = .ok (.iload_n 1, 1) := by decide +kernel
theorem dX10_actOnLeaf_208 : decode cX10_actOnLeaf 208 = .ok (.iload 7, 2) := by decide +kernel
theorem dX10_actOnLeaf_210 : decode cX10_actOnLeaf 210 = .ok (.invokevirtual 296, 3) := by decide +kernel
theorem dX10_actOnLeaf_213 : decode cX10_actOnLeaf 213 = .ok (.return_, 1) := by decide +kernel
theorem dX10_actOnLeaf_214 : decode cX10_actOnLeaf 214 = .ok (.iload 9, 2) := by decide +kernel
theorem dX10_actOnLeaf_216 : decode cX10_actOnLeaf 216 = .ok (.ifCond .ne 13, 3) := by decide +kernel
theorem dX10_actOnLeaf_219 : decode cX10_actOnLeaf 219 = .ok (.aload_n 0, 1) := by decide +kernel
theorem dX10_actOnLeaf_220 : decode cX10_actOnLeaf 220 = .ok (.iload_n 1, 1) := by decide +kernel
theorem dX10_actOnLeaf_221 : decode cX10_actOnLeaf 221 = .ok (.iload 7, 2) := by decide +kernel
theorem dX10_actOnLeaf_223 : decode cX10_actOnLeaf 223 = .ok (.lload_n 3, 1) := by decide +kernel
theorem dX10_actOnLeaf_224 : decode cX10_actOnLeaf 224 = .ok (.invokevirtual 299, 3) := by decide +kernel
theorem dX10_actOnLeaf_227 : decode cX10_actOnLeaf 227 = .ok (.istore 8, 2) := by decide +kernel
theorem dX10_actOnLeaf_229 : decode cX10_actOnLeaf 229 = .ok (.aload_n 0, 1) := by decide +kernel
theorem dX10_actOnLeaf_230 : decode cX10_actOnLeaf 230 = .ok (.getfield 157, 3) := by decide +kernel
theorem dX10_actOnLeaf_233 : decode cX10_actOnLeaf 233 = .ok (.iload 8, 2) := by decide +kernel
theorem dX10_actOnLeaf_235 : decode cX10_actOnLeaf 235 = .ok (.aload_n 0, 1) := by decide +kernel
theorem dX10_actOnLeaf_236 : decode cX10_actOnLeaf 236 = .ok (.getfield 34, 3) := by decide +kernel
theorem dX10_actOnLeaf_239 : decode cX10_actOnLeaf 239 = .ok (.iastore, 1) := by decide +kernel
theorem dX10_actOnLeaf_240 : decode cX10_actOnLeaf 240 = .ok (.iconst 0, 1) := by decide +kernel
theorem dX10_actOnLeaf_241 : decode cX10_actOnLeaf 241 = .ok (.istore 10, 2) := by decide +kernel
theorem dX10_actOnLeaf_243 : decode cX10_actOnLeaf 243 = .ok (.iload 10, 2) := by decide +kernel
theorem dX10_actOnLeaf_245 : decode cX10_actOnLeaf 245 = .ok (.bipush 20, 2) := by decide +kernel
theorem dX10_actOnLeaf_247 : decode cX10_actOnLeaf 247 = .ok (.if_icmp .ge 29, 3) := by decide +kernel
theorem dX10_actOnLeaf_250 : decode cX10_actOnLeaf 250 = .ok (.aload_n 0, 1) := by decide +kernel
theorem dX10_actOnLeaf_251 : decode cX10_actOnLeaf 251 = .ok (.getfield 161, 3) := by decide +kernel
theorem dX10_actOnLeaf_254 : decode cX10_actOnLeaf 254 = .ok (.bipush 20, 2) := by decide +kernel
theorem dX10_actOnLeaf_256 : decode cX10_actOnLeaf 256 = .ok (.iload 8, 2) := by decide +kernel
theorem dX10_actOnLeaf_258 : decode cX10_actOnLeaf 258 = .ok (.imul, 1) := by decide +kernel
theorem dX10_actOnLeaf_259 : decode cX10_actOnLeaf 259 = .ok (.iload 10, 2) := by decide +kernel
theorem dX10_actOnLeaf_261 : decode cX10_actOnLeaf 261 = .ok (.iadd, 1) := by decide +kernel
theorem dX10_actOnLeaf_262 : decode cX10_actOnLeaf 262 = .ok (.aload_n 0, 1) := by decide +kernel
theorem dX10_actOnLeaf_263 : decode cX10_actOnLeaf 263 = .ok (.getfield 40, 3) := by decide +kernel
theorem dX10_actOnLeaf_266 : decode cX10_actOnLeaf 266 = .ok (.iload 10, 2) := by decide +kernel
theorem dX10_actOnLeaf_268 : decode cX10_actOnLeaf 268 = .ok (.baload, 1) := by decide +kernel
theorem dX10_actOnLeaf_269 : decode cX10_actOnLeaf 269 = .ok (.bastore, 1) := by decide +kernel
theorem dX10_actOnLeaf_270 : decode cX10_actOnLeaf 270 = .ok (.iinc 10 1, 3) := by decide +kernel
theorem dX10_actOnLeaf_273 : decode cX10_actOnLeaf 273 = .ok (.goto (-30), 3) := by decide +kernel
theorem dX10_actOnLeaf_276 : decode cX10_actOnLeaf 276 = .ok (.return_, 1) := by decide +kernel
theorem dX10_kidFor_0 : decode cX10_kidFor 0 = .ok (.iconst 0, 1) := by decide +kernel
theorem dX10_kidFor_1 : decode cX10_kidFor 1 = .ok (.istore 4, 2) := by decide +kernel
theorem dX10_kidFor_3 : decode cX10_kidFor 3 = .ok (.iload 4, 2) := by decide +kernel
theorem dX10_kidFor_5 : decode cX10_kidFor 5 = .ok (.iconst 1, 1) := by decide +kernel
theorem dX10_kidFor_6 : decode cX10_kidFor 6 = .ok (.iadd, 1) := by decide +kernel
theorem dX10_kidFor_7 : decode cX10_kidFor 7 = .ok (.aload_n 0, 1) := by decide +kernel
theorem dX10_kidFor_8 : decode cX10_kidFor 8 = .ok (.getfield 129, 3) := by decide +kernel
theorem dX10_kidFor_11 : decode cX10_kidFor 11 = .ok (.iload_n 1, 1) := by decide +kernel
theorem dX10_kidFor_12 : decode cX10_kidFor 12 = .ok (.iaload, 1) := by decide +kernel
theorem dX10_kidFor_13 : decode cX10_kidFor 13 = .ok (.if_icmp .ge 29, 3) := by decide +kernel
theorem dX10_kidFor_16 : decode cX10_kidFor 16 = .ok (.aload_n 0, 1) := by decide +kernel
theorem dX10_kidFor_17 : decode cX10_kidFor 17 = .ok (.getfield 136, 3) := by decide +kernel
theorem dX10_kidFor_20 : decode cX10_kidFor 20 = .ok (.sipush 128, 3) := by decide +kernel
theorem dX10_kidFor_23 : decode cX10_kidFor 23 = .ok (.iload_n 1, 1) := by decide +kernel
theorem dX10_kidFor_24 : decode cX10_kidFor 24 = .ok (.imul, 1) := by decide +kernel
theorem dX10_kidFor_25 : decode cX10_kidFor 25 = .ok (.iload 4, 2) := by decide +kernel
theorem dX10_kidFor_27 : decode cX10_kidFor 27 = .ok (.iadd, 1) := by decide +kernel
theorem dX10_kidFor_28 : decode cX10_kidFor 28 = .ok (.iconst 1, 1) := by decide +kernel
theorem dX10_kidFor_29 : decode cX10_kidFor 29 = .ok (.iadd, 1) := by decide +kernel
theorem dX10_kidFor_30 : decode cX10_kidFor 30 = .ok (.laload, 1) := by decide +kernel
theorem dX10_kidFor_31 : decode cX10_kidFor 31 = .ok (.lload_n 2, 1) := by decide +kernel
theorem dX10_kidFor_32 : decode cX10_kidFor 32 = .ok (.lcmp, 1) := by decide +kernel
theorem dX10_kidFor_33 : decode cX10_kidFor 33 = .ok (.ifCond .gt 9, 3) := by decide +kernel
theorem dX10_kidFor_36 : decode cX10_kidFor 36 = .ok (.iinc 4 1, 3) := by decide +kernel
theorem dX10_kidFor_39 : decode cX10_kidFor 39 = .ok (.goto (-36), 3) := by decide +kernel
theorem dX10_kidFor_42 : decode cX10_kidFor 42 = .ok (.iload 4, 2) := by decide +kernel
theorem dX10_kidFor_44 : decode cX10_kidFor 44 = .ok (.ireturn, 1) := by decide +kernel
theorem dX10_comes_0 : decode cX10_comes 0 = .ok (.aload_n 0, 1) := by decide +kernel
theorem dX10_comes_1 : decode cX10_comes 1 = .ok (.getfield 46, 3) := by decide +kernel
theorem dX10_comes_4 : decode cX10_comes 4 = .ok (.iload_n 2, 1) := by decide +kernel
theorem dX10_comes_5 : decode cX10_comes 5 = .ok (.iaload, 1) := by decide +kernel
theorem dX10_comes_6 : decode cX10_comes 6 = .ok (.iconst 5, 1) := by decide +kernel
theorem dX10_comes_7 : decode cX10_comes 7 = .ok (.if_icmp .eq 13, 3) := by decide +kernel
theorem dX10_comes_10 : decode cX10_comes 10 = .ok (.aload_n 0, 1) := by decide +kernel
theorem dX10_comes_11 : decode cX10_comes 11 = .ok (.iload_n 1, 1) := by decide +kernel
theorem dX10_comes_12 : decode cX10_comes 12 = .ok (.iload_n 2, 1) := by decide +kernel
theorem dX10_comes_13 : decode cX10_comes 13 = .ok (.lload_n 3, 1) := by decide +kernel
theorem dX10_comes_14 : decode cX10_comes 14 = .ok (.lload 5, 2) := by decide +kernel
theorem dX10_comes_16 : decode cX10_comes 16 = .ok (.invokevirtual 303, 3) := by decide +kernel
theorem dX10_comes_19 : decode cX10_comes 19 = .ok (.return_, 1) := by decide +kernel
theorem dX10_comes_20 : decode cX10_comes 20 = .ok (.lload_n 3, 1) := by decide +kernel
theorem dX10_comes_21 : decode cX10_comes 21 = .ok (.lstore 7, 2) := by decide +kernel
theorem dX10_comes_23 : decode cX10_comes 23 = .ok (.aload_n 0, 1) := by decide +kernel
theorem dX10_comes_24 : decode cX10_comes 24 = .ok (.iload_n 1, 1) := by decide +kernel
theorem dX10_comes_25 : decode cX10_comes 25 = .ok (.lload_n 3, 1) := by decide +kernel
theorem dX10_comes_26 : decode cX10_comes 26 = .ok (.invokevirtual 307, 3) := by decide +kernel
theorem dX10_comes_29 : decode cX10_comes 29 = .ok (.istore 9, 2) := by decide +kernel
theorem dX10_comes_31 : decode cX10_comes 31 = .ok (.iload 9, 2) := by decide +kernel
theorem dX10_comes_33 : decode cX10_comes 33 = .ok (.aload_n 0, 1) := by decide +kernel
theorem dX10_comes_34 : decode cX10_comes 34 = .ok (.getfield 129, 3) := by decide +kernel
theorem dX10_comes_37 : decode cX10_comes 37 = .ok (.iload_n 1, 1) := by decide +kernel
theorem dX10_comes_38 : decode cX10_comes 38 = .ok (.iaload, 1) := by decide +kernel
theorem dX10_comes_39 : decode cX10_comes 39 = .ok (.if_icmp .ge 109, 3) := by decide +kernel
theorem dX10_comes_42 : decode cX10_comes 42 = .ok (.lload 7, 2) := by decide +kernel
theorem dX10_comes_44 : decode cX10_comes 44 = .ok (.lload 5, 2) := by decide +kernel
theorem dX10_comes_46 : decode cX10_comes 46 = .ok (.lcmp, 1) := by decide +kernel
theorem dX10_comes_47 : decode cX10_comes 47 = .ok (.ifCond .gt 101, 3) := by decide +kernel
theorem dX10_comes_50 : decode cX10_comes 50 = .ok (.iload 9, 2) := by decide +kernel
theorem dX10_comes_52 : decode cX10_comes 52 = .ok (.iconst 1, 1) := by decide +kernel
theorem dX10_comes_53 : decode cX10_comes 53 = .ok (.iadd, 1) := by decide +kernel
theorem dX10_comes_54 : decode cX10_comes 54 = .ok (.aload_n 0, 1) := by decide +kernel
theorem dX10_comes_55 : decode cX10_comes 55 = .ok (.getfield 129, 3) := by decide +kernel
theorem dX10_comes_58 : decode cX10_comes 58 = .ok (.iload_n 1, 1) := by decide +kernel
theorem dX10_comes_59 : decode cX10_comes 59 = .ok (.iaload, 1) := by decide +kernel
theorem dX10_comes_60 : decode cX10_comes 60 = .ok (.if_icmp .eq 24, 3) := by decide +kernel
theorem dX10_comes_63 : decode cX10_comes 63 = .ok (.aload_n 0, 1) := by decide +kernel
theorem dX10_comes_64 : decode cX10_comes 64 = .ok (.getfield 136, 3) := by decide +kernel
theorem dX10_comes_67 : decode cX10_comes 67 = .ok (.sipush 128, 3) := by decide +kernel
theorem dX10_comes_70 : decode cX10_comes 70 = .ok (.iload_n 1, 1) := by decide +kernel
theorem dX10_comes_71 : decode cX10_comes 71 = .ok (.imul, 1) := by decide +kernel
theorem dX10_comes_72 : decode cX10_comes 72 = .ok (.iload 9, 2) := by decide +kernel
theorem dX10_comes_74 : decode cX10_comes 74 = .ok (.iadd, 1) := by decide +kernel
theorem dX10_comes_75 : decode cX10_comes 75 = .ok (.iconst 1, 1) := by decide +kernel
theorem dX10_comes_76 : decode cX10_comes 76 = .ok (.iadd, 1) := by decide +kernel
theorem dX10_comes_77 : decode cX10_comes 77 = .ok (.laload, 1) := by decide +kernel
theorem dX10_comes_78 : decode cX10_comes 78 = .ok (.lload 5, 2) := by decide +kernel
theorem dX10_comes_80 : decode cX10_comes 80 = .ok (.lcmp, 1) := by decide +kernel
theorem dX10_comes_81 : decode cX10_comes 81 = .ok (.ifCond .le 7, 3) := by decide +kernel
theorem dX10_comes_84 : decode cX10_comes 84 = .ok (.iconst 1, 1) := by decide +kernel
theorem dX10_comes_85 : decode cX10_comes 85 = .ok (.goto 4, 3) := by decide +kernel
theorem dX10_comes_88 : decode cX10_comes 88 = .ok (.iconst 0, 1) := by decide +kernel
theorem dX10_comes_89 : decode cX10_comes 89 = .ok (.istore 10, 2) := by decide +kernel
theorem dX10_comes_91 : decode cX10_comes 91 = .ok (.iload 10, 2) := by decide +kernel
theorem dX10_comes_93 : decode cX10_comes 93 = .ok (.ifCond .eq 8, 3) := by decide +kernel
theorem dX10_comes_96 : decode cX10_comes 96 = .ok (.lload 5, 2) := by decide +kernel
theorem dX10_comes_98 : decode cX10_comes 98 = .ok (.goto 20, 3) := by decide +kernel
theorem dX10_comes_101 : decode cX10_comes 101 = .ok (.aload_n 0, 1) := by decide +kernel
theorem dX10_comes_102 : decode cX10_comes 102 = .ok (.getfield 136, 3) := by decide +kernel
theorem dX10_comes_105 : decode cX10_comes 105 = .ok (.sipush 128, 3) := by decide +kernel
theorem dX10_comes_108 : decode cX10_comes 108 = .ok (.iload_n 1, 1) := by decide +kernel
theorem dX10_comes_109 : decode cX10_comes 109 = .ok (.imul, 1) := by decide +kernel
theorem dX10_comes_110 : decode cX10_comes 110 = .ok (.iload 9, 2) := by decide +kernel
theorem dX10_comes_112 : decode cX10_comes 112 = .ok (.iadd, 1) := by decide +kernel
theorem dX10_comes_113 : decode cX10_comes 113 = .ok (.iconst 1, 1) := by decide +kernel
theorem dX10_comes_114 : decode cX10_comes 114 = .ok (.iadd, 1) := by decide +kernel
theorem dX10_comes_115 : decode cX10_comes 115 = .ok (.laload, 1) := by decide +kernel
theorem dX10_comes_116 : decode cX10_comes 116 = .ok (.lconst 1, 1) := by decide +kernel
theorem dX10_comes_117 : decode cX10_comes 117 = .ok (.lsub, 1) := by decide +kernel
theorem dX10_comes_118 : decode cX10_comes 118 = .ok (.lstore 11, 2) := by decide +kernel
theorem dX10_comes_120 : decode cX10_comes 120 = .ok (.aload_n 0, 1) := by decide +kernel
theorem dX10_comes_121 : decode cX10_comes 121 = .ok (.iload_n 1, 1) := by decide +kernel
theorem dX10_comes_122 : decode cX10_comes 122 = .ok (.iload_n 2, 1) := by decide +kernel
theorem dX10_comes_123 : decode cX10_comes 123 = .ok (.lload 7, 2) := by decide +kernel
theorem dX10_comes_125 : decode cX10_comes 125 = .ok (.lload 11, 2) := by decide +kernel
theorem dX10_comes_127 : decode cX10_comes 127 = .ok (.invokevirtual 303, 3) := by decide +kernel
theorem dX10_comes_130 : decode cX10_comes 130 = .ok (.iload 10, 2) := by decide +kernel
theorem dX10_comes_132 : decode cX10_comes 132 = .ok (.ifCond .eq 4, 3) := by decide +kernel
theorem dX10_comes_135 : decode cX10_comes 135 = .ok (.return_, 1) := by decide +kernel
theorem dX10_comes_136 : decode cX10_comes 136 = .ok (.lload 11, 2) := by decide +kernel
theorem dX10_comes_138 : decode cX10_comes 138 = .ok (.lconst 1, 1) := by decide +kernel
theorem dX10_comes_139 : decode cX10_comes 139 = .ok (.ladd, 1) := by decide +kernel
theorem dX10_comes_140 : decode cX10_comes 140 = .ok (.lstore 7, 2) := by decide +kernel
theorem dX10_comes_142 : decode cX10_comes 142 = .ok (.iinc 9 1, 3) := by decide +kernel
theorem dX10_comes_145 : decode cX10_comes 145 = .ok (.goto (-114), 3) := by decide +kernel
theorem dX10_comes_148 : decode cX10_comes 148 = .ok (.return_, 1) := by decide +kernel
theorem dX10_giveLetters_0 : decode cX10_giveLetters 0 = .ok (.iload_n 2, 1) := by decide +kernel
theorem dX10_giveLetters_1 : decode cX10_giveLetters 1 = .ok (.istore 4, 2) := by decide +kernel
theorem dX10_giveLetters_3 : decode cX10_giveLetters 3 = .ok (.iload 4, 2) := by decide +kernel
theorem dX10_giveLetters_5 : decode cX10_giveLetters 5 = .ok (.iload_n 3, 1) := by decide +kernel
theorem dX10_giveLetters_6 : decode cX10_giveLetters 6 = .ok (.if_icmp .ge 96, 3) := by decide +kernel
theorem dX10_giveLetters_9 : decode cX10_giveLetters 9 = .ok (.aload_n 0, 1) := by decide +kernel
theorem dX10_giveLetters_10 : decode cX10_giveLetters 10 = .ok (.getfield 179, 3) := by decide +kernel
theorem dX10_giveLetters_13 : decode cX10_giveLetters 13 = .ok (.iload 4, 2) := by decide +kernel
theorem dX10_giveLetters_15 : decode cX10_giveLetters 15 = .ok (.iaload, 1) := by decide +kernel
theorem dX10_giveLetters_16 : decode cX10_giveLetters 16 = .ok (.istore 5, 2) := by decide +kernel
theorem dX10_giveLetters_18 : decode cX10_giveLetters 18 = .ok (.aload_n 0, 1) := by decide +kernel
theorem dX10_giveLetters_19 : decode cX10_giveLetters 19 = .ok (.getfield 167, 3) := by decide +kernel
theorem dX10_giveLetters_22 : decode cX10_giveLetters 22 = .ok (.iload 5, 2) := by decide +kernel
theorem dX10_giveLetters_24 : decode cX10_giveLetters 24 = .ok (.iaload, 1) := by decide +kernel
theorem dX10_giveLetters_25 : decode cX10_giveLetters 25 = .ok (.istore 6, 2) := by decide +kernel
theorem dX10_giveLetters_27 : decode cX10_giveLetters 27 = .ok (.aload_n 0, 1) := by decide +kernel
theorem dX10_giveLetters_28 : decode cX10_giveLetters 28 = .ok (.getfield 170, 3) := by decide +kernel
theorem dX10_giveLetters_31 : decode cX10_giveLetters 31 = .ok (.iload 5, 2) := by decide +kernel
theorem dX10_giveLetters_33 : decode cX10_giveLetters 33 = .ok (.laload, 1) := by decide +kernel
theorem dX10_giveLetters_34 : decode cX10_giveLetters 34 = .ok (.lstore 7, 2) := by decide +kernel
theorem dX10_giveLetters_36 : decode cX10_giveLetters 36 = .ok (.aload_n 0, 1) := by decide +kernel
theorem dX10_giveLetters_37 : decode cX10_giveLetters 37 = .ok (.getfield 173, 3) := by decide +kernel
theorem dX10_giveLetters_40 : decode cX10_giveLetters 40 = .ok (.iload 5, 2) := by decide +kernel
theorem dX10_giveLetters_42 : decode cX10_giveLetters 42 = .ok (.laload, 1) := by decide +kernel
theorem dX10_giveLetters_43 : decode cX10_giveLetters 43 = .ok (.lstore 9, 2) := by decide +kernel
theorem dX10_giveLetters_45 : decode cX10_giveLetters 45 = .ok (.aload_n 0, 1) := by decide +kernel
theorem dX10_giveLetters_46 : decode cX10_giveLetters 46 = .ok (.getfield 176, 3) := by decide +kernel
theorem dX10_giveLetters_49 : decode cX10_giveLetters 49 = .ok (.iload 5, 2) := by decide +kernel
theorem dX10_giveLetters_51 : decode cX10_giveLetters 51 = .ok (.aload_n 0, 1) := by decide +kernel
theorem dX10_giveLetters_52 : decode cX10_giveLetters 52 = .ok (.getfield 286, 3) := by decide +kernel
theorem dX10_giveLetters_55 : decode cX10_giveLetters 55 = .ok (.iastore, 1) := by decide +kernel
theorem dX10_giveLetters_56 : decode cX10_giveLetters 56 = .ok (.aload_n 0, 1) := by decide +kernel
theorem dX10_giveLetters_57 : decode cX10_giveLetters 57 = .ok (.iload 5, 2) := by decide +kernel
theorem dX10_giveLetters_59 : decode cX10_giveLetters 59 = .ok (.putfield 286, 3) := by decide +kernel
theorem dX10_giveLetters_62 : decode cX10_giveLetters 62 = .ok (.aload_n 0, 1) := by decide +kernel
theorem dX10_giveLetters_63 : decode cX10_giveLetters 63 = .ok (.getfield 119, 3) := by decide +kernel
theorem dX10_giveLetters_66 : decode cX10_giveLetters 66 = .ok (.iload_n 1, 1) := by decide +kernel
theorem dX10_giveLetters_67 : decode cX10_giveLetters 67 = .ok (.baload, 1) := by decide +kernel
theorem dX10_giveLetters_68 : decode cX10_giveLetters 68 = .ok (.ifCond .eq 17, 3) := by decide +kernel
theorem dX10_giveLetters_71 : decode cX10_giveLetters 71 = .ok (.aload_n 0, 1) := by decide +kernel
theorem dX10_giveLetters_72 : decode cX10_giveLetters 72 = .ok (.iload_n 1, 1) := by decide +kernel
theorem dX10_giveLetters_73 : decode cX10_giveLetters 73 = .ok (.iload 6, 2) := by decide +kernel
theorem dX10_giveLetters_75 : decode cX10_giveLetters 75 = .ok (.lload 7, 2) := by decide +kernel
theorem dX10_giveLetters_77 : decode cX10_giveLetters 77 = .ok (.lload 9, 2) := by decide +kernel
theorem dX10_giveLetters_79 : decode cX10_giveLetters 79 = .ok (.invokevirtual 310, 3) := by decide +kernel
theorem dX10_giveLetters_82 : decode cX10_giveLetters 82 = .ok (.goto 14, 3) := by decide +kernel
theorem dX10_giveLetters_85 : decode cX10_giveLetters 85 = .ok (.aload_n 0, 1) := by decide +kernel
theorem dX10_giveLetters_86 : decode cX10_giveLetters 86 = .ok (.iload_n 1, 1) := by decide +kernel
theorem dX10_giveLetters_87 : decode cX10_giveLetters 87 = .ok (.iload 6, 2) := by decide +kernel
theorem dX10_giveLetters_89 : decode cX10_giveLetters 89 = .ok (.lload 7, 2) := by decide +kernel
theorem dX10_giveLetters_91 : decode cX10_giveLetters 91 = .ok (.lload 9, 2) := by decide +kernel
theorem dX10_giveLetters_93 : decode cX10_giveLetters 93 = .ok (.invokevirtual 313, 3) := by decide +kernel
theorem dX10_giveLetters_96 : decode cX10_giveLetters 96 = .ok (.iinc 4 1, 3) := by decide +kernel
theorem dX10_giveLetters_99 : decode cX10_giveLetters 99 = .ok (.goto (-96), 3) := by decide +kernel
theorem dX10_giveLetters_102 : decode cX10_giveLetters 102 = .ok (.aload_n 0, 1) := by decide +kernel
theorem dX10_giveLetters_103 : decode cX10_giveLetters 103 = .ok (.iload_n 1, 1) := by decide +kernel
theorem dX10_giveLetters_104 : decode cX10_giveLetters 104 = .ok (.invokevirtual 316, 3) := by decide +kernel
theorem dX10_giveLetters_107 : decode cX10_giveLetters 107 = .ok (.return_, 1) := by decide +kernel
theorem dX10_settlePage_0 : decode cX10_settlePage 0 = .ok (.aload_n 0, 1) := by decide +kernel
theorem dX10_settlePage_1 : decode cX10_settlePage 1 = .ok (.getfield 119, 3) := by decide +kernel
theorem dX10_settlePage_4 : decode cX10_settlePage 4 = .ok (.iload_n 1, 1) := by decide +kernel
theorem dX10_settlePage_5 : decode cX10_settlePage 5 = .ok (.baload, 1) := by decide +kernel
theorem dX10_settlePage_6 : decode cX10_settlePage 6 = .ok (.ifCond .ne 23, 3) := by decide +kernel
theorem dX10_settlePage_9 : decode cX10_settlePage 9 = .ok (.aload_n 0, 1) := by decide +kernel
theorem dX10_settlePage_10 : decode cX10_settlePage 10 = .ok (.getfield 145, 3) := by decide +kernel
theorem dX10_settlePage_13 : decode cX10_settlePage 13 = .ok (.iload_n 1, 1) := by decide +kernel
theorem dX10_settlePage_14 : decode cX10_settlePage 14 = .ok (.iaload, 1) := by decide +kernel
theorem dX10_settlePage_15 : decode cX10_settlePage 15 = .ok (.bipush 8, 2) := by decide +kernel
theorem dX10_settlePage_17 : decode cX10_settlePage 17 = .ok (.if_icmp .le 12, 3) := by decide +kernel
theorem dX10_settlePage_20 : decode cX10_settlePage 20 = .ok (.aload_n 0, 1) := by decide +kernel
theorem dX10_settlePage_21 : decode cX10_settlePage 21 = .ok (.iload_n 1, 1) := by decide +kernel
theorem dX10_settlePage_22 : decode cX10_settlePage 22 = .ok (.invokevirtual 320, 3) := by decide +kernel
theorem dX10_settlePage_25 : decode cX10_settlePage 25 = .ok (.istore_n 2, 1) := by decide +kernel
theorem dX10_settlePage_26 : decode cX10_settlePage 26 = .ok (.goto (-26), 3) := by decide +kernel
theorem dX10_settlePage_29 : decode cX10_settlePage 29 = .ok (.return_, 1) := by decide +kernel
theorem dX10_giveRoot_0 : decode cX10_giveRoot 0 = .ok (.aload_n 0, 1) := by decide +kernel
theorem dX10_giveRoot_1 : decode cX10_giveRoot 1 = .ok (.getfield 119, 3) := by decide +kernel
theorem dX10_giveRoot_4 : decode cX10_giveRoot 4 = .ok (.aload_n 0, 1) := by decide +kernel
theorem dX10_giveRoot_5 : decode cX10_giveRoot 5 = .ok (.getfield 277, 3) := by decide +kernel
theorem dX10_giveRoot_8 : decode cX10_giveRoot 8 = .ok (.baload, 1) := by decide +kernel
theorem dX10_giveRoot_9 : decode cX10_giveRoot 9 = .ok (.ifCond .eq 18, 3) := by decide +kernel
theorem dX10_giveRoot_12 : decode cX10_giveRoot 12 = .ok (.aload_n 0, 1) := by decide +kernel
theorem dX10_giveRoot_13 : decode cX10_giveRoot 13 = .ok (.aload_n 0, 1) := by decide +kernel
theorem dX10_giveRoot_14 : decode cX10_giveRoot 14 = .ok (.getfield 277, 3) := by decide +kernel
theorem dX10_giveRoot_17 : decode cX10_giveRoot 17 = .ok (.iload_n 1, 1) := by decide +kernel
theorem dX10_giveRoot_18 : decode cX10_giveRoot 18 = .ok (.lload_n 2, 1) := by decide +kernel
theorem dX10_giveRoot_19 : decode cX10_giveRoot 19 = .ok (.lload 4, 2) := by decide +kernel
theorem dX10_giveRoot_21 : decode cX10_giveRoot 21 = .ok (.invokevirtual 310, 3) := by decide +kernel
theorem dX10_giveRoot_24 : decode cX10_giveRoot 24 = .ok (.goto 23, 3) := by decide +kernel
theorem dX10_giveRoot_27 : decode cX10_giveRoot 27 = .ok (.aload_n 0, 1) := by decide +kernel
theorem dX10_giveRoot_28 : decode cX10_giveRoot 28 = .ok (.aload_n 0, 1) := by decide +kernel
theorem dX10_giveRoot_29 : decode cX10_giveRoot 29 = .ok (.getfield 277, 3) := by decide +kernel
theorem dX10_giveRoot_32 : decode cX10_giveRoot 32 = .ok (.iload_n 1, 1) := by decide +kernel
theorem dX10_giveRoot_33 : decode cX10_giveRoot 33 = .ok (.lload_n 2, 1) := by decide +kernel
theorem dX10_giveRoot_34 : decode cX10_giveRoot 34 = .ok (.lload 4, 2) := by decide +kernel
theorem dX10_giveRoot_36 : decode cX10_giveRoot 36 = .ok (.invokevirtual 313, 3) := by decide +kernel
theorem dX10_giveRoot_39 : decode cX10_giveRoot 39 = .ok (.aload_n 0, 1) := by decide +kernel
theorem dX10_giveRoot_40 : decode cX10_giveRoot 40 = .ok (.aload_n 0, 1) := by decide +kernel
theorem dX10_giveRoot_41 : decode cX10_giveRoot 41 = .ok (.getfield 277, 3) := by decide +kernel
theorem dX10_giveRoot_44 : decode cX10_giveRoot 44 = .ok (.invokevirtual 316, 3) := by decide +kernel
theorem dX10_giveRoot_47 : decode cX10_giveRoot 47 = .ok (.aload_n 0, 1) := by decide +kernel
theorem dX10_giveRoot_48 : decode cX10_giveRoot 48 = .ok (.invokevirtual 324, 3) := by decide +kernel
theorem dX10_giveRoot_51 : decode cX10_giveRoot 51 = .ok (.return_, 1) := by decide +kernel
theorem dX10_sinks_0 : decode cX10_sinks 0 = .ok (.iconst 0, 1) := by decide +kernel
theorem dX10_sinks_1 : decode cX10_sinks 1 = .ok (.istore_n 2, 1) := by decide +kernel
theorem dX10_sinks_2 : decode cX10_sinks 2 = .ok (.iload_n 2, 1) := by decide +kernel
theorem dX10_sinks_3 : decode cX10_sinks 3 = .ok (.aload_n 0, 1) := by decide +kernel
theorem dX10_sinks_4 : decode cX10_sinks 4 = .ok (.getfield 129, 3) := by decide +kernel
theorem dX10_sinks_7 : decode cX10_sinks 7 = .ok (.iload_n 1, 1) := by decide +kernel
theorem dX10_sinks_8 : decode cX10_sinks 8 = .ok (.iaload, 1) := by decide +kernel
theorem dX10_sinks_9 : decode cX10_sinks 9 = .ok (.if_icmp .ge 16, 3) := by decide +kernel
theorem dX10_sinks_12 : decode cX10_sinks 12 = .ok (.aload_n 0, 1) := by decide +kernel
theorem dX10_sinks_13 : decode cX10_sinks 13 = .ok (.getfield 182, 3) := by decide +kernel
theorem dX10_sinks_16 : decode cX10_sinks 16 = .ok (.iload_n 2, 1) := by decide +kernel
theorem dX10_sinks_17 : decode cX10_sinks 17 = .ok (.iconst 0, 1) := by decide +kernel
theorem dX10_sinks_18 : decode cX10_sinks 18 = .ok (.iastore, 1) := by decide +kernel
theorem dX10_sinks_19 : decode cX10_sinks 19 = .ok (.iinc 2 1, 3) := by decide +kernel
theorem dX10_sinks_22 : decode cX10_sinks 22 = .ok (.goto (-20), 3) := by decide +kernel
theorem dX10_sinks_25 : decode cX10_sinks 25 = .ok (.aload_n 0, 1) := by decide +kernel
theorem dX10_sinks_26 : decode cX10_sinks 26 = .ok (.getfield 139, 3) := by decide +kernel
theorem dX10_sinks_29 : decode cX10_sinks 29 = .ok (.iload_n 1, 1) := by decide +kernel
theorem dX10_sinks_30 : decode cX10_sinks 30 = .ok (.iaload, 1) := by decide +kernel
theorem dX10_sinks_31 : decode cX10_sinks 31 = .ok (.istore_n 2, 1) := by decide +kernel
theorem dX10_sinks_32 : decode cX10_sinks 32 = .ok (.iload_n 2, 1) := by decide +kernel
theorem dX10_sinks_33 : decode cX10_sinks 33 = .ok (.iconst (-1), 1) := by decide +kernel
theorem dX10_sinks_34 : decode cX10_sinks 34 = .ok (.if_icmp .eq 33, 3) := by decide +kernel
theorem dX10_sinks_37 : decode cX10_sinks 37 = .ok (.aload_n 0, 1) := by decide +kernel
theorem dX10_sinks_38 : decode cX10_sinks 38 = .ok (.getfield 182, 3) := by decide +kernel
theorem dX10_sinks_41 : decode cX10_sinks 41 = .ok (.aload_n 0, 1) := by decide +kernel
theorem dX10_sinks_42 : decode cX10_sinks 42 = .ok (.iload_n 1, 1) := by decide +kernel
theorem dX10_sinks_43 : decode cX10_sinks 43 = .ok (.aload_n 0, 1) := by decide +kernel
theorem dX10_sinks_44 : decode cX10_sinks 44 = .ok (.getfield 170, 3) := by decide +kernel
theorem dX10_sinks_47 : decode cX10_sinks 47 = .ok (.iload_n 2, 1) := by decide +kernel
theorem dX10_sinks_48 : decode cX10_sinks 48 = .ok (.laload, 1) := by decide +kernel
theorem dX10_sinks_49 : decode cX10_sinks 49 = .ok (.invokevirtual 307, 3) := by decide +kernel
theorem dX10_sinks_52 : decode cX10_sinks 52 = .ok (.dup2, 1) := by decide +kernel
theorem dX10_sinks_53 : decode cX10_sinks 53 = .ok (.iaload, 1) := by decide +kernel
theorem dX10_sinks_54 : decode cX10_sinks 54 = .ok (.iconst 1, 1) := by decide +kernel
theorem dX10_sinks_55 : decode cX10_sinks 55 = .ok (.iadd, 1) := by decide +kernel
theorem dX10_sinks_56 : decode cX10_sinks 56 = .ok (.iastore, 1) := by decide +kernel
theorem dX10_sinks_57 : decode cX10_sinks 57 = .ok (.aload_n 0, 1) := by decide +kernel
theorem dX10_sinks_58 : decode cX10_sinks 58 = .ok (.getfield 176, 3) := by decide +kernel
theorem dX10_sinks_61 : decode cX10_sinks 61 = .ok (.iload_n 2, 1) := by decide +kernel
theorem dX10_sinks_62 : decode cX10_sinks 62 = .ok (.iaload, 1) := by decide +kernel
theorem dX10_sinks_63 : decode cX10_sinks 63 = .ok (.istore_n 2, 1) := by decide +kernel
theorem dX10_sinks_64 : decode cX10_sinks 64 = .ok (.goto (-32), 3) := by decide +kernel
theorem dX10_sinks_67 : decode cX10_sinks 67 = .ok (.iconst 0, 1) := by decide +kernel
theorem dX10_sinks_68 : decode cX10_sinks 68 = .ok (.istore_n 2, 1) := by decide +kernel
theorem dX10_sinks_69 : decode cX10_sinks 69 = .ok (.iconst 1, 1) := by decide +kernel
theorem dX10_sinks_70 : decode cX10_sinks 70 = .ok (.istore_n 3, 1) := by decide +kernel
theorem dX10_sinks_71 : decode cX10_sinks 71 = .ok (.iload_n 3, 1) := by decide +kernel
theorem dX10_sinks_72 : decode cX10_sinks 72 = .ok (.aload_n 0, 1) := by decide +kernel
theorem dX10_sinks_73 : decode cX10_sinks 73 = .ok (.getfield 129, 3) := by decide +kernel
theorem dX10_sinks_76 : decode cX10_sinks 76 = .ok (.iload_n 1, 1) := by decide +kernel
theorem dX10_sinks_77 : decode cX10_sinks 77 = .ok (.iaload, 1) := by decide +kernel
theorem dX10_sinks_78 : decode cX10_sinks 78 = .ok (.if_icmp .ge 26, 3) := by decide +kernel
theorem dX10_sinks_81 : decode cX10_sinks 81 = .ok (.aload_n 0, 1) := by decide +kernel
theorem dX10_sinks_82 : decode cX10_sinks 82 = .ok (.getfield 182, 3) := by decide +kernel
theorem dX10_sinks_85 : decode cX10_sinks 85 = .ok (.iload_n 3, 1) := by decide +kernel
theorem dX10_sinks_86 : decode cX10_sinks 86 = .ok (.iaload, 1) := by decide +kernel
theorem dX10_sinks_87 : decode cX10_sinks 87 = .ok (.aload_n 0, 1) := by decide +kernel
theorem dX10_sinks_88 : decode cX10_sinks 88 = .ok (.getfield 182, 3) := by decide +kernel
theorem dX10_sinks_91 : decode cX10_sinks 91 = .ok (.iload_n 2, 1) := by decide +kernel
theorem dX10_sinks_92 : decode cX10_sinks 92 = .ok (.iaload, 1) := by decide +kernel
theorem dX10_sinks_93 : decode cX10_sinks 93 = .ok (.if_icmp .le 5, 3) := by decide +kernel
theorem dX10_sinks_96 : decode cX10_sinks 96 = .ok (.iload_n 3, 1) := by decide +kernel
theorem dX10_sinks_97 : decode cX10_sinks 97 = .ok (.istore_n 2, 1) := by decide +kernel
theorem dX10_sinks_98 : decode cX10_sinks 98 = .ok (.iinc 3 1, 3) := by decide +kernel
theorem dX10_sinks_101 : decode cX10_sinks 101 = .ok (.goto (-30), 3) := by decide +kernel
theorem dX10_sinks_104 : decode cX10_sinks 104 = .ok (.aload_n 0, 1) := by decide +kernel
theorem dX10_sinks_105 : decode cX10_sinks 105 = .ok (.getfield 182, 3) := by decide +kernel
theorem dX10_sinks_108 : decode cX10_sinks 108 = .ok (.iload_n 2, 1) := by decide +kernel
theorem dX10_sinks_109 : decode cX10_sinks 109 = .ok (.iaload, 1) := by decide +kernel
theorem dX10_sinks_110 : decode cX10_sinks 110 = .ok (.istore_n 3, 1) := by decide +kernel
theorem dX10_sinks_111 : decode cX10_sinks 111 = .ok (.aload_n 0, 1) := by decide +kernel
theorem dX10_sinks_112 : decode cX10_sinks 112 = .ok (.getfield 327, 3) := by decide +kernel
theorem dX10_sinks_115 : decode cX10_sinks 115 = .ok (.istore 4, 2) := by decide +kernel
theorem dX10_sinks_117 : decode cX10_sinks 117 = .ok (.aload_n 0, 1) := by decide +kernel
theorem dX10_sinks_118 : decode cX10_sinks 118 = .ok (.getfield 139, 3) := by decide +kernel
theorem dX10_sinks_121 : decode cX10_sinks 121 = .ok (.iload_n 1, 1) := by decide +kernel
theorem dX10_sinks_122 : decode cX10_sinks 122 = .ok (.iaload, 1) := by decide +kernel
theorem dX10_sinks_123 : decode cX10_sinks 123 = .ok (.istore 5, 2) := by decide +kernel
theorem dX10_sinks_125 : decode cX10_sinks 125 = .ok (.aload_n 0, 1) := by decide +kernel
theorem dX10_sinks_126 : decode cX10_sinks 126 = .ok (.getfield 139, 3) := by decide +kernel
theorem dX10_sinks_129 : decode cX10_sinks 129 = .ok (.iload_n 1, 1) := by decide +kernel
theorem dX10_sinks_130 : decode cX10_sinks 130 = .ok (.iconst (-1), 1) := by decide +kernel
theorem dX10_sinks_131 : decode cX10_sinks 131 = .ok (.iastore, 1) := by decide +kernel
theorem dX10_sinks_132 : decode cX10_sinks 132 = .ok (.aload_n 0, 1) := by decide +kernel
theorem dX10_sinks_133 : decode cX10_sinks 133 = .ok (.getfield 142, 3) := by decide +kernel
theorem dX10_sinks_136 : decode cX10_sinks 136 = .ok (.iload_n 1, 1) := by decide +kernel
theorem dX10_sinks_137 : decode cX10_sinks 137 = .ok (.iconst (-1), 1) := by decide +kernel
theorem dX10_sinks_138 : decode cX10_sinks 138 = .ok (.iastore, 1) := by decide +kernel
theorem dX10_sinks_139 : decode cX10_sinks 139 = .ok (.aload_n 0, 1) := by decide +kernel
theorem dX10_sinks_140 : decode cX10_sinks 140 = .ok (.getfield 145, 3) := by decide +kernel
theorem dX10_sinks_143 : decode cX10_sinks 143 = .ok (.iload_n 1, 1) := by decide +kernel
theorem dX10_sinks_144 : decode cX10_sinks 144 = .ok (.iconst 0, 1) := by decide +kernel
theorem dX10_sinks_145 : decode cX10_sinks 145 = .ok (.iastore, 1) := by decide +kernel
theorem dX10_sinks_146 : decode cX10_sinks 146 = .ok (.iload 5, 2) := by decide +kernel
theorem dX10_sinks_148 : decode cX10_sinks 148 = .ok (.iconst (-1), 1) := by decide +kernel
theorem dX10_sinks_149 : decode cX10_sinks 149 = .ok (.if_icmp .eq 66, 3) := by decide +kernel
theorem dX10_sinks_152 : decode cX10_sinks 152 = .ok (.aload_n 0, 1) := by decide +kernel
theorem dX10_sinks_153 : decode cX10_sinks 153 = .ok (.getfield 176, 3) := by decide +kernel
theorem dX10_sinks_156 : decode cX10_sinks 156 = .ok (.iload 5, 2) := by decide +kernel
theorem dX10_sinks_158 : decode cX10_sinks 158 = .ok (.iaload, 1) := by decide +kernel
theorem dX10_sinks_159 : decode cX10_sinks 159 = .ok (.istore 6, 2) := by decide +kernel
theorem dX10_sinks_161 : decode cX10_sinks 161 = .ok (.aload_n 0, 1) := by decide +kernel
theorem dX10_sinks_162 : decode cX10_sinks 162 = .ok (.iload_n 1, 1) := by decide +kernel
theorem dX10_sinks_163 : decode cX10_sinks 163 = .ok (.aload_n 0, 1) := by decide +kernel
theorem dX10_sinks_164 : decode cX10_sinks 164 = .ok (.getfield 170, 3) := by decide +kernel
theorem dX10_sinks_167 : decode cX10_sinks 167 = .ok (.iload 5, 2) := by decide +kernel
theorem dX10_sinks_169 : decode cX10_sinks 169 = .ok (.laload, 1) := by decide +kernel
theorem dX10_sinks_170 : decode cX10_sinks 170 = .ok (.invokevirtual 307, 3) := by decide +kernel
theorem dX10_sinks_173 : decode cX10_sinks 173 = .ok (.iload_n 2, 1) := by decide +kernel
theorem dX10_sinks_174 : decode cX10_sinks 174 = .ok (.if_icmp .ne 27, 3) := by decide +kernel
theorem dX10_sinks_177 : decode cX10_sinks 177 = .ok (.aload_n 0, 1) := by decide +kernel
theorem dX10_sinks_178 : decode cX10_sinks 178 = .ok (.getfield 179, 3) := by decide +kernel
theorem dX10_sinks_181 : decode cX10_sinks 181 = .ok (.aload_n 0, 1) := by decide +kernel
theorem dX10_sinks_182 : decode cX10_sinks 182 = .ok (.getfield 327, 3) := by decide +kernel
theorem dX10_sinks_185 : decode cX10_sinks 185 = .ok (.iload 5, 2) := by decide +kernel
theorem dX10_sinks_187 : decode cX10_sinks 187 = .ok (.iastore, 1) := by decide +kernel
theorem dX10_sinks_188 : decode cX10_sinks 188 = .ok (.aload_n 0, 1) := by decide +kernel
theorem dX10_sinks_189 : decode cX10_sinks 189 = .ok (.dup, 1) := by decide +kernel
theorem dX10_sinks_190 : decode cX10_sinks 190 = .ok (.getfield 327, 3) := by decide +kernel
theorem dX10_sinks_193 : decode cX10_sinks 193 = .ok (.iconst 1, 1) := by decide +kernel
theorem dX10_sinks_194 : decode cX10_sinks 194 = .ok (.iadd, 1) := by decide +kernel
theorem dX10_sinks_195 : decode cX10_sinks 195 = .ok (.putfield 327, 3) := by decide +kernel
theorem dX10_sinks_198 : decode cX10_sinks 198 = .ok (.goto 10, 3) := by decide +kernel
theorem dX10_sinks_201 : decode cX10_sinks 201 = .ok (.aload_n 0, 1) := by decide +kernel
theorem dX10_sinks_202 : decode cX10_sinks 202 = .ok (.iload_n 1, 1) := by decide +kernel
theorem dX10_sinks_203 : decode cX10_sinks 203 = .ok (.iload 5, 2) := by decide +kernel
theorem dX10_sinks_205 : decode cX10_sinks 205 = .ok (.invokevirtual 289, 3) := by decide +kernel
theorem dX10_sinks_208 : decode cX10_sinks 208 = .ok (.iload 6, 2) := by decide +kernel
theorem dX10_sinks_210 : decode cX10_sinks 210 = .ok (.istore 5, 2) := by decide +kernel
theorem dX10_sinks_212 : decode cX10_sinks 212 = .ok (.goto (-66), 3) := by decide +kernel
theorem dX10_sinks_215 : decode cX10_sinks 215 = .ok (.aload_n 0, 1) := by decide +kernel
theorem dX10_sinks_216 : decode cX10_sinks 216 = .ok (.getfield 148, 3) := by decide +kernel
theorem dX10_sinks_219 : decode cX10_sinks 219 = .ok (.iload_n 1, 1) := by decide +kernel
theorem dX10_sinks_220 : decode cX10_sinks 220 = .ok (.iconst (-1), 1) := by decide +kernel
theorem dX10_sinks_221 : decode cX10_sinks 221 = .ok (.iastore, 1) := by decide +kernel
theorem dX10_sinks_222 : decode cX10_sinks 222 = .ok (.aload_n 0, 1) := by decide +kernel
theorem dX10_sinks_223 : decode cX10_sinks 223 = .ok (.getfield 133, 3) := by decide +kernel
theorem dX10_sinks_226 : decode cX10_sinks 226 = .ok (.sipush 128, 3) := by decide +kernel
theorem dX10_sinks_229 : decode cX10_sinks 229 = .ok (.iload_n 1, 1) := by decide +kernel
theorem dX10_sinks_230 : decode cX10_sinks 230 = .ok (.imul, 1) := by decide +kernel
theorem dX10_sinks_231 : decode cX10_sinks 231 = .ok (.iload_n 2, 1) := by decide +kernel
theorem dX10_sinks_232 : decode cX10_sinks 232 = .ok (.iadd, 1) := by decide +kernel
theorem dX10_sinks_233 : decode cX10_sinks 233 = .ok (.iaload, 1) := by decide +kernel
theorem dX10_sinks_234 : decode cX10_sinks 234 = .ok (.istore 6, 2) := by decide +kernel
theorem dX10_sinks_236 : decode cX10_sinks 236 = .ok (.aload_n 0, 1) := by decide +kernel
theorem dX10_sinks_237 : decode cX10_sinks 237 = .ok (.iload 6, 2) := by decide +kernel
theorem dX10_sinks_239 : decode cX10_sinks 239 = .ok (.iload 4, 2) := by decide +kernel
theorem dX10_sinks_241 : decode cX10_sinks 241 = .ok (.aload_n 0, 1) := by decide +kernel
theorem dX10_sinks_242 : decode cX10_sinks 242 = .ok (.getfield 327, 3) := by decide +kernel
theorem dX10_sinks_245 : decode cX10_sinks 245 = .ok (.invokevirtual 330, 3) := by decide +kernel
theorem dX10_sinks_248 : decode cX10_sinks 248 = .ok (.aload_n 0, 1) := by decide +kernel
theorem dX10_sinks_249 : decode cX10_sinks 249 = .ok (.iload 4, 2) := by decide +kernel
theorem dX10_sinks_251 : decode cX10_sinks 251 = .ok (.putfield 327, 3) := by decide +kernel
theorem dX10_sinks_254 : decode cX10_sinks 254 = .ok (.aload_n 0, 1) := by decide +kernel
theorem dX10_sinks_255 : decode cX10_sinks 255 = .ok (.iload_n 1, 1) := by decide +kernel
theorem dX10_sinks_256 : decode cX10_sinks 256 = .ok (.iload_n 2, 1) := by decide +kernel
theorem dX10_sinks_257 : decode cX10_sinks 257 = .ok (.invokevirtual 334, 3) := by decide +kernel
theorem dX10_sinks_260 : decode cX10_sinks 260 = .ok (.iload_n 3, 1) := by decide +kernel
theorem dX10_sinks_261 : decode cX10_sinks 261 = .ok (.ireturn, 1) := by decide +kernel
theorem dX10_isTooBig_0 : decode cX10_isTooBig 0 = .ok (.aload_n 0, 1) := by decide +kernel
theorem dX10_isTooBig_1 : decode cX10_isTooBig 1 = .ok (.getfield 119, 3) := by decide +kernel
theorem dX10_isTooBig_4 : decode cX10_isTooBig 4 = .ok (.iload_n 1, 1) := by decide +kernel
theorem dX10_isTooBig_5 : decode cX10_isTooBig 5 = .ok (.baload, 1) := by decide +kernel
theorem dX10_isTooBig_6 : decode cX10_isTooBig 6 = .ok (.ifCond .eq 22, 3) := by decide +kernel
theorem dX10_isTooBig_9 : decode cX10_isTooBig 9 = .ok (.aload_n 0, 1) := by decide +kernel
theorem dX10_isTooBig_10 : decode cX10_isTooBig 10 = .ok (.getfield 126, 3) := by decide +kernel
theorem dX10_isTooBig_13 : decode cX10_isTooBig 13 = .ok (.iload_n 1, 1) := by decide +kernel
theorem dX10_isTooBig_14 : decode cX10_isTooBig 14 = .ok (.iaload, 1) := by decide +kernel
theorem dX10_isTooBig_15 : decode cX10_isTooBig 15 = .ok (.bipush 6, 2) := by decide +kernel
theorem dX10_isTooBig_17 : decode cX10_isTooBig 17 = .ok (.if_icmp .le 7, 3) := by decide +kernel
theorem dX10_isTooBig_20 : decode cX10_isTooBig 20 = .ok (.iconst 1, 1) := by decide +kernel
theorem dX10_isTooBig_21 : decode cX10_isTooBig 21 = .ok (.goto 22, 3) := by decide +kernel
theorem dX10_isTooBig_24 : decode cX10_isTooBig 24 = .ok (.iconst 0, 1) := by decide +kernel
theorem dX10_isTooBig_25 : decode cX10_isTooBig 25 = .ok (.goto 18, 3) := by decide +kernel
theorem dX10_isTooBig_28 : decode cX10_isTooBig 28 = .ok (.aload_n 0, 1) := by decide +kernel
theorem dX10_isTooBig_29 : decode cX10_isTooBig 29 = .ok (.getfield 129, 3) := by decide +kernel
theorem dX10_isTooBig_32 : decode cX10_isTooBig 32 = .ok (.iload_n 1, 1) := by decide +kernel
theorem dX10_isTooBig_33 : decode cX10_isTooBig 33 = .ok (.iaload, 1) := by decide +kernel
theorem dX10_isTooBig_34 : decode cX10_isTooBig 34 = .ok (.iconst 5, 1) := by decide +kernel
theorem dX10_isTooBig_35 : decode cX10_isTooBig 35 = .ok (.if_icmp .le 7, 3) := by decide +kernel
theorem dX10_isTooBig_38 : decode cX10_isTooBig 38 = .ok (.iconst 1, 1) := by decide +kernel
theorem dX10_isTooBig_39 : decode cX10_isTooBig 39 = .ok (.goto 4, 3) := by decide +kernel
theorem dX10_isTooBig_42 : decode cX10_isTooBig 42 = .ok (.iconst 0, 1) := by decide +kernel
theorem dX10_isTooBig_43 : decode cX10_isTooBig 43 = .ok (.ireturn, 1) := by decide +kernel
theorem dX10_partOf_0 : decode cX10_partOf 0 = .ok (.aload_n 0, 1) := by decide +kernel
theorem dX10_partOf_1 : decode cX10_partOf 1 = .ok (.getfield 119, 3) := by decide +kernel
theorem dX10_partOf_4 : decode cX10_partOf 4 = .ok (.iload_n 1, 1) := by decide +kernel
theorem dX10_partOf_5 : decode cX10_partOf 5 = .ok (.baload, 1) := by decide +kernel
theorem dX10_partOf_6 : decode cX10_partOf 6 = .ok (.ifCond .eq 12, 3) := by decide +kernel
theorem dX10_partOf_9 : decode cX10_partOf 9 = .ok (.aload_n 0, 1) := by decide +kernel
theorem dX10_partOf_10 : decode cX10_partOf 10 = .ok (.getfield 126, 3) := by decide +kernel
theorem dX10_partOf_13 : decode cX10_partOf 13 = .ok (.iload_n 1, 1) := by decide +kernel
theorem dX10_partOf_14 : decode cX10_partOf 14 = .ok (.iaload, 1) := by decide +kernel
theorem dX10_partOf_15 : decode cX10_partOf 15 = .ok (.goto 9, 3) := by decide +kernel
theorem dX10_partOf_18 : decode cX10_partOf 18 = .ok (.aload_n 0, 1) := by decide +kernel
theorem dX10_partOf_19 : decode cX10_partOf 19 = .ok (.getfield 129, 3) := by decide +kernel
theorem dX10_partOf_22 : decode cX10_partOf 22 = .ok (.iload_n 1, 1) := by decide +kernel
theorem dX10_partOf_23 : decode cX10_partOf 23 = .ok (.iaload, 1) := by decide +kernel
theorem dX10_partOf_24 : decode cX10_partOf 24 = .ok (.istore_n 2, 1) := by decide +kernel
theorem dX10_partOf_25 : decode cX10_partOf 25 = .ok (.aload_n 0, 1) := by decide +kernel
theorem dX10_partOf_26 : decode cX10_partOf 26 = .ok (.getfield 119, 3) := by decide +kernel
theorem dX10_partOf_29 : decode cX10_partOf 29 = .ok (.iload_n 1, 1) := by decide +kernel
theorem dX10_partOf_30 : decode cX10_partOf 30 = .ok (.baload, 1) := by decide +kernel
theorem dX10_partOf_31 : decode cX10_partOf 31 = .ok (.ifCond .eq 8, 3) := by decide +kernel
theorem dX10_partOf_34 : decode cX10_partOf 34 = .ok (.bipush 6, 2) := by decide +kernel
theorem dX10_partOf_36 : decode cX10_partOf 36 = .ok (.goto 4, 3) := by decide +kernel
theorem dX10_partOf_39 : decode cX10_partOf 39 = .ok (.iconst 5, 1) := by decide +kernel
theorem dX10_partOf_40 : decode cX10_partOf 40 = .ok (.istore_n 3, 1) := by decide +kernel
theorem dX10_partOf_41 : decode cX10_partOf 41 = .ok (.aload_n 0, 1) := by decide +kernel
theorem dX10_partOf_42 : decode cX10_partOf 42 = .ok (.iload_n 2, 1) := by decide +kernel
theorem dX10_partOf_43 : decode cX10_partOf 43 = .ok (.iload_n 3, 1) := by decide +kernel
theorem dX10_partOf_44 : decode cX10_partOf 44 = .ok (.iadd, 1) := by decide +kernel
theorem dX10_partOf_45 : decode cX10_partOf 45 = .ok (.iconst 1, 1) := by decide +kernel
theorem dX10_partOf_46 : decode cX10_partOf 46 = .ok (.isub, 1) := by decide +kernel
theorem dX10_partOf_47 : decode cX10_partOf 47 = .ok (.iload_n 3, 1) := by decide +kernel
theorem dX10_partOf_48 : decode cX10_partOf 48 = .ok (.idiv, 1) := by decide +kernel
theorem dX10_partOf_49 : decode cX10_partOf 49 = .ok (.putfield 337, 3) := by decide +kernel
theorem dX10_partOf_52 : decode cX10_partOf 52 = .ok (.iconst 0, 1) := by decide +kernel
theorem dX10_partOf_53 : decode cX10_partOf 53 = .ok (.istore 4, 2) := by decide +kernel
theorem dX10_partOf_55 : decode cX10_partOf 55 = .ok (.aload_n 0, 1) := by decide +kernel
theorem dX10_partOf_56 : decode cX10_partOf 56 = .ok (.getfield 123, 3) := by decide +kernel
theorem dX10_partOf_59 : decode cX10_partOf 59 = .ok (.iload_n 1, 1) := by decide +kernel
theorem dX10_partOf_60 : decode cX10_partOf 60 = .ok (.iaload, 1) := by decide +kernel
theorem dX10_partOf_61 : decode cX10_partOf 61 = .ok (.istore 5, 2) := by decide +kernel
theorem dX10_partOf_63 : decode cX10_partOf 63 = .ok (.iconst 0, 1) := by decide +kernel
theorem dX10_partOf_64 : decode cX10_partOf 64 = .ok (.istore 6, 2) := by decide +kernel
theorem dX10_partOf_66 : decode cX10_partOf 66 = .ok (.iload 6, 2) := by decide +kernel
theorem dX10_partOf_68 : decode cX10_partOf 68 = .ok (.aload_n 0, 1) := by decide +kernel
theorem dX10_partOf_69 : decode cX10_partOf 69 = .ok (.getfield 337, 3) := by decide +kernel
theorem dX10_partOf_72 : decode cX10_partOf 72 = .ok (.if_icmp .ge 257, 3) := by decide +kernel
theorem dX10_partOf_75 : decode cX10_partOf 75 = .ok (.iload_n 2, 1) := by decide +kernel
theorem dX10_partOf_76 : decode cX10_partOf 76 = .ok (.aload_n 0, 1) := by decide +kernel
theorem dX10_partOf_77 : decode cX10_partOf 77 = .ok (.getfield 337, 3) := by decide +kernel
theorem dX10_partOf_80 : decode cX10_partOf 80 = .ok (.idiv, 1) := by decide +kernel
theorem dX10_partOf_81 : decode cX10_partOf 81 = .ok (.iload 6, 2) := by decide +kernel
theorem dX10_partOf_83 : decode cX10_partOf 83 = .ok (.iload_n 2, 1) := by decide +kernel
theorem dX10_partOf_84 : decode cX10_partOf 84 = .ok (.aload_n 0, 1) := by decide +kernel
theorem dX10_partOf_85 : decode cX10_partOf 85 = .ok (.getfield 337, 3) := by decide +kernel
theorem dX10_partOf_88 : decode cX10_partOf 88 = .ok (.irem, 1) := by decide +kernel
theorem dX10_partOf_89 : decode cX10_partOf 89 = .ok (.if_icmp .ge 7, 3) := by decide +kernel
theorem dX10_partOf_92 : decode cX10_partOf 92 = .ok (.iconst 1, 1) := by decide +kernel
theorem dX10_partOf_93 : decode cX10_partOf 93 = .ok (.goto 4, 3) := by decide +kernel
theorem dX10_partOf_96 : decode cX10_partOf 96 = .ok (.iconst 0, 1) := by decide +kernel
theorem dX10_partOf_97 : decode cX10_partOf 97 = .ok (.iadd, 1) := by decide +kernel
theorem dX10_partOf_98 : decode cX10_partOf 98 = .ok (.istore 7, 2) := by decide +kernel
theorem dX10_partOf_100 : decode cX10_partOf 100 = .ok (.aload_n 0, 1) := by decide +kernel
theorem dX10_partOf_101 : decode cX10_partOf 101 = .ok (.aload_n 0, 1) := by decide +kernel
theorem dX10_partOf_102 : decode cX10_partOf 102 = .ok (.getfield 119, 3) := by decide +kernel
theorem dX10_partOf_105 : decode cX10_partOf 105 = .ok (.iload_n 1, 1) := by decide +kernel
theorem dX10_partOf_106 : decode cX10_partOf 106 = .ok (.baload, 1) := by decide +kernel
theorem dX10_partOf_107 : decode cX10_partOf 107 = .ok (.invokevirtual 273, 3) := by decide +kernel
theorem dX10_partOf_110 : decode cX10_partOf 110 = .ok (.istore 8, 2) := by decide +kernel
theorem dX10_partOf_112 : decode cX10_partOf 112 = .ok (.aload_n 0, 1) := by decide +kernel
theorem dX10_partOf_113 : decode cX10_partOf 113 = .ok (.getfield 185, 3) := by decide +kernel
theorem dX10_partOf_116 : decode cX10_partOf 116 = .ok (.iload 6, 2) := by decide +kernel
theorem dX10_partOf_118 : decode cX10_partOf 118 = .ok (.iload 8, 2) := by decide +kernel
theorem dX10_partOf_120 : decode cX10_partOf 120 = .ok (.iastore, 1) := by decide +kernel
theorem dX10_partOf_121 : decode cX10_partOf 121 = .ok (.aload_n 0, 1) := by decide +kernel
theorem dX10_partOf_122 : decode cX10_partOf 122 = .ok (.getfield 119, 3) := by decide +kernel
theorem dX10_partOf_125 : decode cX10_partOf 125 = .ok (.iload_n 1, 1) := by decide +kernel
theorem dX10_partOf_126 : decode cX10_partOf 126 = .ok (.baload, 1) := by decide +kernel
theorem dX10_partOf_127 : decode cX10_partOf 127 = .ok (.ifCond .eq 84, 3) := by decide +kernel
theorem dX10_partOf_130 : decode cX10_partOf 130 = .ok (.aload_n 0, 1) := by decide +kernel
theorem dX10_partOf_131 : decode cX10_partOf 131 = .ok (.getfield 188, 3) := by decide +kernel
theorem dX10_partOf_134 : decode cX10_partOf 134 = .ok (.iload 6, 2) := by decide +kernel
theorem dX10_partOf_136 : decode cX10_partOf 136 = .ok (.aload_n 0, 1) := by decide +kernel
theorem dX10_partOf_137 : decode cX10_partOf 137 = .ok (.getfield 154, 3) := by decide +kernel
theorem dX10_partOf_140 : decode cX10_partOf 140 = .ok (.iload 5, 2) := by decide +kernel
theorem dX10_partOf_142 : decode cX10_partOf 142 = .ok (.laload, 1) := by decide +kernel
theorem dX10_partOf_143 : decode cX10_partOf 143 = .ok (.lastore, 1) := by decide +kernel
theorem dX10_partOf_144 : decode cX10_partOf 144 = .ok (.aload_n 0, 1) := by decide +kernel
theorem dX10_partOf_145 : decode cX10_partOf 145 = .ok (.getfield 123, 3) := by decide +kernel
theorem dX10_partOf_148 : decode cX10_partOf 148 = .ok (.iload 8, 2) := by decide +kernel
theorem dX10_partOf_150 : decode cX10_partOf 150 = .ok (.iload 5, 2) := by decide +kernel
theorem dX10_partOf_152 : decode cX10_partOf 152 = .ok (.iastore, 1) := by decide +kernel
theorem dX10_partOf_153 : decode cX10_partOf 153 = .ok (.aload_n 0, 1) := by decide +kernel
theorem dX10_partOf_154 : decode cX10_partOf 154 = .ok (.getfield 126, 3) := by decide +kernel
theorem dX10_partOf_157 : decode cX10_partOf 157 = .ok (.iload 8, 2) := by decide +kernel
theorem dX10_partOf_159 : decode cX10_partOf 159 = .ok (.iload 7, 2) := by decide +kernel
theorem dX10_partOf_161 : decode cX10_partOf 161 = .ok (.iastore, 1) := by decide +kernel
theorem dX10_partOf_162 : decode cX10_partOf 162 = .ok (.iconst 1, 1) := by decide +kernel
theorem dX10_partOf_163 : decode cX10_partOf 163 = .ok (.istore 9, 2) := by decide +kernel
theorem dX10_partOf_165 : decode cX10_partOf 165 = .ok (.iload 9, 2) := by decide +kernel
theorem dX10_partOf_167 : decode cX10_partOf 167 = .ok (.iload 7, 2) := by decide +kernel
theorem dX10_partOf_169 : decode cX10_partOf 169 = .ok (.if_icmp .ge 18, 3) := by decide +kernel
theorem dX10_partOf_172 : decode cX10_partOf 172 = .ok (.aload_n 0, 1) := by decide +kernel
theorem dX10_partOf_173 : decode cX10_partOf 173 = .ok (.getfield 164, 3) := by decide +kernel
theorem dX10_partOf_176 : decode cX10_partOf 176 = .ok (.iload 5, 2) := by decide +kernel
theorem dX10_partOf_178 : decode cX10_partOf 178 = .ok (.iaload, 1) := by decide +kernel
theorem dX10_partOf_179 : decode cX10_partOf 179 = .ok (.istore 5, 2) := by decide +kernel
theorem dX10_partOf_181 : decode cX10_partOf 181 = .ok (.iinc 9 1, 3) := by decide +kernel
theorem dX10_partOf_184 : decode cX10_partOf 184 = .ok (.goto (-19), 3) := by decide +kernel
theorem dX10_partOf_187 : decode cX10_partOf 187 = .ok (.aload_n 0, 1) := by decide +kernel
theorem dX10_partOf_188 : decode cX10_partOf 188 = .ok (.getfield 164, 3) := by decide +kernel
theorem dX10_partOf_191 : decode cX10_partOf 191 = .ok (.iload 5, 2) := by decide +kernel
theorem dX10_partOf_193 : decode cX10_partOf 193 = .ok (.iaload, 1) := by decide +kernel
theorem dX10_partOf_194 : decode cX10_partOf 194 = .ok (.istore 9, 2) := by decide +kernel
theorem dX10_partOf_196 : decode cX10_partOf 196 = .ok (.aload_n 0, 1) := by decide +kernel
theorem dX10_partOf_197 : decode cX10_partOf 197 = .ok (.getfield 164, 3) := by decide +kernel
theorem dX10_partOf_200 : decode cX10_partOf 200 = .ok (.iload 5, 2) := by decide +kernel
theorem dX10_partOf_202 : decode cX10_partOf 202 = .ok (.iconst (-1), 1) := by decide +kernel
theorem dX10_partOf_203 : decode cX10_partOf 203 = .ok (.iastore, 1) := by decide +kernel
theorem dX10_partOf_204 : decode cX10_partOf 204 = .ok (.iload 9, 2) := by decide +kernel
theorem dX10_partOf_206 : decode cX10_partOf 206 = .ok (.istore 5, 2) := by decide +kernel
theorem dX10_partOf_208 : decode cX10_partOf 208 = .ok (.goto 108, 3) := by decide +kernel
theorem dX10_partOf_211 : decode cX10_partOf 211 = .ok (.aload_n 0, 1) := by decide +kernel
theorem dX10_partOf_212 : decode cX10_partOf 212 = .ok (.getfield 188, 3) := by decide +kernel
theorem dX10_partOf_215 : decode cX10_partOf 215 = .ok (.iload 6, 2) := by decide +kernel
theorem dX10_partOf_217 : decode cX10_partOf 217 = .ok (.aload_n 0, 1) := by decide +kernel
theorem dX10_partOf_218 : decode cX10_partOf 218 = .ok (.getfield 136, 3) := by decide +kernel
theorem dX10_partOf_221 : decode cX10_partOf 221 = .ok (.sipush 128, 3) := by decide +kernel
theorem dX10_partOf_224 : decode cX10_partOf 224 = .ok (.iload_n 1, 1) := by decide +kernel
theorem dX10_partOf_225 : decode cX10_partOf 225 = .ok (.imul, 1) := by decide +kernel
theorem dX10_partOf_226 : decode cX10_partOf 226 = .ok (.iload 4, 2) := by decide +kernel
theorem dX10_partOf_228 : decode cX10_partOf 228 = .ok (.iadd, 1) := by decide +kernel
theorem dX10_partOf_229 : decode cX10_partOf 229 = .ok (.laload, 1) := by decide +kernel
theorem dX10_partOf_230 : decode cX10_partOf 230 = .ok (.lastore, 1) := by decide +kernel
theorem dX10_partOf_231 : decode cX10_partOf 231 = .ok (.iconst 0, 1) := by decide +kernel
theorem dX10_partOf_232 : decode cX10_partOf 232 = .ok (.istore 9, 2) := by decide +kernel
theorem dX10_partOf_234 : decode cX10_partOf 234 = .ok (.iload 9, 2) := by decide +kernel
theorem dX10_partOf_236 : decode cX10_partOf 236 = .ok (.iload 7, 2) := by decide +kernel
theorem dX10_partOf_238 : decode cX10_partOf 238 = .ok (.if_icmp .ge 69, 3) := by decide +kernel
theorem dX10_partOf_241 : decode cX10_partOf 241 = .ok (.aload_n 0, 1) := by decide +kernel
theorem dX10_partOf_242 : decode cX10_partOf 242 = .ok (.getfield 133, 3) := by decide +kernel
theorem dX10_partOf_245 : decode cX10_partOf 245 = .ok (.sipush 128, 3) := by decide +kernel
theorem dX10_partOf_248 : decode cX10_partOf 248 = .ok (.iload 8, 2) := by decide +kernel
theorem dX10_partOf_250 : decode cX10_partOf 250 = .ok (.imul, 1) := by decide +kernel
theorem dX10_partOf_251 : decode cX10_partOf 251 = .ok (.iload 9, 2) := by decide +kernel
theorem dX10_partOf_253 : decode cX10_partOf 253 = .ok (.iadd, 1) := by decide +kernel
theorem dX10_partOf_254 : decode cX10_partOf 254 = .ok (.aload_n 0, 1) := by decide +kernel
theorem dX10_partOf_255 : decode cX10_partOf 255 = .ok (.getfield 133, 3) := by decide +kernel
theorem dX10_partOf_258 : decode cX10_partOf 258 = .ok (.sipush 128, 3) := by decide +kernel
theorem dX10_partOf_261 : decode cX10_partOf 261 = .ok (.iload_n 1, 1) := by decide +kernel
theorem dX10_partOf_262 : decode cX10_partOf 262 = .ok (.imul, 1) := by decide +kernel
theorem dX10_partOf_263 : decode cX10_partOf 263 = .ok (.iload 4, 2) := by decide +kernel
theorem dX10_partOf_265 : decode cX10_partOf 265 = .ok (.iadd, 1) := by decide +kernel
theorem dX10_partOf_266 : decode cX10_partOf 266 = .ok (.iload 9, 2) := by decide +kernel
theorem dX10_partOf_268 : decode cX10_partOf 268 = .ok (.iadd, 1) := by decide +kernel
theorem dX10_partOf_269 : decode cX10_partOf 269 = .ok (.iaload, 1) := by decide +kernel
theorem dX10_partOf_270 : decode cX10_partOf 270 = .ok (.iastore, 1) := by decide +kernel
theorem dX10_partOf_271 : decode cX10_partOf 271 = .ok (.aload_n 0, 1) := by decide +kernel
theorem dX10_partOf_272 : decode cX10_partOf 272 = .ok (.getfield 136, 3) := by decide +kernel
theorem dX10_partOf_275 : decode cX10_partOf 275 = .ok (.sipush 128, 3) := by decide +kernel
theorem dX10_partOf_278 : decode cX10_partOf 278 = .ok (.iload 8, 2) := by decide +kernel
theorem dX10_partOf_280 : decode cX10_partOf 280 = .ok (.imul, 1) := by decide +kernel
theorem dX10_partOf_281 : decode cX10_partOf 281 = .ok (.iload 9, 2) := by decide +kernel
theorem dX10_partOf_283 : decode cX10_partOf 283 = .ok (.iadd, 1) := by decide +kernel
theorem dX10_partOf_284 : decode cX10_partOf 284 = .ok (.aload_n 0, 1) := by decide +kernel
theorem dX10_partOf_285 : decode cX10_partOf 285 = .ok (.getfield 136, 3) := by decide +kernel
theorem dX10_partOf_288 : decode cX10_partOf 288 = .ok (.sipush 128, 3) := by decide +kernel
theorem dX10_partOf_291 : decode cX10_partOf 291 = .ok (.iload_n 1, 1) := by decide +kernel
theorem dX10_partOf_292 : decode cX10_partOf 292 = .ok (.imul, 1) := by decide +kernel
theorem dX10_partOf_293 : decode cX10_partOf 293 = .ok (.iload 4, 2) := by decide +kernel
theorem dX10_partOf_295 : decode cX10_partOf 295 = .ok (.iadd, 1) := by decide +kernel
theorem dX10_partOf_296 : decode cX10_partOf 296 = .ok (.iload 9, 2) := by decide +kernel
theorem dX10_partOf_298 : decode cX10_partOf 298 = .ok (.iadd, 1) := by decide +kernel
theorem dX10_partOf_299 : decode cX10_partOf 299 = .ok (.laload, 1) := by decide +kernel
theorem dX10_partOf_300 : decode cX10_partOf 300 = .ok (.lastore, 1) := by decide +kernel
theorem dX10_partOf_301 : decode cX10_partOf 301 = .ok (.iinc 9 1, 3) := by decide +kernel
theorem dX10_partOf_304 : decode cX10_partOf 304 = .ok (.goto (-70), 3) := by decide +kernel
theorem dX10_partOf_307 : decode cX10_partOf 307 = .ok (.aload_n 0, 1) := by decide +kernel
theorem dX10_partOf_308 : decode cX10_partOf 308 = .ok (.getfield 129, 3) := by decide +kernel
theorem dX10_partOf_311 : decode cX10_partOf 311 = .ok (.iload 8, 2) := by decide +kernel
theorem dX10_partOf_313 : decode cX10_partOf 313 = .ok (.iload 7, 2) := by decide +kernel
theorem dX10_partOf_315 : decode cX10_partOf 315 = .ok (.iastore, 1) := by decide +kernel
theorem dX10_partOf_316 : decode cX10_partOf 316 = .ok (.iload 4, 2) := by decide +kernel
theorem dX10_partOf_318 : decode cX10_partOf 318 = .ok (.iload 7, 2) := by decide +kernel
theorem dX10_partOf_320 : decode cX10_partOf 320 = .ok (.iadd, 1) := by decide +kernel
theorem dX10_partOf_321 : decode cX10_partOf 321 = .ok (.istore 4, 2) := by decide +kernel
theorem dX10_partOf_323 : decode cX10_partOf 323 = .ok (.iinc 6 1, 3) := by decide +kernel
theorem dX10_partOf_326 : decode cX10_partOf 326 = .ok (.goto (-260), 3) := by decide +kernel
theorem dX10_partOf_329 : decode cX10_partOf 329 = .ok (.aload_n 0, 1) := by decide +kernel
theorem dX10_partOf_330 : decode cX10_partOf 330 = .ok (.getfield 139, 3) := by decide +kernel
theorem dX10_partOf_333 : decode cX10_partOf 333 = .ok (.iload_n 1, 1) := by decide +kernel
theorem dX10_partOf_334 : decode cX10_partOf 334 = .ok (.iaload, 1) := by decide +kernel
theorem dX10_partOf_335 : decode cX10_partOf 335 = .ok (.istore 6, 2) := by decide +kernel
theorem dX10_partOf_337 : decode cX10_partOf 337 = .ok (.iload 6, 2) := by decide +kernel
theorem dX10_partOf_339 : decode cX10_partOf 339 = .ok (.iconst (-1), 1) := by decide +kernel
theorem dX10_partOf_340 : decode cX10_partOf 340 = .ok (.if_icmp .eq 72, 3) := by decide +kernel
theorem dX10_partOf_343 : decode cX10_partOf 343 = .ok (.aload_n 0, 1) := by decide +kernel
theorem dX10_partOf_344 : decode cX10_partOf 344 = .ok (.getfield 176, 3) := by decide +kernel
theorem dX10_partOf_347 : decode cX10_partOf 347 = .ok (.iload 6, 2) := by decide +kernel
theorem dX10_partOf_349 : decode cX10_partOf 349 = .ok (.iaload, 1) := by decide +kernel
theorem dX10_partOf_350 : decode cX10_partOf 350 = .ok (.istore 7, 2) := by decide +kernel
theorem dX10_partOf_352 : decode cX10_partOf 352 = .ok (.iconst 0, 1) := by decide +kernel
theorem dX10_partOf_353 : decode cX10_partOf 353 = .ok (.istore 8, 2) := by decide +kernel
theorem dX10_partOf_355 : decode cX10_partOf 355 = .ok (.iload 8, 2) := by decide +kernel
theorem dX10_partOf_357 : decode cX10_partOf 357 = .ok (.iconst 1, 1) := by decide +kernel
theorem dX10_partOf_358 : decode cX10_partOf 358 = .ok (.iadd, 1) := by decide +kernel
theorem dX10_partOf_359 : decode cX10_partOf 359 = .ok (.aload_n 0, 1) := by decide +kernel
theorem dX10_partOf_360 : decode cX10_partOf 360 = .ok (.getfield 337, 3) := by decide +kernel
theorem dX10_partOf_363 : decode cX10_partOf 363 = .ok (.if_icmp .ge 29, 3) := by decide +kernel
theorem dX10_partOf_366 : decode cX10_partOf 366 = .ok (.aload_n 0, 1) := by decide +kernel
theorem dX10_partOf_367 : decode cX10_partOf 367 = .ok (.getfield 188, 3) := by decide +kernel
theorem dX10_partOf_370 : decode cX10_partOf 370 = .ok (.iload 8, 2) := by decide +kernel
theorem dX10_partOf_372 : decode cX10_partOf 372 = .ok (.iconst 1, 1) := by decide +kernel
theorem dX10_partOf_373 : decode cX10_partOf 373 = .ok (.iadd, 1) := by decide +kernel
theorem dX10_partOf_374 : decode cX10_partOf 374 = .ok (.laload, 1) := by decide +kernel
theorem dX10_partOf_375 : decode cX10_partOf 375 = .ok (.aload_n 0, 1) := by decide +kernel
theorem dX10_partOf_376 : decode cX10_partOf 376 = .ok (.getfield 170, 3) := by decide +kernel
theorem dX10_partOf_379 : decode cX10_partOf 379 = .ok (.iload 6, 2) := by decide +kernel
theorem dX10_partOf_381 : decode cX10_partOf 381 = .ok (.laload, 1) := by decide +kernel
theorem dX10_partOf_382 : decode cX10_partOf 382 = .ok (.lcmp, 1) := by decide +kernel
theorem dX10_partOf_383 : decode cX10_partOf 383 = .ok (.ifCond .gt 9, 3) := by decide +kernel
theorem dX10_partOf_386 : decode cX10_partOf 386 = .ok (.iinc 8 1, 3) := by decide +kernel
theorem dX10_partOf_389 : decode cX10_partOf 389 = .ok (.goto (-34), 3) := by decide +kernel
theorem dX10_partOf_392 : decode cX10_partOf 392 = .ok (.aload_n 0, 1) := by decide +kernel
theorem dX10_partOf_393 : decode cX10_partOf 393 = .ok (.aload_n 0, 1) := by decide +kernel
theorem dX10_partOf_394 : decode cX10_partOf 394 = .ok (.getfield 185, 3) := by decide +kernel
theorem dX10_partOf_397 : decode cX10_partOf 397 = .ok (.iload 8, 2) := by decide +kernel
theorem dX10_partOf_399 : decode cX10_partOf 399 = .ok (.iaload, 1) := by decide +kernel
theorem dX10_partOf_400 : decode cX10_partOf 400 = .ok (.iload 6, 2) := by decide +kernel
theorem dX10_partOf_402 : decode cX10_partOf 402 = .ok (.invokevirtual 289, 3) := by decide +kernel
theorem dX10_partOf_405 : decode cX10_partOf 405 = .ok (.iload 7, 2) := by decide +kernel
theorem dX10_partOf_407 : decode cX10_partOf 407 = .ok (.istore 6, 2) := by decide +kernel
theorem dX10_partOf_409 : decode cX10_partOf 409 = .ok (.goto (-72), 3) := by decide +kernel
theorem dX10_partOf_412 : decode cX10_partOf 412 = .ok (.aload_n 0, 1) := by decide +kernel
theorem dX10_partOf_413 : decode cX10_partOf 413 = .ok (.iload_n 1, 1) := by decide +kernel
theorem dX10_partOf_414 : decode cX10_partOf 414 = .ok (.invokevirtual 340, 3) := by decide +kernel
theorem dX10_partOf_417 : decode cX10_partOf 417 = .ok (.return_, 1) := by decide +kernel
theorem dX10_partKid_0 : decode cX10_partKid 0 = .ok (.aload_n 0, 1) := by decide +kernel
theorem dX10_partKid_1 : decode cX10_partKid 1 = .ok (.getfield 133, 3) := by decide +kernel
theorem dX10_partKid_4 : decode cX10_partKid 4 = .ok (.sipush 128, 3) := by decide +kernel
theorem dX10_partKid_7 : decode cX10_partKid 7 = .ok (.iload_n 1, 1) := by decide +kernel
theorem dX10_partKid_8 : decode cX10_partKid 8 = .ok (.imul, 1) := by decide +kernel
theorem dX10_partKid_9 : decode cX10_partKid 9 = .ok (.iload_n 2, 1) := by decide +kernel
theorem dX10_partKid_10 : decode cX10_partKid 10 = .ok (.iadd, 1) := by decide +kernel
theorem dX10_partKid_11 : decode cX10_partKid 11 = .ok (.iaload, 1) := by decide +kernel
theorem dX10_partKid_12 : decode cX10_partKid 12 = .ok (.istore_n 3, 1) := by decide +kernel
theorem dX10_partKid_13 : decode cX10_partKid 13 = .ok (.aload_n 0, 1) := by decide +kernel
theorem dX10_partKid_14 : decode cX10_partKid 14 = .ok (.iload_n 3, 1) := by decide +kernel
theorem dX10_partKid_15 : decode cX10_partKid 15 = .ok (.invokevirtual 343, 3) := by decide +kernel
theorem dX10_partKid_18 : decode cX10_partKid 18 = .ok (.ifCond .ne 4, 3) := by decide +kernel
theorem dX10_partKid_21 : decode cX10_partKid 21 = .ok (.return_, 1) := by decide +kernel
theorem dX10_partKid_22 : decode cX10_partKid 22 = .ok (.aload_n 0, 1) := by decide +kernel
theorem dX10_partKid_23 : decode cX10_partKid 23 = .ok (.getfield 136, 3) := by decide +kernel
theorem dX10_partKid_26 : decode cX10_partKid 26 = .ok (.sipush 128, 3) := by decide +kernel
theorem dX10_partKid_29 : decode cX10_partKid 29 = .ok (.iload_n 1, 1) := by decide +kernel
theorem dX10_partKid_30 : decode cX10_partKid 30 = .ok (.imul, 1) := by decide +kernel
theorem dX10_partKid_31 : decode cX10_partKid 31 = .ok (.iload_n 2, 1) := by decide +kernel
theorem dX10_partKid_32 : decode cX10_partKid 32 = .ok (.iadd, 1) := by decide +kernel
theorem dX10_partKid_33 : decode cX10_partKid 33 = .ok (.laload, 1) := by decide +kernel
theorem dX10_partKid_34 : decode cX10_partKid 34 = .ok (.lstore 4, 2) := by decide +kernel
theorem dX10_partKid_36 : decode cX10_partKid 36 = .ok (.aload_n 0, 1) := by decide +kernel
theorem dX10_partKid_37 : decode cX10_partKid 37 = .ok (.iload_n 3, 1) := by decide +kernel
theorem dX10_partKid_38 : decode cX10_partKid 38 = .ok (.invokevirtual 346, 3) := by decide +kernel
theorem dX10_partKid_41 : decode cX10_partKid 41 = .ok (.aload_n 0, 1) := by decide +kernel
theorem dX10_partKid_42 : decode cX10_partKid 42 = .ok (.getfield 129, 3) := by decide +kernel
theorem dX10_partKid_45 : decode cX10_partKid 45 = .ok (.iload_n 1, 1) := by decide +kernel
theorem dX10_partKid_46 : decode cX10_partKid 46 = .ok (.iaload, 1) := by decide +kernel
theorem dX10_partKid_47 : decode cX10_partKid 47 = .ok (.iconst 1, 1) := by decide +kernel
theorem dX10_partKid_48 : decode cX10_partKid 48 = .ok (.isub, 1) := by decide +kernel
theorem dX10_partKid_49 : decode cX10_partKid 49 = .ok (.istore 6, 2) := by decide +kernel
theorem dX10_partKid_51 : decode cX10_partKid 51 = .ok (.iload 6, 2) := by decide +kernel
theorem dX10_partKid_53 : decode cX10_partKid 53 = .ok (.iload_n 2, 1) := by decide +kernel
theorem dX10_partKid_54 : decode cX10_partKid 54 = .ok (.if_icmp .le 75, 3) := by decide +kernel
theorem dX10_partKid_57 : decode cX10_partKid 57 = .ok (.aload_n 0, 1) := by decide +kernel
theorem dX10_partKid_58 : decode cX10_partKid 58 = .ok (.getfield 133, 3) := by decide +kernel
theorem dX10_partKid_61 : decode cX10_partKid 61 = .ok (.sipush 128, 3) := by decide +kernel
theorem dX10_partKid_64 : decode cX10_partKid 64 = .ok (.iload_n 1, 1) := by decide +kernel
theorem dX10_partKid_65 : decode cX10_partKid 65 = .ok (.imul, 1) := by decide +kernel
theorem dX10_partKid_66 : decode cX10_partKid 66 = .ok (.iload 6, 2) := by decide +kernel
theorem dX10_partKid_68 : decode cX10_partKid 68 = .ok (.iadd, 1) := by decide +kernel
theorem dX10_partKid_69 : decode cX10_partKid 69 = .ok (.aload_n 0, 1) := by decide +kernel
theorem dX10_partKid_70 : decode cX10_partKid 70 = .ok (.getfield 337, 3) := by decide +kernel
theorem dX10_partKid_73 : decode cX10_partKid 73 = .ok (.iadd, 1) := by decide +kernel
theorem dX10_partKid_74 : decode cX10_partKid 74 = .ok (.iconst 1, 1) := by decide +kernel
theorem dX10_partKid_75 : decode cX10_partKid 75 = .ok (.isub, 1) := by decide +kernel
theorem dX10_partKid_76 : decode cX10_partKid 76 = .ok (.aload_n 0, 1) := by decide +kernel
theorem dX10_partKid_77 : decode cX10_partKid 77 = .ok (.getfield 133, 3) := by decide +kernel
theorem dX10_partKid_80 : decode cX10_partKid 80 = .ok (.sipush 128, 3) := by decide +kernel
theorem dX10_partKid_83 : decode cX10_partKid 83 = .ok (.iload_n 1, 1) := by decide +kernel
theorem dX10_partKid_84 : decode cX10_partKid 84 = .ok (.imul, 1) := by decide +kernel
theorem dX10_partKid_85 : decode cX10_partKid 85 = .ok (.iload 6, 2) := by decide +kernel
theorem dX10_partKid_87 : decode cX10_partKid 87 = .ok (.iadd, 1) := by decide +kernel
theorem dX10_partKid_88 : decode cX10_partKid 88 = .ok (.iaload, 1) := by decide +kernel
theorem dX10_partKid_89 : decode cX10_partKid 89 = .ok (.iastore, 1) := by decide +kernel
theorem dX10_partKid_90 : decode cX10_partKid 90 = .ok (.aload_n 0, 1) := by decide +kernel
theorem dX10_partKid_91 : decode cX10_partKid 91 = .ok (.getfield 136, 3) := by decide +kernel
theorem dX10_partKid_94 : decode cX10_partKid 94 = .ok (.sipush 128, 3) := by decide +kernel
theorem dX10_partKid_97 : decode cX10_partKid 97 = .ok (.iload_n 1, 1) := by decide +kernel
theorem dX10_partKid_98 : decode cX10_partKid 98 = .ok (.imul, 1) := by decide +kernel
theorem dX10_partKid_99 : decode cX10_partKid 99 = .ok (.iload 6, 2) := by decide +kernel
theorem dX10_partKid_101 : decode cX10_partKid 101 = .ok (.iadd, 1) := by decide +kernel
theorem dX10_partKid_102 : decode cX10_partKid 102 = .ok (.aload_n 0, 1) := by decide +kernel
theorem dX10_partKid_103 : decode cX10_partKid 103 = .ok (.getfield 337, 3) := by decide +kernel
theorem dX10_partKid_106 : decode cX10_partKid 106 = .ok (.iadd, 1) := by decide +kernel
theorem dX10_partKid_107 : decode cX10_partKid 107 = .ok (.iconst 1, 1) := by decide +kernel
theorem dX10_partKid_108 : decode cX10_partKid 108 = .ok (.isub, 1) := by decide +kernel
theorem dX10_partKid_109 : decode cX10_partKid 109 = .ok (.aload_n 0, 1) := by decide +kernel
theorem dX10_partKid_110 : decode cX10_partKid 110 = .ok (.getfield 136, 3) := by decide +kernel
theorem dX10_partKid_113 : decode cX10_partKid 113 = .ok (.sipush 128, 3) := by decide +kernel
theorem dX10_partKid_116 : decode cX10_partKid 116 = .ok (.iload_n 1, 1) := by decide +kernel
theorem dX10_partKid_117 : decode cX10_partKid 117 = .ok (.imul, 1) := by decide +kernel
theorem dX10_partKid_118 : decode cX10_partKid 118 = .ok (.iload 6, 2) := by decide +kernel
theorem dX10_partKid_120 : decode cX10_partKid 120 = .ok (.iadd, 1) := by decide +kernel
theorem dX10_partKid_121 : decode cX10_partKid 121 = .ok (.laload, 1) := by decide +kernel
theorem dX10_partKid_122 : decode cX10_partKid 122 = .ok (.lastore, 1) := by decide +kernel
theorem dX10_partKid_123 : decode cX10_partKid 123 = .ok (.iinc 6 (-1), 3) := by decide +kernel
theorem dX10_partKid_126 : decode cX10_partKid 126 = .ok (.goto (-75), 3) := by decide +kernel
theorem dX10_partKid_129 : decode cX10_partKid 129 = .ok (.iconst 0, 1) := by decide +kernel
theorem dX10_partKid_130 : decode cX10_partKid 130 = .ok (.istore 6, 2) := by decide +kernel
theorem dX10_partKid_132 : decode cX10_partKid 132 = .ok (.iload 6, 2) := by decide +kernel
theorem dX10_partKid_134 : decode cX10_partKid 134 = .ok (.aload_n 0, 1) := by decide +kernel
theorem dX10_partKid_135 : decode cX10_partKid 135 = .ok (.getfield 337, 3) := by decide +kernel
theorem dX10_partKid_138 : decode cX10_partKid 138 = .ok (.if_icmp .ge 63, 3) := by decide +kernel
theorem dX10_partKid_141 : decode cX10_partKid 141 = .ok (.aload_n 0, 1) := by decide +kernel
theorem dX10_partKid_142 : decode cX10_partKid 142 = .ok (.getfield 133, 3) := by decide +kernel
theorem dX10_partKid_145 : decode cX10_partKid 145 = .ok (.sipush 128, 3) := by decide +kernel
theorem dX10_partKid_148 : decode cX10_partKid 148 = .ok (.iload_n 1, 1) := by decide +kernel
theorem dX10_partKid_149 : decode cX10_partKid 149 = .ok (.imul, 1) := by decide +kernel
theorem dX10_partKid_150 : decode cX10_partKid 150 = .ok (.iload_n 2, 1) := by decide +kernel
theorem dX10_partKid_151 : decode cX10_partKid 151 = .ok (.iadd, 1) := by decide +kernel
theorem dX10_partKid_152 : decode cX10_partKid 152 = .ok (.iload 6, 2) := by decide +kernel
theorem dX10_partKid_154 : decode cX10_partKid 154 = .ok (.iadd, 1) := by decide +kernel
theorem dX10_partKid_155 : decode cX10_partKid 155 = .ok (.aload_n 0, 1) := by decide +kernel
theorem dX10_partKid_156 : decode cX10_partKid 156 = .ok (.getfield 185, 3) := by decide +kernel
theorem dX10_partKid_159 : decode cX10_partKid 159 = .ok (.iload 6, 2) := by decide +kernel
theorem dX10_partKid_161 : decode cX10_partKid 161 = .ok (.iaload, 1) := by decide +kernel
theorem dX10_partKid_162 : decode cX10_partKid 162 = .ok (.iastore, 1) := by decide +kernel
theorem dX10_partKid_163 : decode cX10_partKid 163 = .ok (.aload_n 0, 1) := by decide +kernel
theorem dX10_partKid_164 : decode cX10_partKid 164 = .ok (.getfield 136, 3) := by decide +kernel
theorem dX10_partKid_167 : decode cX10_partKid 167 = .ok (.sipush 128, 3) := by decide +kernel
theorem dX10_partKid_170 : decode cX10_partKid 170 = .ok (.iload_n 1, 1) := by decide +kernel
theorem dX10_partKid_171 : decode cX10_partKid 171 = .ok (.imul, 1) := by decide +kernel
theorem dX10_partKid_172 : decode cX10_partKid 172 = .ok (.iload_n 2, 1) := by decide +kernel
theorem dX10_partKid_173 : decode cX10_partKid 173 = .ok (.iadd, 1) := by decide +kernel
theorem dX10_partKid_174 : decode cX10_partKid 174 = .ok (.iload 6, 2) := by decide +kernel
theorem dX10_partKid_176 : decode cX10_partKid 176 = .ok (.iadd, 1) := by decide +kernel
theorem dX10_partKid_177 : decode cX10_partKid 177 = .ok (.iload 6, 2) := by decide +kernel
theorem dX10_partKid_179 : decode cX10_partKid 179 = .ok (.ifCond .ne 8, 3) := by decide +kernel
theorem dX10_partKid_182 : decode cX10_partKid 182 = .ok (.lload 4, 2) := by decide +kernel
theorem dX10_partKid_184 : decode cX10_partKid 184 = .ok (.goto 10, 3) := by decide +kernel
theorem dX10_partKid_187 : decode cX10_partKid 187 = .ok (.aload_n 0, 1) := by decide +kernel
theorem dX10_partKid_188 : decode cX10_partKid 188 = .ok (.getfield 188, 3) := by decide +kernel
theorem dX10_partKid_191 : decode cX10_partKid 191 = .ok (.iload 6, 2) := by decide +kernel
theorem dX10_partKid_193 : decode cX10_partKid 193 = .ok (.laload, 1) := by decide +kernel
theorem dX10_partKid_194 : decode cX10_partKid 194 = .ok (.lastore, 1) := by decide +kernel
theorem dX10_partKid_195 : decode cX10_partKid 195 = .ok (.iinc 6 1, 3) := by decide +kernel
theorem dX10_partKid_198 : decode cX10_partKid 198 = .ok (.goto (-66), 3) := by decide +kernel
theorem dX10_partKid_201 : decode cX10_partKid 201 = .ok (.aload_n 0, 1) := by decide +kernel
theorem dX10_partKid_202 : decode cX10_partKid 202 = .ok (.getfield 129, 3) := by decide +kernel
theorem dX10_partKid_205 : decode cX10_partKid 205 = .ok (.iload_n 1, 1) := by decide +kernel
theorem dX10_partKid_206 : decode cX10_partKid 206 = .ok (.dup2, 1) := by decide +kernel
theorem dX10_partKid_207 : decode cX10_partKid 207 = .ok (.iaload, 1) := by decide +kernel
theorem dX10_partKid_208 : decode cX10_partKid 208 = .ok (.aload_n 0, 1) := by decide +kernel
theorem dX10_partKid_209 : decode cX10_partKid 209 = .ok (.getfield 337, 3) := by decide +kernel
theorem dX10_partKid_212 : decode cX10_partKid 212 = .ok (.iconst 1, 1) := by decide +kernel
theorem dX10_partKid_213 : decode cX10_partKid 213 = .ok (.isub, 1) := by decide +kernel
theorem dX10_partKid_214 : decode cX10_partKid 214 = .ok (.iadd, 1) := by decide +kernel
theorem dX10_partKid_215 : decode cX10_partKid 215 = .ok (.iastore, 1) := by decide +kernel
theorem dX10_partKid_216 : decode cX10_partKid 216 = .ok (.aload_n 0, 1) := by decide +kernel
theorem dX10_partKid_217 : decode cX10_partKid 217 = .ok (.getfield 148, 3) := by decide +kernel
theorem dX10_partKid_220 : decode cX10_partKid 220 = .ok (.iload_n 1, 1) := by decide +kernel
theorem dX10_partKid_221 : decode cX10_partKid 221 = .ok (.iconst (-1), 1) := by decide +kernel
theorem dX10_partKid_222 : decode cX10_partKid 222 = .ok (.iastore, 1) := by decide +kernel
theorem dX10_partKid_223 : decode cX10_partKid 223 = .ok (.return_, 1) := by decide +kernel
theorem dX10_grow_0 : decode cX10_grow 0 = .ok (.aload_n 0, 1) := by decide +kernel
theorem dX10_grow_1 : decode cX10_grow 1 = .ok (.aload_n 0, 1) := by decide +kernel
theorem dX10_grow_2 : decode cX10_grow 2 = .ok (.getfield 277, 3) := by decide +kernel
theorem dX10_grow_5 : decode cX10_grow 5 = .ok (.invokevirtual 343, 3) := by decide +kernel
theorem dX10_grow_8 : decode cX10_grow 8 = .ok (.ifCond .eq 94, 3) := by decide +kernel
theorem dX10_grow_11 : decode cX10_grow 11 = .ok (.aload_n 0, 1) := by decide +kernel
theorem dX10_grow_12 : decode cX10_grow 12 = .ok (.aload_n 0, 1) := by decide +kernel
theorem dX10_grow_13 : decode cX10_grow 13 = .ok (.getfield 277, 3) := by decide +kernel
theorem dX10_grow_16 : decode cX10_grow 16 = .ok (.invokevirtual 346, 3) := by decide +kernel
theorem dX10_grow_19 : decode cX10_grow 19 = .ok (.aload_n 0, 1) := by decide +kernel
theorem dX10_grow_20 : decode cX10_grow 20 = .ok (.aload_n 0, 1) := by decide +kernel
theorem dX10_grow_21 : decode cX10_grow 21 = .ok (.iconst 0, 1) := by decide +kernel
theorem dX10_grow_22 : decode cX10_grow 22 = .ok (.invokevirtual 273, 3) := by decide +kernel
theorem dX10_grow_25 : decode cX10_grow 25 = .ok (.putfield 277, 3) := by decide +kernel
theorem dX10_grow_28 : decode cX10_grow 28 = .ok (.aload_n 0, 1) := by decide +kernel
theorem dX10_grow_29 : decode cX10_grow 29 = .ok (.getfield 129, 3) := by decide +kernel
theorem dX10_grow_32 : decode cX10_grow 32 = .ok (.aload_n 0, 1) := by decide +kernel
theorem dX10_grow_33 : decode cX10_grow 33 = .ok (.getfield 277, 3) := by decide +kernel
theorem dX10_grow_36 : decode cX10_grow 36 = .ok (.aload_n 0, 1) := by decide +kernel
theorem dX10_grow_37 : decode cX10_grow 37 = .ok (.getfield 337, 3) := by decide +kernel
theorem dX10_grow_40 : decode cX10_grow 40 = .ok (.iastore, 1) := by decide +kernel
theorem dX10_grow_41 : decode cX10_grow 41 = .ok (.iconst 0, 1) := by decide +kernel
theorem dX10_grow_42 : decode cX10_grow 42 = .ok (.istore_n 1, 1) := by decide +kernel
theorem dX10_grow_43 : decode cX10_grow 43 = .ok (.iload_n 1, 1) := by decide +kernel
theorem dX10_grow_44 : decode cX10_grow 44 = .ok (.aload_n 0, 1) := by decide +kernel
theorem dX10_grow_45 : decode cX10_grow 45 = .ok (.getfield 337, 3) := by decide +kernel
theorem dX10_grow_48 : decode cX10_grow 48 = .ok (.if_icmp .ge 51, 3) := by decide +kernel
theorem dX10_grow_51 : decode cX10_grow 51 = .ok (.aload_n 0, 1) := by decide +kernel
theorem dX10_grow_52 : decode cX10_grow 52 = .ok (.getfield 133, 3) := by decide +kernel
theorem dX10_grow_55 : decode cX10_grow 55 = .ok (.sipush 128, 3) := by decide +kernel
theorem dX10_grow_58 : decode cX10_grow 58 = .ok (.aload_n 0, 1) := by decide +kernel
theorem dX10_grow_59 : decode cX10_grow 59 = .ok (.getfield 277, 3) := by decide +kernel
theorem dX10_grow_62 : decode cX10_grow 62 = .ok (.imul, 1) := by decide +kernel
theorem dX10_grow_63 : decode cX10_grow 63 = .ok (.iload_n 1, 1) := by decide +kernel
theorem dX10_grow_64 : decode cX10_grow 64 = .ok (.iadd, 1) := by decide +kernel
theorem dX10_grow_65 : decode cX10_grow 65 = .ok (.aload_n 0, 1) := by decide +kernel
theorem dX10_grow_66 : decode cX10_grow 66 = .ok (.getfield 185, 3) := by decide +kernel
theorem dX10_grow_69 : decode cX10_grow 69 = .ok (.iload_n 1, 1) := by decide +kernel
theorem dX10_grow_70 : decode cX10_grow 70 = .ok (.iaload, 1) := by decide +kernel
theorem dX10_grow_71 : decode cX10_grow 71 = .ok (.iastore, 1) := by decide +kernel
theorem dX10_grow_72 : decode cX10_grow 72 = .ok (.aload_n 0, 1) := by decide +kernel
theorem dX10_grow_73 : decode cX10_grow 73 = .ok (.getfield 136, 3) := by decide +kernel
theorem dX10_grow_76 : decode cX10_grow 76 = .ok (.sipush 128, 3) := by decide +kernel
theorem dX10_grow_79 : decode cX10_grow 79 = .ok (.aload_n 0, 1) := by decide +kernel
theorem dX10_grow_80 : decode cX10_grow 80 = .ok (.getfield 277, 3) := by decide +kernel
theorem dX10_grow_83 : decode cX10_grow 83 = .ok (.imul, 1) := by decide +kernel
theorem dX10_grow_84 : decode cX10_grow 84 = .ok (.iload_n 1, 1) := by decide +kernel
theorem dX10_grow_85 : decode cX10_grow 85 = .ok (.iadd, 1) := by decide +kernel
theorem dX10_grow_86 : decode cX10_grow 86 = .ok (.aload_n 0, 1) := by decide +kernel
theorem dX10_grow_87 : decode cX10_grow 87 = .ok (.getfield 188, 3) := by decide +kernel
theorem dX10_grow_90 : decode cX10_grow 90 = .ok (.iload_n 1, 1) := by decide +kernel
theorem dX10_grow_91 : decode cX10_grow 91 = .ok (.laload, 1) := by decide +kernel
theorem dX10_grow_92 : decode cX10_grow 92 = .ok (.lastore, 1) := by decide +kernel
theorem dX10_grow_93 : decode cX10_grow 93 = .ok (.iinc 1 1, 3) := by decide +kernel
theorem dX10_grow_96 : decode cX10_grow 96 = .ok (.goto (-53), 3) := by decide +kernel
theorem dX10_grow_99 : decode cX10_grow 99 = .ok (.goto (-99), 3) := by decide +kernel
theorem dX10_grow_102 : decode cX10_grow 102 = .ok (.return_, 1) := by decide +kernel
theorem dX10_number_0 : decode cX10_number 0 = .ok (.aload_n 0, 1) := by decide +kernel
theorem dX10_number_1 : decode cX10_number 1 = .ok (.iconst 0, 1) := by decide +kernel
theorem dX10_number_2 : decode cX10_number 2 = .ok (.putfield 349, 3) := by decide +kernel
theorem dX10_number_5 : decode cX10_number 5 = .ok (.aload_n 0, 1) := by decide +kernel
theorem dX10_number_6 : decode cX10_number 6 = .ok (.aload_n 0, 1) := by decide +kernel
theorem dX10_number_7 : decode cX10_number 7 = .ok (.getfield 277, 3) := by decide +kernel
theorem dX10_number_10 : decode cX10_number 10 = .ok (.iconst (-1), 1) := by decide +kernel
theorem dX10_number_11 : decode cX10_number 11 = .ok (.iconst 0, 1) := by decide +kernel
theorem dX10_number_12 : decode cX10_number 12 = .ok (.invokevirtual 352, 3) := by decide +kernel
theorem dX10_number_15 : decode cX10_number 15 = .ok (.return_, 1) := by decide +kernel
theorem dX10_visit_0 : decode cX10_visit 0 = .ok (.aload_n 0, 1) := by decide +kernel
theorem dX10_visit_1 : decode cX10_visit 1 = .ok (.getfield 191, 3) := by decide +kernel
theorem dX10_visit_4 : decode cX10_visit 4 = .ok (.aload_n 0, 1) := by decide +kernel
theorem dX10_visit_5 : decode cX10_visit 5 = .ok (.getfield 349, 3) := by decide +kernel
theorem dX10_visit_8 : decode cX10_visit 8 = .ok (.iload_n 1, 1) := by decide +kernel
theorem dX10_visit_9 : decode cX10_visit 9 = .ok (.iastore, 1) := by decide +kernel
theorem dX10_visit_10 : decode cX10_visit 10 = .ok (.aload_n 0, 1) := by decide +kernel
theorem dX10_visit_11 : decode cX10_visit 11 = .ok (.dup, 1) := by decide +kernel
theorem dX10_visit_12 : decode cX10_visit 12 = .ok (.getfield 349, 3) := by decide +kernel
theorem dX10_visit_15 : decode cX10_visit 15 = .ok (.iconst 1, 1) := by decide +kernel
theorem dX10_visit_16 : decode cX10_visit 16 = .ok (.iadd, 1) := by decide +kernel
theorem dX10_visit_17 : decode cX10_visit 17 = .ok (.putfield 349, 3) := by decide +kernel
theorem dX10_visit_20 : decode cX10_visit 20 = .ok (.aload_n 0, 1) := by decide +kernel
theorem dX10_visit_21 : decode cX10_visit 21 = .ok (.getfield 194, 3) := by decide +kernel
theorem dX10_visit_24 : decode cX10_visit 24 = .ok (.iload_n 1, 1) := by decide +kernel
theorem dX10_visit_25 : decode cX10_visit 25 = .ok (.iload_n 2, 1) := by decide +kernel
theorem dX10_visit_26 : decode cX10_visit 26 = .ok (.iastore, 1) := by decide +kernel
theorem dX10_visit_27 : decode cX10_visit 27 = .ok (.aload_n 0, 1) := by decide +kernel
theorem dX10_visit_28 : decode cX10_visit 28 = .ok (.getfield 197, 3) := by decide +kernel
theorem dX10_visit_31 : decode cX10_visit 31 = .ok (.iload_n 1, 1) := by decide +kernel
theorem dX10_visit_32 : decode cX10_visit 32 = .ok (.iload_n 3, 1) := by decide +kernel
theorem dX10_visit_33 : decode cX10_visit 33 = .ok (.iastore, 1) := by decide +kernel
theorem dX10_visit_34 : decode cX10_visit 34 = .ok (.aload_n 0, 1) := by decide +kernel
theorem dX10_visit_35 : decode cX10_visit 35 = .ok (.getfield 119, 3) := by decide +kernel
theorem dX10_visit_38 : decode cX10_visit 38 = .ok (.iload_n 1, 1) := by decide +kernel
theorem dX10_visit_39 : decode cX10_visit 39 = .ok (.baload, 1) := by decide +kernel
theorem dX10_visit_40 : decode cX10_visit 40 = .ok (.ifCond .eq 4, 3) := by decide +kernel
theorem dX10_visit_43 : decode cX10_visit 43 = .ok (.return_, 1) := by decide +kernel
theorem dX10_visit_44 : decode cX10_visit 44 = .ok (.iconst 0, 1) := by decide +kernel
theorem dX10_visit_45 : decode cX10_visit 45 = .ok (.istore 4, 2) := by decide +kernel
theorem dX10_visit_47 : decode cX10_visit 47 = .ok (.iload 4, 2) := by decide +kernel
theorem dX10_visit_49 : decode cX10_visit 49 = .ok (.aload_n 0, 1) := by decide +kernel
theorem dX10_visit_50 : decode cX10_visit 50 = .ok (.getfield 129, 3) := by decide +kernel
theorem dX10_visit_53 : decode cX10_visit 53 = .ok (.iload_n 1, 1) := by decide +kernel
theorem dX10_visit_54 : decode cX10_visit 54 = .ok (.iaload, 1) := by decide +kernel
theorem dX10_visit_55 : decode cX10_visit 55 = .ok (.if_icmp .ge 29, 3) := by decide +kernel
theorem dX10_visit_58 : decode cX10_visit 58 = .ok (.aload_n 0, 1) := by decide +kernel
theorem dX10_visit_59 : decode cX10_visit 59 = .ok (.aload_n 0, 1) := by decide +kernel
theorem dX10_visit_60 : decode cX10_visit 60 = .ok (.getfield 133, 3) := by decide +kernel
theorem dX10_visit_63 : decode cX10_visit 63 = .ok (.sipush 128, 3) := by decide +kernel
theorem dX10_visit_66 : decode cX10_visit 66 = .ok (.iload_n 1, 1) := by decide +kernel
theorem dX10_visit_67 : decode cX10_visit 67 = .ok (.imul, 1) := by decide +kernel
theorem dX10_visit_68 : decode cX10_visit 68 = .ok (.iload 4, 2) := by decide +kernel
theorem dX10_visit_70 : decode cX10_visit 70 = .ok (.iadd, 1) := by decide +kernel
theorem dX10_visit_71 : decode cX10_visit 71 = .ok (.iaload, 1) := by decide +kernel
theorem dX10_visit_72 : decode cX10_visit 72 = .ok (.iload_n 1, 1) := by decide +kernel
theorem dX10_visit_73 : decode cX10_visit 73 = .ok (.iload 4, 2) := by decide +kernel
theorem dX10_visit_75 : decode cX10_visit 75 = .ok (.invokevirtual 352, 3) := by decide +kernel
theorem dX10_visit_78 : decode cX10_visit 78 = .ok (.iinc 4 1, 3) := by decide +kernel
theorem dX10_visit_81 : decode cX10_visit 81 = .ok (.goto (-34), 3) := by decide +kernel
theorem dX10_visit_84 : decode cX10_visit 84 = .ok (.return_, 1) := by decide +kernel
theorem dX10_spreadChanges_0 : decode cX10_spreadChanges 0 = .ok (.aload_n 0, 1) := by decide +kernel
theorem dX10_spreadChanges_1 : decode cX10_spreadChanges 1 = .ok (.invokevirtual 355, 3) := by decide +kernel
theorem dX10_spreadChanges_4 : decode cX10_spreadChanges 4 = .ok (.aload_n 0, 1) := by decide +kernel
theorem dX10_spreadChanges_5 : decode cX10_spreadChanges 5 = .ok (.getfield 349, 3) := by decide +kernel
theorem dX10_spreadChanges_8 : decode cX10_spreadChanges 8 = .ok (.iconst 1, 1) := by decide +kernel
theorem dX10_spreadChanges_9 : decode cX10_spreadChanges 9 = .ok (.isub, 1) := by decide +kernel
theorem dX10_spreadChanges_10 : decode cX10_spreadChanges 10 = .ok (.istore_n 1, 1) := by decide +kernel
theorem dX10_spreadChanges_11 : decode cX10_spreadChanges 11 = .ok (.iload_n 1, 1) := by decide +kernel
theorem dX10_spreadChanges_12 : decode cX10_spreadChanges 12 = .ok (.ifCond .le 41, 3) := by decide +kernel
theorem dX10_spreadChanges_15 : decode cX10_spreadChanges 15 = .ok (.aload_n 0, 1) := by decide +kernel
theorem dX10_spreadChanges_16 : decode cX10_spreadChanges 16 = .ok (.getfield 148, 3) := by decide +kernel
theorem dX10_spreadChanges_19 : decode cX10_spreadChanges 19 = .ok (.aload_n 0, 1) := by decide +kernel
theorem dX10_spreadChanges_20 : decode cX10_spreadChanges 20 = .ok (.getfield 191, 3) := by decide +kernel
theorem dX10_spreadChanges_23 : decode cX10_spreadChanges 23 = .ok (.iload_n 1, 1) := by decide +kernel
theorem dX10_spreadChanges_24 : decode cX10_spreadChanges 24 = .ok (.iaload, 1) := by decide +kernel
theorem dX10_spreadChanges_25 : decode cX10_spreadChanges 25 = .ok (.iaload, 1) := by decide +kernel
theorem dX10_spreadChanges_26 : decode cX10_spreadChanges 26 = .ok (.iconst (-1), 1) := by decide +kernel
theorem dX10_spreadChanges_27 : decode cX10_spreadChanges 27 = .ok (.if_icmp .ne 20, 3) := by decide +kernel
theorem dX10_spreadChanges_30 : decode cX10_spreadChanges 30 = .ok (.aload_n 0, 1) := by decide +kernel
theorem dX10_spreadChanges_31 : decode cX10_spreadChanges 31 = .ok (.getfield 148, 3) := by decide +kernel
theorem dX10_spreadChanges_34 : decode cX10_spreadChanges 34 = .ok (.aload_n 0, 1) := by decide +kernel
theorem dX10_spreadChanges_35 : decode cX10_spreadChanges 35 = .ok (.getfield 194, 3) := by decide +kernel
theorem dX10_spreadChanges_38 : decode cX10_spreadChanges 38 = .ok (.aload_n 0, 1) := by decide +kernel
theorem dX10_spreadChanges_39 : decode cX10_spreadChanges 39 = .ok (.getfield 191, 3) := by decide +kernel
theorem dX10_spreadChanges_42 : decode cX10_spreadChanges 42 = .ok (.iload_n 1, 1) := by decide +kernel
theorem dX10_spreadChanges_43 : decode cX10_spreadChanges 43 = .ok (.iaload, 1) := by decide +kernel
theorem dX10_spreadChanges_44 : decode cX10_spreadChanges 44 = .ok (.iaload, 1) := by decide +kernel
theorem dX10_spreadChanges_45 : decode cX10_spreadChanges 45 = .ok (.iconst (-1), 1) := by decide +kernel
theorem dX10_spreadChanges_46 : decode cX10_spreadChanges 46 = .ok (.iastore, 1) := by decide +kernel
theorem dX10_spreadChanges_47 : decode cX10_spreadChanges 47 = .ok (.iinc 1 (-1), 3) := by decide +kernel
theorem dX10_spreadChanges_50 : decode cX10_spreadChanges 50 = .ok (.goto (-39), 3) := by decide +kernel
theorem dX10_spreadChanges_53 : decode cX10_spreadChanges 53 = .ok (.return_, 1) := by decide +kernel
theorem dX10_sink_0 : decode cX10_sink 0 = .ok (.aload_n 0, 1) := by decide +kernel
theorem dX10_sink_1 : decode cX10_sink 1 = .ok (.getfield 90, 3) := by decide +kernel
theorem dX10_sink_4 : decode cX10_sink 4 = .ok (.ifCond .eq 6, 3) := by decide +kernel
theorem dX10_sink_7 : decode cX10_sink 7 = .ok (.bipush (-4), 2) := by decide +kernel
theorem dX10_sink_9 : decode cX10_sink 9 = .ok (.ireturn, 1) := by decide +kernel
theorem dX10_sink_10 : decode cX10_sink 10 = .ok (.aload_n 0, 1) := by decide +kernel
theorem dX10_sink_11 : decode cX10_sink 11 = .ok (.getfield 119, 3) := by decide +kernel
theorem dX10_sink_14 : decode cX10_sink 14 = .ok (.aload_n 0, 1) := by decide +kernel
theorem dX10_sink_15 : decode cX10_sink 15 = .ok (.getfield 277, 3) := by decide +kernel
theorem dX10_sink_18 : decode cX10_sink 18 = .ok (.baload, 1) := by decide +kernel
theorem dX10_sink_19 : decode cX10_sink 19 = .ok (.ifCond .ne 15, 3) := by decide +kernel
theorem dX10_sink_22 : decode cX10_sink 22 = .ok (.aload_n 0, 1) := by decide +kernel
theorem dX10_sink_23 : decode cX10_sink 23 = .ok (.getfield 145, 3) := by decide +kernel
theorem dX10_sink_26 : decode cX10_sink 26 = .ok (.aload_n 0, 1) := by decide +kernel
theorem dX10_sink_27 : decode cX10_sink 27 = .ok (.getfield 277, 3) := by decide +kernel
theorem dX10_sink_30 : decode cX10_sink 30 = .ok (.iaload, 1) := by decide +kernel
theorem dX10_sink_31 : decode cX10_sink 31 = .ok (.ifCond .ne 5, 3) := by decide +kernel
theorem dX10_sink_34 : decode cX10_sink 34 = .ok (.iconst 0, 1) := by decide +kernel
theorem dX10_sink_35 : decode cX10_sink 35 = .ok (.ireturn, 1) := by decide +kernel
theorem dX10_sink_36 : decode cX10_sink 36 = .ok (.aload_n 0, 1) := by decide +kernel
theorem dX10_sink_37 : decode cX10_sink 37 = .ok (.aload_n 0, 1) := by decide +kernel
theorem dX10_sink_38 : decode cX10_sink 38 = .ok (.getfield 277, 3) := by decide +kernel
theorem dX10_sink_41 : decode cX10_sink 41 = .ok (.invokevirtual 320, 3) := by decide +kernel
theorem dX10_sink_44 : decode cX10_sink 44 = .ok (.istore_n 1, 1) := by decide +kernel
theorem dX10_sink_45 : decode cX10_sink 45 = .ok (.aload_n 0, 1) := by decide +kernel
theorem dX10_sink_46 : decode cX10_sink 46 = .ok (.invokevirtual 324, 3) := by decide +kernel
theorem dX10_sink_49 : decode cX10_sink 49 = .ok (.iload_n 1, 1) := by decide +kernel
theorem dX10_sink_50 : decode cX10_sink 50 = .ok (.ireturn, 1) := by decide +kernel
theorem dX10_settle_0 : decode cX10_settle 0 = .ok (.aload_n 0, 1) := by decide +kernel
theorem dX10_settle_1 : decode cX10_settle 1 = .ok (.getfield 90, 3) := by decide +kernel
theorem dX10_settle_4 : decode cX10_settle 4 = .ok (.ifCond .eq 6, 3) := by decide +kernel
theorem dX10_settle_7 : decode cX10_settle 7 = .ok (.bipush (-4), 2) := by decide +kernel
theorem dX10_settle_9 : decode cX10_settle 9 = .ok (.ireturn, 1) := by decide +kernel
theorem dX10_settle_10 : decode cX10_settle 10 = .ok (.iconst 0, 1) := by decide +kernel
theorem dX10_settle_11 : decode cX10_settle 11 = .ok (.istore_n 1, 1) := by decide +kernel
theorem dX10_settle_12 : decode cX10_settle 12 = .ok (.aload_n 0, 1) := by decide +kernel
theorem dX10_settle_13 : decode cX10_settle 13 = .ok (.invokevirtual 355, 3) := by decide +kernel
theorem dX10_settle_16 : decode cX10_settle 16 = .ok (.iconst 0, 1) := by decide +kernel
theorem dX10_settle_17 : decode cX10_settle 17 = .ok (.istore_n 2, 1) := by decide +kernel
theorem dX10_settle_18 : decode cX10_settle 18 = .ok (.iload_n 2, 1) := by decide +kernel
theorem dX10_settle_19 : decode cX10_settle 19 = .ok (.aload_n 0, 1) := by decide +kernel
theorem dX10_settle_20 : decode cX10_settle 20 = .ok (.getfield 349, 3) := by decide +kernel
theorem dX10_settle_23 : decode cX10_settle 23 = .ok (.if_icmp .ge 23, 3) := by decide +kernel
theorem dX10_settle_26 : decode cX10_settle 26 = .ok (.aload_n 0, 1) := by decide +kernel
theorem dX10_settle_27 : decode cX10_settle 27 = .ok (.getfield 145, 3) := by decide +kernel
theorem dX10_settle_30 : decode cX10_settle 30 = .ok (.aload_n 0, 1) := by decide +kernel
theorem dX10_settle_31 : decode cX10_settle 31 = .ok (.getfield 191, 3) := by decide +kernel
theorem dX10_settle_34 : decode cX10_settle 34 = .ok (.iload_n 2, 1) := by decide +kernel
theorem dX10_settle_35 : decode cX10_settle 35 = .ok (.iaload, 1) := by decide +kernel
theorem dX10_settle_36 : decode cX10_settle 36 = .ok (.iaload, 1) := by decide +kernel
theorem dX10_settle_37 : decode cX10_settle 37 = .ok (.ifCond .ne 9, 3) := by decide +kernel
theorem dX10_settle_40 : decode cX10_settle 40 = .ok (.iinc 2 1, 3) := by decide +kernel
theorem dX10_settle_43 : decode cX10_settle 43 = .ok (.goto (-25), 3) := by decide +kernel
theorem dX10_settle_46 : decode cX10_settle 46 = .ok (.iload_n 2, 1) := by decide +kernel
theorem dX10_settle_47 : decode cX10_settle 47 = .ok (.aload_n 0, 1) := by decide +kernel
theorem dX10_settle_48 : decode cX10_settle 48 = .ok (.getfield 349, 3) := by decide +kernel
theorem dX10_settle_51 : decode cX10_settle 51 = .ok (.if_icmp .ne 5, 3) := by decide +kernel
theorem dX10_settle_54 : decode cX10_settle 54 = .ok (.iload_n 1, 1) := by decide +kernel
theorem dX10_settle_55 : decode cX10_settle 55 = .ok (.ireturn, 1) := by decide +kernel
theorem dX10_settle_56 : decode cX10_settle 56 = .ok (.aload_n 0, 1) := by decide +kernel
theorem dX10_settle_57 : decode cX10_settle 57 = .ok (.getfield 191, 3) := by decide +kernel
theorem dX10_settle_60 : decode cX10_settle 60 = .ok (.iload_n 2, 1) := by decide +kernel
theorem dX10_settle_61 : decode cX10_settle 61 = .ok (.iaload, 1) := by decide +kernel
theorem dX10_settle_62 : decode cX10_settle 62 = .ok (.istore_n 3, 1) := by decide +kernel
theorem dX10_settle_63 : decode cX10_settle 63 = .ok (.aload_n 0, 1) := by decide +kernel
theorem dX10_settle_64 : decode cX10_settle 64 = .ok (.iload_n 3, 1) := by decide +kernel
theorem dX10_settle_65 : decode cX10_settle 65 = .ok (.invokevirtual 320, 3) := by decide +kernel
theorem dX10_settle_68 : decode cX10_settle 68 = .ok (.istore 4, 2) := by decide +kernel
theorem dX10_settle_70 : decode cX10_settle 70 = .ok (.iinc 1 1, 3) := by decide +kernel
theorem dX10_settle_73 : decode cX10_settle 73 = .ok (.iload_n 3, 1) := by decide +kernel
theorem dX10_settle_74 : decode cX10_settle 74 = .ok (.aload_n 0, 1) := by decide +kernel
theorem dX10_settle_75 : decode cX10_settle 75 = .ok (.getfield 277, 3) := by decide +kernel
theorem dX10_settle_78 : decode cX10_settle 78 = .ok (.if_icmp .eq 37, 3) := by decide +kernel
theorem dX10_settle_81 : decode cX10_settle 81 = .ok (.aload_n 0, 1) := by decide +kernel
theorem dX10_settle_82 : decode cX10_settle 82 = .ok (.iload_n 3, 1) := by decide +kernel
theorem dX10_settle_83 : decode cX10_settle 83 = .ok (.invokevirtual 343, 3) := by decide +kernel
theorem dX10_settle_86 : decode cX10_settle 86 = .ok (.ifCond .eq 29, 3) := by decide +kernel
theorem dX10_settle_89 : decode cX10_settle 89 = .ok (.aload_n 0, 1) := by decide +kernel
theorem dX10_settle_90 : decode cX10_settle 90 = .ok (.getfield 194, 3) := by decide +kernel
theorem dX10_settle_93 : decode cX10_settle 93 = .ok (.iload_n 3, 1) := by decide +kernel
theorem dX10_settle_94 : decode cX10_settle 94 = .ok (.iaload, 1) := by decide +kernel
theorem dX10_settle_95 : decode cX10_settle 95 = .ok (.istore 5, 2) := by decide +kernel
theorem dX10_settle_97 : decode cX10_settle 97 = .ok (.aload_n 0, 1) := by decide +kernel
theorem dX10_settle_98 : decode cX10_settle 98 = .ok (.iload 5, 2) := by decide +kernel
theorem dX10_settle_100 : decode cX10_settle 100 = .ok (.aload_n 0, 1) := by decide +kernel
theorem dX10_settle_101 : decode cX10_settle 101 = .ok (.getfield 197, 3) := by decide +kernel
theorem dX10_settle_104 : decode cX10_settle 104 = .ok (.iload_n 3, 1) := by decide +kernel
theorem dX10_settle_105 : decode cX10_settle 105 = .ok (.iaload, 1) := by decide +kernel
theorem dX10_settle_106 : decode cX10_settle 106 = .ok (.invokevirtual 334, 3) := by decide +kernel
theorem dX10_settle_109 : decode cX10_settle 109 = .ok (.iload 5, 2) := by decide +kernel
theorem dX10_settle_111 : decode cX10_settle 111 = .ok (.istore_n 3, 1) := by decide +kernel
theorem dX10_settle_112 : decode cX10_settle 112 = .ok (.goto (-39), 3) := by decide +kernel
theorem dX10_settle_115 : decode cX10_settle 115 = .ok (.aload_n 0, 1) := by decide +kernel
theorem dX10_settle_116 : decode cX10_settle 116 = .ok (.invokevirtual 324, 3) := by decide +kernel
theorem dX10_settle_119 : decode cX10_settle 119 = .ok (.goto (-107), 3) := by decide +kernel
theorem dX10_pages_0 : decode cX10_pages 0 = .ok (.aload_n 0, 1) := by decide +kernel
theorem dX10_pages_1 : decode cX10_pages 1 = .ok (.getfield 90, 3) := by decide +kernel
theorem dX10_pages_4 : decode cX10_pages 4 = .ok (.ifCond .eq 6, 3) := by decide +kernel
theorem dX10_pages_7 : decode cX10_pages 7 = .ok (.bipush (-4), 2) := by decide +kernel
theorem dX10_pages_9 : decode cX10_pages 9 = .ok (.ireturn, 1) := by decide +kernel
theorem dX10_pages_10 : decode cX10_pages 10 = .ok (.aload_n 0, 1) := by decide +kernel
theorem dX10_pages_11 : decode cX10_pages 11 = .ok (.invokevirtual 355, 3) := by decide +kernel
theorem dX10_pages_14 : decode cX10_pages 14 = .ok (.aload_n 0, 1) := by decide +kernel
theorem dX10_pages_15 : decode cX10_pages 15 = .ok (.getfield 349, 3) := by decide +kernel
theorem dX10_pages_18 : decode cX10_pages 18 = .ok (.ireturn, 1) := by decide +kernel
theorem dX10_height_0 : decode cX10_height 0 = .ok (.aload_n 0, 1) := by decide +kernel
theorem dX10_height_1 : decode cX10_height 1 = .ok (.getfield 90, 3) := by decide +kernel
theorem dX10_height_4 : decode cX10_height 4 = .ok (.ifCond .eq 6, 3) := by decide +kernel
theorem dX10_height_7 : decode cX10_height 7 = .ok (.bipush (-4), 2) := by decide +kernel
theorem dX10_height_9 : decode cX10_height 9 = .ok (.ireturn, 1) := by decide +kernel
theorem dX10_height_10 : decode cX10_height 10 = .ok (.iconst 1, 1) := by decide +kernel
theorem dX10_height_11 : decode cX10_height 11 = .ok (.istore_n 1, 1) := by decide +kernel
theorem dX10_height_12 : decode cX10_height 12 = .ok (.aload_n 0, 1) := by decide +kernel
theorem dX10_height_13 : decode cX10_height 13 = .ok (.getfield 277, 3) := by decide +kernel
theorem dX10_height_16 : decode cX10_height 16 = .ok (.istore_n 2, 1) := by decide +kernel
theorem dX10_height_17 : decode cX10_height 17 = .ok (.aload_n 0, 1) := by decide +kernel
theorem dX10_height_18 : decode cX10_height 18 = .ok (.getfield 119, 3) := by decide +kernel
theorem dX10_height_21 : decode cX10_height 21 = .ok (.iload_n 2, 1) := by decide +kernel
theorem dX10_height_22 : decode cX10_height 22 = .ok (.baload, 1) := by decide +kernel
theorem dX10_height_23 : decode cX10_height 23 = .ok (.ifCond .ne 20, 3) := by decide +kernel
theorem dX10_height_26 : decode cX10_height 26 = .ok (.iinc 1 1, 3) := by decide +kernel
theorem dX10_height_29 : decode cX10_height 29 = .ok (.aload_n 0, 1) := by decide +kernel
theorem dX10_height_30 : decode cX10_height 30 = .ok (.getfield 133, 3) := by decide +kernel
theorem dX10_height_33 : decode cX10_height 33 = .ok (.sipush 128, 3) := by decide +kernel
theorem dX10_height_36 : decode cX10_height 36 = .ok (.iload_n 2, 1) := by decide +kernel
theorem dX10_height_37 : decode cX10_height 37 = .ok (.imul, 1) := by decide +kernel
theorem dX10_height_38 : decode cX10_height 38 = .ok (.iaload, 1) := by decide +kernel
theorem dX10_height_39 : decode cX10_height 39 = .ok (.istore_n 2, 1) := by decide +kernel
theorem dX10_height_40 : decode cX10_height 40 = .ok (.goto (-23), 3) := by decide +kernel
theorem dX10_height_43 : decode cX10_height 43 = .ok (.iload_n 1, 1) := by decide +kernel
theorem dX10_height_44 : decode cX10_height 44 = .ok (.ireturn, 1) := by decide +kernel
theorem dX10_letters_0 : decode cX10_letters 0 = .ok (.aload_n 0, 1) := by decide +kernel
theorem dX10_letters_1 : decode cX10_letters 1 = .ok (.getfield 90, 3) := by decide +kernel
theorem dX10_letters_4 : decode cX10_letters 4 = .ok (.ifCond .eq 6, 3) := by decide +kernel
theorem dX10_letters_7 : decode cX10_letters 7 = .ok (.bipush (-4), 2) := by decide +kernel
theorem dX10_letters_9 : decode cX10_letters 9 = .ok (.ireturn, 1) := by decide +kernel
theorem dX10_letters_10 : decode cX10_letters 10 = .ok (.aload_n 0, 1) := by decide +kernel
theorem dX10_letters_11 : decode cX10_letters 11 = .ok (.invokevirtual 355, 3) := by decide +kernel
theorem dX10_letters_14 : decode cX10_letters 14 = .ok (.iconst 0, 1) := by decide +kernel
theorem dX10_letters_15 : decode cX10_letters 15 = .ok (.istore_n 1, 1) := by decide +kernel
theorem dX10_letters_16 : decode cX10_letters 16 = .ok (.iconst 0, 1) := by decide +kernel
theorem dX10_letters_17 : decode cX10_letters 17 = .ok (.istore_n 2, 1) := by decide +kernel
theorem dX10_letters_18 : decode cX10_letters 18 = .ok (.iload_n 2, 1) := by decide +kernel
theorem dX10_letters_19 : decode cX10_letters 19 = .ok (.aload_n 0, 1) := by decide +kernel
theorem dX10_letters_20 : decode cX10_letters 20 = .ok (.getfield 349, 3) := by decide +kernel
theorem dX10_letters_23 : decode cX10_letters 23 = .ok (.if_icmp .ge 23, 3) := by decide +kernel
theorem dX10_letters_26 : decode cX10_letters 26 = .ok (.iload_n 1, 1) := by decide +kernel
theorem dX10_letters_27 : decode cX10_letters 27 = .ok (.aload_n 0, 1) := by decide +kernel
theorem dX10_letters_28 : decode cX10_letters 28 = .ok (.getfield 145, 3) := by decide +kernel
theorem dX10_letters_31 : decode cX10_letters 31 = .ok (.aload_n 0, 1) := by decide +kernel
theorem dX10_letters_32 : decode cX10_letters 32 = .ok (.getfield 191, 3) := by decide +kernel
theorem dX10_letters_35 : decode cX10_letters 35 = .ok (.iload_n 2, 1) := by decide +kernel
theorem dX10_letters_36 : decode cX10_letters 36 = .ok (.iaload, 1) := by decide +kernel
theorem dX10_letters_37 : decode cX10_letters 37 = .ok (.iaload, 1) := by decide +kernel
theorem dX10_letters_38 : decode cX10_letters 38 = .ok (.iadd, 1) := by decide +kernel
theorem dX10_letters_39 : decode cX10_letters 39 = .ok (.istore_n 1, 1) := by decide +kernel
theorem dX10_letters_40 : decode cX10_letters 40 = .ok (.iinc 2 1, 3) := by decide +kernel
theorem dX10_letters_43 : decode cX10_letters 43 = .ok (.goto (-25), 3) := by decide +kernel
theorem dX10_letters_46 : decode cX10_letters 46 = .ok (.iload_n 1, 1) := by decide +kernel
theorem dX10_letters_47 : decode cX10_letters 47 = .ok (.ireturn, 1) := by decide +kernel
theorem dX10_page__0 : decode cX10_page_ 0 = .ok (.aload_n 0, 1) := by decide +kernel
theorem dX10_page__1 : decode cX10_page_ 1 = .ok (.getfield 90, 3) := by decide +kernel
theorem dX10_page__4 : decode cX10_page_ 4 = .ok (.ifCond .eq 6, 3) := by decide +kernel
theorem dX10_page__7 : decode cX10_page_ 7 = .ok (.bipush (-4), 2) := by decide +kernel
theorem dX10_page__9 : decode cX10_page_ 9 = .ok (.ireturn, 1) := by decide +kernel
theorem dX10_page__10 : decode cX10_page_ 10 = .ok (.aload_n 0, 1) := by decide +kernel
theorem dX10_page__11 : decode cX10_page_ 11 = .ok (.invokevirtual 357, 3) := by decide +kernel
theorem dX10_page__14 : decode cX10_page_ 14 = .ok (.iload_n 1, 1) := by decide +kernel
theorem dX10_page__15 : decode cX10_page_ 15 = .ok (.ifCond .lt 11, 3) := by decide +kernel
theorem dX10_page__18 : decode cX10_page_ 18 = .ok (.iload_n 1, 1) := by decide +kernel
theorem dX10_page__19 : decode cX10_page_ 19 = .ok (.aload_n 0, 1) := by decide +kernel
theorem dX10_page__20 : decode cX10_page_ 20 = .ok (.getfield 349, 3) := by decide +kernel
theorem dX10_page__23 : decode cX10_page_ 23 = .ok (.if_icmp .lt 5, 3) := by decide +kernel
theorem dX10_page__26 : decode cX10_page_ 26 = .ok (.iconst (-1), 1) := by decide +kernel
theorem dX10_page__27 : decode cX10_page_ 27 = .ok (.ireturn, 1) := by decide +kernel
theorem dX10_page__28 : decode cX10_page_ 28 = .ok (.aload_n 0, 1) := by decide +kernel
theorem dX10_page__29 : decode cX10_page_ 29 = .ok (.getfield 191, 3) := by decide +kernel
theorem dX10_page__32 : decode cX10_page_ 32 = .ok (.iload_n 1, 1) := by decide +kernel
theorem dX10_page__33 : decode cX10_page_ 33 = .ok (.iaload, 1) := by decide +kernel
theorem dX10_page__34 : decode cX10_page_ 34 = .ok (.istore_n 3, 1) := by decide +kernel
theorem dX10_page__35 : decode cX10_page_ 35 = .ok (.iload_n 2, 1) := by decide +kernel
theorem dX10_page__36 : decode cX10_page_ 36 = .ok (.tableswitch 86 0 3 #[32, 47, 72, 79], 32) := by decide +kernel
theorem dX10_page__68 : decode cX10_page_ 68 = .ok (.aload_n 0, 1) := by decide +kernel
theorem dX10_page__69 : decode cX10_page_ 69 = .ok (.getfield 119, 3) := by decide +kernel
theorem dX10_page__72 : decode cX10_page_ 72 = .ok (.iload_n 3, 1) := by decide +kernel
theorem dX10_page__73 : decode cX10_page_ 73 = .ok (.baload, 1) := by decide +kernel
theorem dX10_page__74 : decode cX10_page_ 74 = .ok (.ifCond .eq 7, 3) := by decide +kernel
theorem dX10_page__77 : decode cX10_page_ 77 = .ok (.iconst 0, 1) := by decide +kernel
theorem dX10_page__78 : decode cX10_page_ 78 = .ok (.goto 4, 3) := by decide +kernel
theorem dX10_page__81 : decode cX10_page_ 81 = .ok (.iconst 1, 1) := by decide +kernel
theorem dX10_page__82 : decode cX10_page_ 82 = .ok (.ireturn, 1) := by decide +kernel
theorem dX10_page__83 : decode cX10_page_ 83 = .ok (.aload_n 0, 1) := by decide +kernel
theorem dX10_page__84 : decode cX10_page_ 84 = .ok (.getfield 119, 3) := by decide +kernel
theorem dX10_page__87 : decode cX10_page_ 87 = .ok (.iload_n 3, 1) := by decide +kernel
theorem dX10_page__88 : decode cX10_page_ 88 = .ok (.baload, 1) := by decide +kernel
theorem dX10_page__89 : decode cX10_page_ 89 = .ok (.ifCond .eq 12, 3) := by decide +kernel
theorem dX10_page__92 : decode cX10_page_ 92 = .ok (.aload_n 0, 1) := by decide +kernel
theorem dX10_page__93 : decode cX10_page_ 93 = .ok (.getfield 126, 3) := by decide +kernel
theorem dX10_page__96 : decode cX10_page_ 96 = .ok (.iload_n 3, 1) := by decide +kernel
theorem dX10_page__97 : decode cX10_page_ 97 = .ok (.iaload, 1) := by decide +kernel
theorem dX10_page__98 : decode cX10_page_ 98 = .ok (.goto 9, 3) := by decide +kernel
theorem dX10_page__101 : decode cX10_page_ 101 = .ok (.aload_n 0, 1) := by decide +kernel
theorem dX10_page__102 : decode cX10_page_ 102 = .ok (.getfield 129, 3) := by decide +kernel
theorem dX10_page__105 : decode cX10_page_ 105 = .ok (.iload_n 3, 1) := by decide +kernel
theorem dX10_page__106 : decode cX10_page_ 106 = .ok (.iaload, 1) := by decide +kernel
theorem dX10_page__107 : decode cX10_page_ 107 = .ok (.ireturn, 1) := by decide +kernel
theorem dX10_page__108 : decode cX10_page_ 108 = .ok (.aload_n 0, 1) := by decide +kernel
theorem dX10_page__109 : decode cX10_page_ 109 = .ok (.getfield 145, 3) := by decide +kernel
theorem dX10_page__112 : decode cX10_page_ 112 = .ok (.iload_n 3, 1) := by decide +kernel
theorem dX10_page__113 : decode cX10_page_ 113 = .ok (.iaload, 1) := by decide +kernel
theorem dX10_page__114 : decode cX10_page_ 114 = .ok (.ireturn, 1) := by decide +kernel
theorem dX10_page__115 : decode cX10_page_ 115 = .ok (.aload_n 0, 1) := by decide +kernel
theorem dX10_page__116 : decode cX10_page_ 116 = .ok (.getfield 148, 3) := by decide +kernel
theorem dX10_page__119 : decode cX10_page_ 119 = .ok (.iload_n 3, 1) := by decide +kernel
theorem dX10_page__120 : decode cX10_page_ 120 = .ok (.iaload, 1) := by decide +kernel
theorem dX10_page__121 : decode cX10_page_ 121 = .ok (.ireturn, 1) := by decide +kernel
theorem dX10_page__122 : decode cX10_page_ 122 = .ok (.iconst (-1), 1) := by decide +kernel
theorem dX10_page__123 : decode cX10_page_ 123 = .ok (.ireturn, 1) := by decide +kernel
theorem dX10_border_0 : decode cX10_border 0 = .ok (.aload_n 0, 1) := by decide +kernel
theorem dX10_border_1 : decode cX10_border 1 = .ok (.getfield 90, 3) := by decide +kernel
theorem dX10_border_4 : decode cX10_border 4 = .ok (.ifCond .eq 6, 3) := by decide +kernel
theorem dX10_border_7 : decode cX10_border 7 = .ok (.bipush (-4), 2) := by decide +kernel
theorem dX10_border_9 : decode cX10_border 9 = .ok (.ireturn, 1) := by decide +kernel
theorem dX10_border_10 : decode cX10_border 10 = .ok (.aload_n 0, 1) := by decide +kernel
theorem dX10_border_11 : decode cX10_border 11 = .ok (.invokevirtual 355, 3) := by decide +kernel
theorem dX10_border_14 : decode cX10_border 14 = .ok (.iload_n 1, 1) := by decide +kernel
theorem dX10_border_15 : decode cX10_border 15 = .ok (.ifCond .lt 16, 3) := by decide +kernel
theorem dX10_border_18 : decode cX10_border 18 = .ok (.iload_n 1, 1) := by decide +kernel
theorem dX10_border_19 : decode cX10_border 19 = .ok (.aload_n 0, 1) := by decide +kernel
theorem dX10_border_20 : decode cX10_border 20 = .ok (.getfield 349, 3) := by decide +kernel
theorem dX10_border_23 : decode cX10_border 23 = .ok (.if_icmp .ge 8, 3) := by decide +kernel
theorem dX10_border_26 : decode cX10_border 26 = .ok (.iload_n 2, 1) := by decide +kernel
theorem dX10_border_27 : decode cX10_border 27 = .ok (.iconst 1, 1) := by decide +kernel
theorem dX10_border_28 : decode cX10_border 28 = .ok (.if_icmp .ge 5, 3) := by decide +kernel
theorem dX10_border_31 : decode cX10_border 31 = .ok (.iconst (-1), 1) := by decide +kernel
theorem dX10_border_32 : decode cX10_border 32 = .ok (.ireturn, 1) := by decide +kernel
theorem dX10_border_33 : decode cX10_border 33 = .ok (.aload_n 0, 1) := by decide +kernel
theorem dX10_border_34 : decode cX10_border 34 = .ok (.getfield 191, 3) := by decide +kernel
theorem dX10_border_37 : decode cX10_border 37 = .ok (.iload_n 1, 1) := by decide +kernel
theorem dX10_border_38 : decode cX10_border 38 = .ok (.iaload, 1) := by decide +kernel
theorem dX10_border_39 : decode cX10_border 39 = .ok (.istore_n 3, 1) := by decide +kernel
theorem dX10_border_40 : decode cX10_border 40 = .ok (.iload_n 2, 1) := by decide +kernel
theorem dX10_border_41 : decode cX10_border 41 = .ok (.aload_n 0, 1) := by decide +kernel
theorem dX10_border_42 : decode cX10_border 42 = .ok (.getfield 119, 3) := by decide +kernel
theorem dX10_border_45 : decode cX10_border 45 = .ok (.iload_n 3, 1) := by decide +kernel
theorem dX10_border_46 : decode cX10_border 46 = .ok (.baload, 1) := by decide +kernel
theorem dX10_border_47 : decode cX10_border 47 = .ok (.ifCond .eq 12, 3) := by decide +kernel
theorem dX10_border_50 : decode cX10_border 50 = .ok (.aload_n 0, 1) := by decide +kernel
theorem dX10_border_51 : decode cX10_border 51 = .ok (.getfield 126, 3) := by decide +kernel
theorem dX10_border_54 : decode cX10_border 54 = .ok (.iload_n 3, 1) := by decide +kernel
theorem dX10_border_55 : decode cX10_border 55 = .ok (.iaload, 1) := by decide +kernel
theorem dX10_border_56 : decode cX10_border 56 = .ok (.goto 11, 3) := by decide +kernel
theorem dX10_border_59 : decode cX10_border 59 = .ok (.aload_n 0, 1) := by decide +kernel
theorem dX10_border_60 : decode cX10_border 60 = .ok (.getfield 129, 3) := by decide +kernel
theorem dX10_border_63 : decode cX10_border 63 = .ok (.iload_n 3, 1) := by decide +kernel
theorem dX10_border_64 : decode cX10_border 64 = .ok (.iaload, 1) := by decide +kernel
theorem dX10_border_65 : decode cX10_border 65 = .ok (.iconst 1, 1) := by decide +kernel
theorem dX10_border_66 : decode cX10_border 66 = .ok (.isub, 1) := by decide +kernel
theorem dX10_border_67 : decode cX10_border 67 = .ok (.if_icmp .le 5, 3) := by decide +kernel
theorem dX10_border_70 : decode cX10_border 70 = .ok (.iconst (-1), 1) := by decide +kernel
theorem dX10_border_71 : decode cX10_border 71 = .ok (.ireturn, 1) := by decide +kernel
theorem dX10_border_72 : decode cX10_border 72 = .ok (.aload_n 0, 1) := by decide +kernel
theorem dX10_border_73 : decode cX10_border 73 = .ok (.getfield 123, 3) := by decide +kernel
theorem dX10_border_76 : decode cX10_border 76 = .ok (.iload_n 3, 1) := by decide +kernel
theorem dX10_border_77 : decode cX10_border 77 = .ok (.iaload, 1) := by decide +kernel
theorem dX10_border_78 : decode cX10_border 78 = .ok (.istore 4, 2) := by decide +kernel
theorem dX10_border_80 : decode cX10_border 80 = .ok (.iconst 1, 1) := by decide +kernel
theorem dX10_border_81 : decode cX10_border 81 = .ok (.istore 5, 2) := by decide +kernel
theorem dX10_border_83 : decode cX10_border 83 = .ok (.iload 5, 2) := by decide +kernel
theorem dX10_border_85 : decode cX10_border 85 = .ok (.iload_n 2, 1) := by decide +kernel
theorem dX10_border_86 : decode cX10_border 86 = .ok (.if_icmp .ge 27, 3) := by decide +kernel
theorem dX10_border_89 : decode cX10_border 89 = .ok (.aload_n 0, 1) := by decide +kernel
theorem dX10_border_90 : decode cX10_border 90 = .ok (.getfield 119, 3) := by decide +kernel
theorem dX10_border_93 : decode cX10_border 93 = .ok (.iload_n 3, 1) := by decide +kernel
theorem dX10_border_94 : decode cX10_border 94 = .ok (.baload, 1) := by decide +kernel
theorem dX10_border_95 : decode cX10_border 95 = .ok (.ifCond .eq 18, 3) := by decide +kernel
theorem dX10_border_98 : decode cX10_border 98 = .ok (.aload_n 0, 1) := by decide +kernel
theorem dX10_border_99 : decode cX10_border 99 = .ok (.getfield 164, 3) := by decide +kernel
theorem dX10_border_102 : decode cX10_border 102 = .ok (.iload 4, 2) := by decide +kernel
theorem dX10_border_104 : decode cX10_border 104 = .ok (.iaload, 1) := by decide +kernel
theorem dX10_border_105 : decode cX10_border 105 = .ok (.istore 4, 2) := by decide +kernel
theorem dX10_border_107 : decode cX10_border 107 = .ok (.iinc 5 1, 3) := by decide +kernel
theorem dX10_border_110 : decode cX10_border 110 = .ok (.goto (-27), 3) := by decide +kernel
theorem dX10_border_113 : decode cX10_border 113 = .ok (.aload_n 0, 1) := by decide +kernel
theorem dX10_border_114 : decode cX10_border 114 = .ok (.aload_n 0, 1) := by decide +kernel
theorem dX10_border_115 : decode cX10_border 115 = .ok (.getfield 119, 3) := by decide +kernel
theorem dX10_border_118 : decode cX10_border 118 = .ok (.iload_n 3, 1) := by decide +kernel
theorem dX10_border_119 : decode cX10_border 119 = .ok (.baload, 1) := by decide +kernel
theorem dX10_border_120 : decode cX10_border 120 = .ok (.ifCond .eq 13, 3) := by decide +kernel
theorem dX10_border_123 : decode cX10_border 123 = .ok (.aload_n 0, 1) := by decide +kernel
theorem dX10_border_124 : decode cX10_border 124 = .ok (.getfield 154, 3) := by decide +kernel
theorem dX10_border_127 : decode cX10_border 127 = .ok (.iload 4, 2) := by decide +kernel
theorem dX10_border_129 : decode cX10_border 129 = .ok (.laload, 1) := by decide +kernel
theorem dX10_border_130 : decode cX10_border 130 = .ok (.goto 15, 3) := by decide +kernel
theorem dX10_border_133 : decode cX10_border 133 = .ok (.aload_n 0, 1) := by decide +kernel
theorem dX10_border_134 : decode cX10_border 134 = .ok (.getfield 136, 3) := by decide +kernel
theorem dX10_border_137 : decode cX10_border 137 = .ok (.sipush 128, 3) := by decide +kernel
theorem dX10_border_140 : decode cX10_border 140 = .ok (.iload_n 3, 1) := by decide +kernel
theorem dX10_border_141 : decode cX10_border 141 = .ok (.imul, 1) := by decide +kernel
theorem dX10_border_142 : decode cX10_border 142 = .ok (.iload_n 2, 1) := by decide +kernel
theorem dX10_border_143 : decode cX10_border 143 = .ok (.iadd, 1) := by decide +kernel
theorem dX10_border_144 : decode cX10_border 144 = .ok (.laload, 1) := by decide +kernel
theorem dX10_border_145 : decode cX10_border 145 = .ok (.putfield 107, 3) := by decide +kernel
theorem dX10_border_148 : decode cX10_border 148 = .ok (.iconst 1, 1) := by decide +kernel
theorem dX10_border_149 : decode cX10_border 149 = .ok (.ireturn, 1) := by decide +kernel
theorem dX10_letter__0 : decode cX10_letter_ 0 = .ok (.aload_n 0, 1) := by decide +kernel
theorem dX10_letter__1 : decode cX10_letter_ 1 = .ok (.getfield 90, 3) := by decide +kernel
theorem dX10_letter__4 : decode cX10_letter_ 4 = .ok (.ifCond .eq 6, 3) := by decide +kernel
theorem dX10_letter__7 : decode cX10_letter_ 7 = .ok (.bipush (-4), 2) := by decide +kernel
theorem dX10_letter__9 : decode cX10_letter_ 9 = .ok (.ireturn, 1) := by decide +kernel
theorem dX10_letter__10 : decode cX10_letter_ 10 = .ok (.aload_n 0, 1) := by decide +kernel
theorem dX10_letter__11 : decode cX10_letter_ 11 = .ok (.invokevirtual 355, 3) := by decide +kernel
theorem dX10_letter__14 : decode cX10_letter_ 14 = .ok (.iload_n 1, 1) := by decide +kernel
theorem dX10_letter__15 : decode cX10_letter_ 15 = .ok (.ifCond .lt 39, 3) := by decide +kernel
theorem dX10_letter__18 : decode cX10_letter_ 18 = .ok (.iload_n 1, 1) := by decide +kernel
theorem dX10_letter__19 : decode cX10_letter_ 19 = .ok (.aload_n 0, 1) := by decide +kernel
theorem dX10_letter__20 : decode cX10_letter_ 20 = .ok (.getfield 349, 3) := by decide +kernel
theorem dX10_letter__23 : decode cX10_letter_ 23 = .ok (.if_icmp .ge 31, 3) := by decide +kernel
theorem dX10_letter__26 : decode cX10_letter_ 26 = .ok (.iload_n 2, 1) := by decide +kernel
theorem dX10_letter__27 : decode cX10_letter_ 27 = .ok (.ifCond .lt 27, 3) := by decide +kernel
theorem dX10_letter__30 : decode cX10_letter_ 30 = .ok (.iload_n 3, 1) := by decide +kernel
theorem dX10_letter__31 : decode cX10_letter_ 31 = .ok (.ifCond .lt 23, 3) := by decide +kernel
theorem dX10_letter__34 : decode cX10_letter_ 34 = .ok (.iload_n 3, 1) := by decide +kernel
theorem dX10_letter__35 : decode cX10_letter_ 35 = .ok (.iconst 1, 1) := by decide +kernel
theorem dX10_letter__36 : decode cX10_letter_ 36 = .ok (.if_icmp .gt 18, 3) := by decide +kernel
theorem dX10_letter__39 : decode cX10_letter_ 39 = .ok (.iload_n 2, 1) := by decide +kernel
theorem dX10_letter__40 : decode cX10_letter_ 40 = .ok (.aload_n 0, 1) := by decide +kernel
theorem dX10_letter__41 : decode cX10_letter_ 41 = .ok (.getfield 145, 3) := by decide +kernel
theorem dX10_letter__44 : decode cX10_letter_ 44 = .ok (.aload_n 0, 1) := by decide +kernel
theorem dX10_letter__45 : decode cX10_letter_ 45 = .ok (.getfield 191, 3) := by decide +kernel
theorem dX10_letter__48 : decode cX10_letter_ 48 = .ok (.iload_n 1, 1) := by decide +kernel
theorem dX10_letter__49 : decode cX10_letter_ 49 = .ok (.iaload, 1) := by decide +kernel
theorem dX10_letter__50 : decode cX10_letter_ 50 = .ok (.iaload, 1) := by decide +kernel
theorem dX10_letter__51 : decode cX10_letter_ 51 = .ok (.if_icmp .lt 5, 3) := by decide +kernel
theorem dX10_letter__54 : decode cX10_letter_ 54 = .ok (.iconst (-1), 1) := by decide +kernel
theorem dX10_letter__55 : decode cX10_letter_ 55 = .ok (.ireturn, 1) := by decide +kernel
theorem dX10_letter__56 : decode cX10_letter_ 56 = .ok (.aload_n 0, 1) := by decide +kernel
theorem dX10_letter__57 : decode cX10_letter_ 57 = .ok (.getfield 139, 3) := by decide +kernel
theorem dX10_letter__60 : decode cX10_letter_ 60 = .ok (.aload_n 0, 1) := by decide +kernel
theorem dX10_letter__61 : decode cX10_letter_ 61 = .ok (.getfield 191, 3) := by decide +kernel
theorem dX10_letter__64 : decode cX10_letter_ 64 = .ok (.iload_n 1, 1) := by decide +kernel
theorem dX10_letter__65 : decode cX10_letter_ 65 = .ok (.iaload, 1) := by decide +kernel
theorem dX10_letter__66 : decode cX10_letter_ 66 = .ok (.iaload, 1) := by decide +kernel
theorem dX10_letter__67 : decode cX10_letter_ 67 = .ok (.istore 4, 2) := by decide +kernel
theorem dX10_letter__69 : decode cX10_letter_ 69 = .ok (.iconst 0, 1) := by decide +kernel
theorem dX10_letter__70 : decode cX10_letter_ 70 = .ok (.istore 5, 2) := by decide +kernel
theorem dX10_letter__72 : decode cX10_letter_ 72 = .ok (.iload 5, 2) := by decide +kernel
theorem dX10_letter__74 : decode cX10_letter_ 74 = .ok (.iload_n 2, 1) := by decide +kernel
theorem dX10_letter__75 : decode cX10_letter_ 75 = .ok (.if_icmp .ge 18, 3) := by decide +kernel
theorem dX10_letter__78 : decode cX10_letter_ 78 = .ok (.aload_n 0, 1) := by decide +kernel
theorem dX10_letter__79 : decode cX10_letter_ 79 = .ok (.getfield 176, 3) := by decide +kernel
theorem dX10_letter__82 : decode cX10_letter_ 82 = .ok (.iload 4, 2) := by decide +kernel
theorem dX10_letter__84 : decode cX10_letter_ 84 = .ok (.iaload, 1) := by decide +kernel
theorem dX10_letter__85 : decode cX10_letter_ 85 = .ok (.istore 4, 2) := by decide +kernel
theorem dX10_letter__87 : decode cX10_letter_ 87 = .ok (.iinc 5 1, 3) := by decide +kernel
theorem dX10_letter__90 : decode cX10_letter_ 90 = .ok (.goto (-18), 3) := by decide +kernel
theorem dX10_letter__93 : decode cX10_letter_ 93 = .ok (.iload_n 3, 1) := by decide +kernel
theorem dX10_letter__94 : decode cX10_letter_ 94 = .ok (.ifCond .ne 18, 3) := by decide +kernel
theorem dX10_letter__97 : decode cX10_letter_ 97 = .ok (.aload_n 0, 1) := by decide +kernel
theorem dX10_letter__98 : decode cX10_letter_ 98 = .ok (.getfield 46, 3) := by decide +kernel
theorem dX10_letter__101 : decode cX10_letter_ 101 = .ok (.aload_n 0, 1) := by decide +kernel
theorem dX10_letter__102 : decode cX10_letter_ 102 = .ok (.getfield 167, 3) := by decide +kernel
theorem dX10_letter__105 : decode cX10_letter_ 105 = .ok (.iload 4, 2) := by decide +kernel
theorem dX10_letter__107 : decode cX10_letter_ 107 = .ok (.iaload, 1) := by decide +kernel
theorem dX10_letter__108 : decode cX10_letter_ 108 = .ok (.iaload, 1) := by decide +kernel
theorem dX10_letter__109 : decode cX10_letter_ 109 = .ok (.goto 15, 3) := by decide +kernel
theorem dX10_letter__112 : decode cX10_letter_ 112 = .ok (.aload_n 0, 1) := by decide +kernel
theorem dX10_letter__113 : decode cX10_letter_ 113 = .ok (.getfield 69, 3) := by decide +kernel
theorem dX10_letter__116 : decode cX10_letter_ 116 = .ok (.aload_n 0, 1) := by decide +kernel
theorem dX10_letter__117 : decode cX10_letter_ 117 = .ok (.getfield 167, 3) := by decide +kernel
theorem dX10_letter__120 : decode cX10_letter_ 120 = .ok (.iload 4, 2) := by decide +kernel
theorem dX10_letter__122 : decode cX10_letter_ 122 = .ok (.iaload, 1) := by decide +kernel
theorem dX10_letter__123 : decode cX10_letter_ 123 = .ok (.iaload, 1) := by decide +kernel
theorem dX10_letter__124 : decode cX10_letter_ 124 = .ok (.ireturn, 1) := by decide +kernel
theorem dX10_met_0 : decode cX10_met 0 = .ok (.aload_n 0, 1) := by decide +kernel
theorem dX10_met_1 : decode cX10_met 1 = .ok (.getfield 90, 3) := by decide +kernel
theorem dX10_met_4 : decode cX10_met 4 = .ok (.ifCond .eq 6, 3) := by decide +kernel
theorem dX10_met_7 : decode cX10_met 7 = .ok (.bipush (-4), 2) := by decide +kernel
theorem dX10_met_9 : decode cX10_met 9 = .ok (.ireturn, 1) := by decide +kernel
theorem dX10_met_10 : decode cX10_met 10 = .ok (.iconst 0, 1) := by decide +kernel
theorem dX10_met_11 : decode cX10_met 11 = .ok (.istore_n 3, 1) := by decide +kernel
theorem dX10_met_12 : decode cX10_met 12 = .ok (.aload_n 0, 1) := by decide +kernel
theorem dX10_met_13 : decode cX10_met 13 = .ok (.getfield 277, 3) := by decide +kernel
theorem dX10_met_16 : decode cX10_met 16 = .ok (.istore 4, 2) := by decide +kernel
theorem dX10_met_18 : decode cX10_met 18 = .ok (.aload_n 0, 1) := by decide +kernel
theorem dX10_met_19 : decode cX10_met 19 = .ok (.getfield 119, 3) := by decide +kernel
theorem dX10_met_22 : decode cX10_met 22 = .ok (.iload 4, 2) := by decide +kernel
theorem dX10_met_24 : decode cX10_met 24 = .ok (.baload, 1) := by decide +kernel
theorem dX10_met_25 : decode cX10_met 25 = .ok (.ifCond .ne 86, 3) := by decide +kernel
theorem dX10_met_28 : decode cX10_met 28 = .ok (.aload_n 0, 1) := by decide +kernel
theorem dX10_met_29 : decode cX10_met 29 = .ok (.getfield 139, 3) := by decide +kernel
theorem dX10_met_32 : decode cX10_met 32 = .ok (.iload 4, 2) := by decide +kernel
theorem dX10_met_34 : decode cX10_met 34 = .ok (.iaload, 1) := by decide +kernel
theorem dX10_met_35 : decode cX10_met 35 = .ok (.istore 5, 2) := by decide +kernel
theorem dX10_met_37 : decode cX10_met 37 = .ok (.iload 5, 2) := by decide +kernel
theorem dX10_met_39 : decode cX10_met 39 = .ok (.iconst (-1), 1) := by decide +kernel
theorem dX10_met_40 : decode cX10_met 40 = .ok (.if_icmp .eq 47, 3) := by decide +kernel
theorem dX10_met_43 : decode cX10_met 43 = .ok (.iload_n 3, 1) := by decide +kernel
theorem dX10_met_44 : decode cX10_met 44 = .ok (.aload_n 0, 1) := by decide +kernel
theorem dX10_met_45 : decode cX10_met 45 = .ok (.getfield 170, 3) := by decide +kernel
theorem dX10_met_48 : decode cX10_met 48 = .ok (.iload 5, 2) := by decide +kernel
theorem dX10_met_50 : decode cX10_met 50 = .ok (.laload, 1) := by decide +kernel
theorem dX10_met_51 : decode cX10_met 51 = .ok (.lload_n 1, 1) := by decide +kernel
theorem dX10_met_52 : decode cX10_met 52 = .ok (.lcmp, 1) := by decide +kernel
theorem dX10_met_53 : decode cX10_met 53 = .ok (.ifCond .gt 19, 3) := by decide +kernel
theorem dX10_met_56 : decode cX10_met 56 = .ok (.lload_n 1, 1) := by decide +kernel
theorem dX10_met_57 : decode cX10_met 57 = .ok (.aload_n 0, 1) := by decide +kernel
theorem dX10_met_58 : decode cX10_met 58 = .ok (.getfield 173, 3) := by decide +kernel
theorem dX10_met_61 : decode cX10_met 61 = .ok (.iload 5, 2) := by decide +kernel
theorem dX10_met_63 : decode cX10_met 63 = .ok (.laload, 1) := by decide +kernel
theorem dX10_met_64 : decode cX10_met 64 = .ok (.lcmp, 1) := by decide +kernel
theorem dX10_met_65 : decode cX10_met 65 = .ok (.ifCond .gt 7, 3) := by decide +kernel
theorem dX10_met_68 : decode cX10_met 68 = .ok (.iconst 1, 1) := by decide +kernel
theorem dX10_met_69 : decode cX10_met 69 = .ok (.goto 4, 3) := by decide +kernel
theorem dX10_met_72 : decode cX10_met 72 = .ok (.iconst 0, 1) := by decide +kernel
theorem dX10_met_73 : decode cX10_met 73 = .ok (.iadd, 1) := by decide +kernel
theorem dX10_met_74 : decode cX10_met 74 = .ok (.istore_n 3, 1) := by decide +kernel
theorem dX10_met_75 : decode cX10_met 75 = .ok (.aload_n 0, 1) := by decide +kernel
theorem dX10_met_76 : decode cX10_met 76 = .ok (.getfield 176, 3) := by decide +kernel
theorem dX10_met_79 : decode cX10_met 79 = .ok (.iload 5, 2) := by decide +kernel
theorem dX10_met_81 : decode cX10_met 81 = .ok (.iaload, 1) := by decide +kernel
theorem dX10_met_82 : decode cX10_met 82 = .ok (.istore 5, 2) := by decide +kernel
theorem dX10_met_84 : decode cX10_met 84 = .ok (.goto (-47), 3) := by decide +kernel
theorem dX10_met_87 : decode cX10_met 87 = .ok (.aload_n 0, 1) := by decide +kernel
theorem dX10_met_88 : decode cX10_met 88 = .ok (.getfield 133, 3) := by decide +kernel
theorem dX10_met_91 : decode cX10_met 91 = .ok (.sipush 128, 3) := by decide +kernel
theorem dX10_met_94 : decode cX10_met 94 = .ok (.iload 4, 2) := by decide +kernel
theorem dX10_met_96 : decode cX10_met 96 = .ok (.imul, 1) := by decide +kernel
theorem dX10_met_97 : decode cX10_met 97 = .ok (.aload_n 0, 1) := by decide +kernel
theorem dX10_met_98 : decode cX10_met 98 = .ok (.iload 4, 2) := by decide +kernel
theorem dX10_met_100 : decode cX10_met 100 = .ok (.lload_n 1, 1) := by decide +kernel
theorem dX10_met_101 : decode cX10_met 101 = .ok (.invokevirtual 307, 3) := by decide +kernel
theorem dX10_met_104 : decode cX10_met 104 = .ok (.iadd, 1) := by decide +kernel
theorem dX10_met_105 : decode cX10_met 105 = .ok (.iaload, 1) := by decide +kernel
theorem dX10_met_106 : decode cX10_met 106 = .ok (.istore 4, 2) := by decide +kernel
theorem dX10_met_108 : decode cX10_met 108 = .ok (.goto (-90), 3) := by decide +kernel
theorem dX10_met_111 : decode cX10_met 111 = .ok (.iload_n 3, 1) := by decide +kernel
theorem dX10_met_112 : decode cX10_met 112 = .ok (.ireturn, 1) := by decide +kernel
theorem dX10_take_0 : decode cX10_take 0 = .ok (.aload_n 0, 1) := by decide +kernel
theorem dX10_take_1 : decode cX10_take 1 = .ok (.getfield 264, 3) := by decide +kernel
theorem dX10_take_4 : decode cX10_take 4 = .ok (.iload_n 1, 1) := by decide +kernel
theorem dX10_take_5 : decode cX10_take 5 = .ok (.baload, 1) := by decide +kernel
theorem dX10_take_6 : decode cX10_take 6 = .ok (.ifCond .eq 4, 3) := by decide +kernel
theorem dX10_take_9 : decode cX10_take 9 = .ok (.return_, 1) := by decide +kernel
theorem dX10_take_10 : decode cX10_take 10 = .ok (.aload_n 0, 1) := by decide +kernel
theorem dX10_take_11 : decode cX10_take 11 = .ok (.getfield 264, 3) := by decide +kernel
theorem dX10_take_14 : decode cX10_take 14 = .ok (.iload_n 1, 1) := by decide +kernel
theorem dX10_take_15 : decode cX10_take 15 = .ok (.iconst 1, 1) := by decide +kernel
theorem dX10_take_16 : decode cX10_take 16 = .ok (.bastore, 1) := by decide +kernel
theorem dX10_take_17 : decode cX10_take 17 = .ok (.iconst 0, 1) := by decide +kernel
theorem dX10_take_18 : decode cX10_take 18 = .ok (.istore_n 2, 1) := by decide +kernel
theorem dX10_take_19 : decode cX10_take 19 = .ok (.iload_n 2, 1) := by decide +kernel
theorem dX10_take_20 : decode cX10_take 20 = .ok (.aload_n 0, 1) := by decide +kernel
theorem dX10_take_21 : decode cX10_take 21 = .ok (.getfield 203, 3) := by decide +kernel
theorem dX10_take_24 : decode cX10_take 24 = .ok (.iload_n 1, 1) := by decide +kernel
theorem dX10_take_25 : decode cX10_take 25 = .ok (.iaload, 1) := by decide +kernel
theorem dX10_take_26 : decode cX10_take 26 = .ok (.if_icmp .ge 33, 3) := by decide +kernel
theorem dX10_take_29 : decode cX10_take 29 = .ok (.aload_n 0, 1) := by decide +kernel
theorem dX10_take_30 : decode cX10_take 30 = .ok (.getfield 200, 3) := by decide +kernel
theorem dX10_take_33 : decode cX10_take 33 = .ok (.iload_n 1, 1) := by decide +kernel
theorem dX10_take_34 : decode cX10_take 34 = .ok (.baload, 1) := by decide +kernel
theorem dX10_take_35 : decode cX10_take 35 = .ok (.ifCond .ne 24, 3) := by decide +kernel
theorem dX10_take_38 : decode cX10_take 38 = .ok (.aload_n 0, 1) := by decide +kernel
theorem dX10_take_39 : decode cX10_take 39 = .ok (.aload_n 0, 1) := by decide +kernel
theorem dX10_take_40 : decode cX10_take 40 = .ok (.getfield 216, 3) := by decide +kernel
theorem dX10_take_43 : decode cX10_take 43 = .ok (.bipush 6, 2) := by decide +kernel
theorem dX10_take_45 : decode cX10_take 45 = .ok (.iload_n 1, 1) := by decide +kernel
theorem dX10_take_46 : decode cX10_take 46 = .ok (.imul, 1) := by decide +kernel
theorem dX10_take_47 : decode cX10_take 47 = .ok (.iload_n 2, 1) := by decide +kernel
theorem dX10_take_48 : decode cX10_take 48 = .ok (.iadd, 1) := by decide +kernel
theorem dX10_take_49 : decode cX10_take 49 = .ok (.iaload, 1) := by decide +kernel
theorem dX10_take_50 : decode cX10_take 50 = .ok (.invokevirtual 360, 3) := by decide +kernel
theorem dX10_take_53 : decode cX10_take 53 = .ok (.iinc 2 1, 3) := by decide +kernel
theorem dX10_take_56 : decode cX10_take 56 = .ok (.goto (-37), 3) := by decide +kernel
theorem dX10_take_59 : decode cX10_take 59 = .ok (.return_, 1) := by decide +kernel
theorem dX10_mark_0 : decode cX10_mark 0 = .ok (.iconst 0, 1) := by decide +kernel
theorem dX10_mark_1 : decode cX10_mark 1 = .ok (.istore_n 1, 1) := by decide +kernel
theorem dX10_mark_2 : decode cX10_mark 2 = .ok (.iload_n 1, 1) := by decide +kernel
theorem dX10_mark_3 : decode cX10_mark 3 = .ok (.sipush 1000, 3) := by decide +kernel
theorem dX10_mark_6 : decode cX10_mark 6 = .ok (.if_icmp .ge 16, 3) := by decide +kernel
theorem dX10_mark_9 : decode cX10_mark 9 = .ok (.aload_n 0, 1) := by decide +kernel
theorem dX10_mark_10 : decode cX10_mark 10 = .ok (.getfield 264, 3) := by decide +kernel
theorem dX10_mark_13 : decode cX10_mark 13 = .ok (.iload_n 1, 1) := by decide +kernel
theorem dX10_mark_14 : decode cX10_mark 14 = .ok (.iconst 0, 1) := by decide +kernel
theorem dX10_mark_15 : decode cX10_mark 15 = .ok (.bastore, 1) := by decide +kernel
theorem dX10_mark_16 : decode cX10_mark 16 = .ok (.iinc 1 1, 3) := by decide +kernel
theorem dX10_mark_19 : decode cX10_mark 19 = .ok (.goto (-17), 3) := by decide +kernel
theorem dX10_mark_22 : decode cX10_mark 22 = .ok (.aload_n 0, 1) := by decide +kernel
theorem dX10_mark_23 : decode cX10_mark 23 = .ok (.getfield 90, 3) := by decide +kernel
theorem dX10_mark_26 : decode cX10_mark 26 = .ok (.ifCond .ne 91, 3) := by decide +kernel
theorem dX10_mark_29 : decode cX10_mark 29 = .ok (.aload_n 0, 1) := by decide +kernel
theorem dX10_mark_30 : decode cX10_mark 30 = .ok (.invokevirtual 357, 3) := by decide +kernel
theorem dX10_mark_33 : decode cX10_mark 33 = .ok (.iconst 0, 1) := by decide +kernel
theorem dX10_mark_34 : decode cX10_mark 34 = .ok (.istore_n 1, 1) := by decide +kernel
theorem dX10_mark_35 : decode cX10_mark 35 = .ok (.iload_n 1, 1) := by decide +kernel
theorem dX10_mark_36 : decode cX10_mark 36 = .ok (.aload_n 0, 1) := by decide +kernel
theorem dX10_mark_37 : decode cX10_mark 37 = .ok (.getfield 349, 3) := by decide +kernel
theorem dX10_mark_40 : decode cX10_mark 40 = .ok (.if_icmp .ge 41, 3) := by decide +kernel
theorem dX10_mark_43 : decode cX10_mark 43 = .ok (.aload_n 0, 1) := by decide +kernel
theorem dX10_mark_44 : decode cX10_mark 44 = .ok (.getfield 148, 3) := by decide +kernel
theorem dX10_mark_47 : decode cX10_mark 47 = .ok (.aload_n 0, 1) := by decide +kernel
theorem dX10_mark_48 : decode cX10_mark 48 = .ok (.getfield 191, 3) := by decide +kernel
theorem dX10_mark_51 : decode cX10_mark 51 = .ok (.iload_n 1, 1) := by decide +kernel
theorem dX10_mark_52 : decode cX10_mark 52 = .ok (.iaload, 1) := by decide +kernel
theorem dX10_mark_53 : decode cX10_mark 53 = .ok (.iaload, 1) := by decide +kernel
theorem dX10_mark_54 : decode cX10_mark 54 = .ok (.iconst (-1), 1) := by decide +kernel
theorem dX10_mark_55 : decode cX10_mark 55 = .ok (.if_icmp .eq 20, 3) := by decide +kernel
theorem dX10_mark_58 : decode cX10_mark 58 = .ok (.aload_n 0, 1) := by decide +kernel
theorem dX10_mark_59 : decode cX10_mark 59 = .ok (.getfield 264, 3) := by decide +kernel
theorem dX10_mark_62 : decode cX10_mark 62 = .ok (.aload_n 0, 1) := by decide +kernel
theorem dX10_mark_63 : decode cX10_mark 63 = .ok (.getfield 148, 3) := by decide +kernel
theorem dX10_mark_66 : decode cX10_mark 66 = .ok (.aload_n 0, 1) := by decide +kernel
theorem dX10_mark_67 : decode cX10_mark 67 = .ok (.getfield 191, 3) := by decide +kernel
theorem dX10_mark_70 : decode cX10_mark 70 = .ok (.iload_n 1, 1) := by decide +kernel
theorem dX10_mark_71 : decode cX10_mark 71 = .ok (.iaload, 1) := by decide +kernel
theorem dX10_mark_72 : decode cX10_mark 72 = .ok (.iaload, 1) := by decide +kernel
theorem dX10_mark_73 : decode cX10_mark 73 = .ok (.iconst 1, 1) := by decide +kernel
theorem dX10_mark_74 : decode cX10_mark 74 = .ok (.bastore, 1) := by decide +kernel
theorem dX10_mark_75 : decode cX10_mark 75 = .ok (.iinc 1 1, 3) := by decide +kernel
theorem dX10_mark_78 : decode cX10_mark 78 = .ok (.goto (-43), 3) := by decide +kernel
theorem dX10_mark_81 : decode cX10_mark 81 = .ok (.iconst 0, 1) := by decide +kernel
theorem dX10_mark_82 : decode cX10_mark 82 = .ok (.istore_n 1, 1) := by decide +kernel
theorem dX10_mark_83 : decode cX10_mark 83 = .ok (.iload_n 1, 1) := by decide +kernel
theorem dX10_mark_84 : decode cX10_mark 84 = .ok (.aload_n 0, 1) := by decide +kernel
theorem dX10_mark_85 : decode cX10_mark 85 = .ok (.getfield 363, 3) := by decide +kernel
theorem dX10_mark_88 : decode cX10_mark 88 = .ok (.if_icmp .ge 29, 3) := by decide +kernel
theorem dX10_mark_91 : decode cX10_mark 91 = .ok (.aload_n 0, 1) := by decide +kernel
theorem dX10_mark_92 : decode cX10_mark 92 = .ok (.getfield 255, 3) := by decide +kernel
theorem dX10_mark_95 : decode cX10_mark 95 = .ok (.iload_n 1, 1) := by decide +kernel
theorem dX10_mark_96 : decode cX10_mark 96 = .ok (.iaload, 1) := by decide +kernel
theorem dX10_mark_97 : decode cX10_mark 97 = .ok (.iconst (-1), 1) := by decide +kernel
theorem dX10_mark_98 : decode cX10_mark 98 = .ok (.if_icmp .eq 13, 3) := by decide +kernel
theorem dX10_mark_101 : decode cX10_mark 101 = .ok (.aload_n 0, 1) := by decide +kernel
theorem dX10_mark_102 : decode cX10_mark 102 = .ok (.aload_n 0, 1) := by decide +kernel
theorem dX10_mark_103 : decode cX10_mark 103 = .ok (.getfield 255, 3) := by decide +kernel
theorem dX10_mark_106 : decode cX10_mark 106 = .ok (.iload_n 1, 1) := by decide +kernel
theorem dX10_mark_107 : decode cX10_mark 107 = .ok (.iaload, 1) := by decide +kernel
theorem dX10_mark_108 : decode cX10_mark 108 = .ok (.invokevirtual 360, 3) := by decide +kernel
theorem dX10_mark_111 : decode cX10_mark 111 = .ok (.iinc 1 1, 3) := by decide +kernel
theorem dX10_mark_114 : decode cX10_mark 114 = .ok (.goto (-31), 3) := by decide +kernel
theorem dX10_mark_117 : decode cX10_mark 117 = .ok (.iconst 0, 1) := by decide +kernel
theorem dX10_mark_118 : decode cX10_mark 118 = .ok (.istore_n 1, 1) := by decide +kernel
theorem dX10_mark_119 : decode cX10_mark 119 = .ok (.iload_n 1, 1) := by decide +kernel
theorem dX10_mark_120 : decode cX10_mark 120 = .ok (.iconst 2, 1) := by decide +kernel
theorem dX10_mark_121 : decode cX10_mark 121 = .ok (.if_icmp .ge 64, 3) := by decide +kernel
theorem dX10_mark_124 : decode cX10_mark 124 = .ok (.aload_n 0, 1) := by decide +kernel
theorem dX10_mark_125 : decode cX10_mark 125 = .ok (.getfield 231, 3) := by decide +kernel
theorem dX10_mark_128 : decode cX10_mark 128 = .ok (.iload_n 1, 1) := by decide +kernel
theorem dX10_mark_129 : decode cX10_mark 129 = .ok (.iaload, 1) := by decide +kernel
theorem dX10_mark_130 : decode cX10_mark 130 = .ok (.ifCond .ne 6, 3) := by decide +kernel
theorem dX10_mark_133 : decode cX10_mark 133 = .ok (.goto 46, 3) := by decide +kernel
theorem dX10_mark_136 : decode cX10_mark 136 = .ok (.aload_n 0, 1) := by decide +kernel
theorem dX10_mark_137 : decode cX10_mark 137 = .ok (.aload_n 0, 1) := by decide +kernel
theorem dX10_mark_138 : decode cX10_mark 138 = .ok (.getfield 234, 3) := by decide +kernel
theorem dX10_mark_141 : decode cX10_mark 141 = .ok (.iload_n 1, 1) := by decide +kernel
theorem dX10_mark_142 : decode cX10_mark 142 = .ok (.iaload, 1) := by decide +kernel
theorem dX10_mark_143 : decode cX10_mark 143 = .ok (.invokevirtual 360, 3) := by decide +kernel
theorem dX10_mark_146 : decode cX10_mark 146 = .ok (.iconst 0, 1) := by decide +kernel
theorem dX10_mark_147 : decode cX10_mark 147 = .ok (.istore_n 2, 1) := by decide +kernel
theorem dX10_mark_148 : decode cX10_mark 148 = .ok (.iload_n 2, 1) := by decide +kernel
theorem dX10_mark_149 : decode cX10_mark 149 = .ok (.aload_n 0, 1) := by decide +kernel
theorem dX10_mark_150 : decode cX10_mark 150 = .ok (.getfield 240, 3) := by decide +kernel
theorem dX10_mark_153 : decode cX10_mark 153 = .ok (.iload_n 1, 1) := by decide +kernel
theorem dX10_mark_154 : decode cX10_mark 154 = .ok (.iaload, 1) := by decide +kernel
theorem dX10_mark_155 : decode cX10_mark 155 = .ok (.if_icmp .ge 24, 3) := by decide +kernel
theorem dX10_mark_158 : decode cX10_mark 158 = .ok (.aload_n 0, 1) := by decide +kernel
theorem dX10_mark_159 : decode cX10_mark 159 = .ok (.aload_n 0, 1) := by decide +kernel
theorem dX10_mark_160 : decode cX10_mark 160 = .ok (.getfield 249, 3) := by decide +kernel
theorem dX10_mark_163 : decode cX10_mark 163 = .ok (.bipush 12, 2) := by decide +kernel
theorem dX10_mark_165 : decode cX10_mark 165 = .ok (.iload_n 1, 1) := by decide +kernel
theorem dX10_mark_166 : decode cX10_mark 166 = .ok (.imul, 1) := by decide +kernel
theorem dX10_mark_167 : decode cX10_mark 167 = .ok (.iload_n 2, 1) := by decide +kernel
theorem dX10_mark_168 : decode cX10_mark 168 = .ok (.iadd, 1) := by decide +kernel
theorem dX10_mark_169 : decode cX10_mark 169 = .ok (.iaload, 1) := by decide +kernel
theorem dX10_mark_170 : decode cX10_mark 170 = .ok (.invokevirtual 360, 3) := by decide +kernel
theorem dX10_mark_173 : decode cX10_mark 173 = .ok (.iinc 2 1, 3) := by decide +kernel
theorem dX10_mark_176 : decode cX10_mark 176 = .ok (.goto (-28), 3) := by decide +kernel
theorem dX10_mark_179 : decode cX10_mark 179 = .ok (.iinc 1 1, 3) := by decide +kernel
theorem dX10_mark_182 : decode cX10_mark 182 = .ok (.goto (-63), 3) := by decide +kernel
theorem dX10_mark_185 : decode cX10_mark 185 = .ok (.return_, 1) := by decide +kernel
theorem dX10_freePlaces_0 : decode cX10_freePlaces 0 = .ok (.aload_n 0, 1) := by decide +kernel
theorem dX10_freePlaces_1 : decode cX10_freePlaces 1 = .ok (.invokevirtual 366, 3) := by decide +kernel
theorem dX10_freePlaces_4 : decode cX10_freePlaces 4 = .ok (.iconst 0, 1) := by decide +kernel
theorem dX10_freePlaces_5 : decode cX10_freePlaces 5 = .ok (.istore_n 1, 1) := by decide +kernel
theorem dX10_freePlaces_6 : decode cX10_freePlaces 6 = .ok (.iconst 0, 1) := by decide +kernel
theorem dX10_freePlaces_7 : decode cX10_freePlaces 7 = .ok (.istore_n 2, 1) := by decide +kernel
theorem dX10_freePlaces_8 : decode cX10_freePlaces 8 = .ok (.iload_n 2, 1) := by decide +kernel
theorem dX10_freePlaces_9 : decode cX10_freePlaces 9 = .ok (.sipush 1000, 3) := by decide +kernel
theorem dX10_freePlaces_12 : decode cX10_freePlaces 12 = .ok (.if_icmp .ge 26, 3) := by decide +kernel
theorem dX10_freePlaces_15 : decode cX10_freePlaces 15 = .ok (.iload_n 1, 1) := by decide +kernel
theorem dX10_freePlaces_16 : decode cX10_freePlaces 16 = .ok (.aload_n 0, 1) := by decide +kernel
theorem dX10_freePlaces_17 : decode cX10_freePlaces 17 = .ok (.getfield 264, 3) := by decide +kernel
theorem dX10_freePlaces_20 : decode cX10_freePlaces 20 = .ok (.iload_n 2, 1) := by decide +kernel
theorem dX10_freePlaces_21 : decode cX10_freePlaces 21 = .ok (.baload, 1) := by decide +kernel
theorem dX10_freePlaces_22 : decode cX10_freePlaces 22 = .ok (.ifCond .eq 7, 3) := by decide +kernel
theorem dX10_freePlaces_25 : decode cX10_freePlaces 25 = .ok (.iconst 0, 1) := by decide +kernel
theorem dX10_freePlaces_26 : decode cX10_freePlaces 26 = .ok (.goto 4, 3) := by decide +kernel
theorem dX10_freePlaces_29 : decode cX10_freePlaces 29 = .ok (.iconst 1, 1) := by decide +kernel
theorem dX10_freePlaces_30 : decode cX10_freePlaces 30 = .ok (.iadd, 1) := by decide +kernel
theorem dX10_freePlaces_31 : decode cX10_freePlaces 31 = .ok (.istore_n 1, 1) := by decide +kernel
theorem dX10_freePlaces_32 : decode cX10_freePlaces 32 = .ok (.iinc 2 1, 3) := by decide +kernel
theorem dX10_freePlaces_35 : decode cX10_freePlaces 35 = .ok (.goto (-27), 3) := by decide +kernel
theorem dX10_freePlaces_38 : decode cX10_freePlaces 38 = .ok (.iload_n 1, 1) := by decide +kernel
theorem dX10_freePlaces_39 : decode cX10_freePlaces 39 = .ok (.ireturn, 1) := by decide +kernel
theorem dX10_leastFree_0 : decode cX10_leastFree 0 = .ok (.iconst 0, 1) := by decide +kernel
theorem dX10_leastFree_1 : decode cX10_leastFree 1 = .ok (.istore_n 1, 1) := by decide +kernel
theorem dX10_leastFree_2 : decode cX10_leastFree 2 = .ok (.aload_n 0, 1) := by decide +kernel
theorem dX10_leastFree_3 : decode cX10_leastFree 3 = .ok (.getfield 264, 3) := by decide +kernel
theorem dX10_leastFree_6 : decode cX10_leastFree 6 = .ok (.iload_n 1, 1) := by decide +kernel
theorem dX10_leastFree_7 : decode cX10_leastFree 7 = .ok (.baload, 1) := by decide +kernel
theorem dX10_leastFree_8 : decode cX10_leastFree 8 = .ok (.ifCond .eq 9, 3) := by decide +kernel
theorem dX10_leastFree_11 : decode cX10_leastFree 11 = .ok (.iinc 1 1, 3) := by decide +kernel
theorem dX10_leastFree_14 : decode cX10_leastFree 14 = .ok (.goto (-12), 3) := by decide +kernel
theorem dX10_leastFree_17 : decode cX10_leastFree 17 = .ok (.iload_n 1, 1) := by decide +kernel
theorem dX10_leastFree_18 : decode cX10_leastFree 18 = .ok (.ireturn, 1) := by decide +kernel
theorem dX10_falls_0 : decode cX10_falls 0 = .ok (.aload_n 0, 1) := by decide +kernel
theorem dX10_falls_1 : decode cX10_falls 1 = .ok (.getfield 261, 3) := by decide +kernel
theorem dX10_falls_4 : decode cX10_falls 4 = .ok (.iload_n 1, 1) := by decide +kernel
theorem dX10_falls_5 : decode cX10_falls 5 = .ok (.dup2, 1) := by decide +kernel
theorem dX10_falls_6 : decode cX10_falls 6 = .ok (.iaload, 1) := by decide +kernel
theorem dX10_falls_7 : decode cX10_falls 7 = .ok (.iconst 1, 1) := by decide +kernel
theorem dX10_falls_8 : decode cX10_falls 8 = .ok (.iadd, 1) := by decide +kernel
theorem dX10_falls_9 : decode cX10_falls 9 = .ok (.iastore, 1) := by decide +kernel
theorem dX10_falls_10 : decode cX10_falls 10 = .ok (.aload_n 0, 1) := by decide +kernel
theorem dX10_falls_11 : decode cX10_falls 11 = .ok (.getfield 369, 3) := by decide +kernel
theorem dX10_falls_14 : decode cX10_falls 14 = .ok (.ifCond .ne 5, 3) := by decide +kernel
theorem dX10_falls_17 : decode cX10_falls 17 = .ok (.iconst 0, 1) := by decide +kernel
theorem dX10_falls_18 : decode cX10_falls 18 = .ok (.ireturn, 1) := by decide +kernel
theorem dX10_falls_19 : decode cX10_falls 19 = .ok (.aload_n 0, 1) := by decide +kernel
theorem dX10_falls_20 : decode cX10_falls 20 = .ok (.dup, 1) := by decide +kernel
theorem dX10_falls_21 : decode cX10_falls 21 = .ok (.getfield 369, 3) := by decide +kernel
theorem dX10_falls_24 : decode cX10_falls 24 = .ok (.iconst 1, 1) := by decide +kernel
theorem dX10_falls_25 : decode cX10_falls 25 = .ok (.isub, 1) := by decide +kernel
theorem dX10_falls_26 : decode cX10_falls 26 = .ok (.putfield 369, 3) := by decide +kernel
theorem dX10_falls_29 : decode cX10_falls 29 = .ok (.aload_n 0, 1) := by decide +kernel
theorem dX10_falls_30 : decode cX10_falls 30 = .ok (.getfield 369, 3) := by decide +kernel
theorem dX10_falls_33 : decode cX10_falls 33 = .ok (.ifCond .le 5, 3) := by decide +kernel
theorem dX10_falls_36 : decode cX10_falls 36 = .ok (.iconst 0, 1) := by decide +kernel
theorem dX10_falls_37 : decode cX10_falls 37 = .ok (.ireturn, 1) := by decide +kernel
theorem dX10_falls_38 : decode cX10_falls 38 = .ok (.aload_n 0, 1) := by decide +kernel
theorem dX10_falls_39 : decode cX10_falls 39 = .ok (.getfield 261, 3) := by decide +kernel
theorem dX10_falls_42 : decode cX10_falls 42 = .ok (.iconst 3, 1) := by decide +kernel
theorem dX10_falls_43 : decode cX10_falls 43 = .ok (.dup2, 1) := by decide +kernel
theorem dX10_falls_44 : decode cX10_falls 44 = .ok (.iaload, 1) := by decide +kernel
theorem dX10_falls_45 : decode cX10_falls 45 = .ok (.iconst 1, 1) := by decide +kernel
theorem dX10_falls_46 : decode cX10_falls 46 = .ok (.iadd, 1) := by decide +kernel
theorem dX10_falls_47 : decode cX10_falls 47 = .ok (.iastore, 1) := by decide +kernel
theorem dX10_falls_48 : decode cX10_falls 48 = .ok (.aload_n 0, 1) := by decide +kernel
theorem dX10_falls_49 : decode cX10_falls 49 = .ok (.iconst 1, 1) := by decide +kernel
theorem dX10_falls_50 : decode cX10_falls 50 = .ok (.putfield 90, 3) := by decide +kernel
theorem dX10_falls_53 : decode cX10_falls 53 = .ok (.iconst 1, 1) := by decide +kernel
theorem dX10_falls_54 : decode cX10_falls 54 = .ok (.ireturn, 1) := by decide +kernel
theorem dX10_lay_0 : decode cX10_lay 0 = .ok (.aload_n 0, 1) := by decide +kernel
theorem dX10_lay_1 : decode cX10_lay 1 = .ok (.getfield 200, 3) := by decide +kernel
theorem dX10_lay_4 : decode cX10_lay 4 = .ok (.iload_n 2, 1) := by decide +kernel
theorem dX10_lay_5 : decode cX10_lay 5 = .ok (.aload_n 0, 1) := by decide +kernel
theorem dX10_lay_6 : decode cX10_lay 6 = .ok (.getfield 119, 3) := by decide +kernel
theorem dX10_lay_9 : decode cX10_lay 9 = .ok (.iload_n 1, 1) := by decide +kernel
theorem dX10_lay_10 : decode cX10_lay 10 = .ok (.baload, 1) := by decide +kernel
theorem dX10_lay_11 : decode cX10_lay 11 = .ok (.bastore, 1) := by decide +kernel
theorem dX10_lay_12 : decode cX10_lay 12 = .ok (.aload_n 0, 1) := by decide +kernel
theorem dX10_lay_13 : decode cX10_lay 13 = .ok (.getfield 219, 3) := by decide +kernel
theorem dX10_lay_16 : decode cX10_lay 16 = .ok (.iload_n 2, 1) := by decide +kernel
theorem dX10_lay_17 : decode cX10_lay 17 = .ok (.iconst 0, 1) := by decide +kernel
theorem dX10_lay_18 : decode cX10_lay 18 = .ok (.iastore, 1) := by decide +kernel
theorem dX10_lay_19 : decode cX10_lay 19 = .ok (.iconst 0, 1) := by decide +kernel
theorem dX10_lay_20 : decode cX10_lay 20 = .ok (.istore_n 3, 1) := by decide +kernel
theorem dX10_lay_21 : decode cX10_lay 21 = .ok (.aload_n 0, 1) := by decide +kernel
theorem dX10_lay_22 : decode cX10_lay 22 = .ok (.getfield 119, 3) := by decide +kernel
theorem dX10_lay_25 : decode cX10_lay 25 = .ok (.iload_n 1, 1) := by decide +kernel
theorem dX10_lay_26 : decode cX10_lay 26 = .ok (.baload, 1) := by decide +kernel
theorem dX10_lay_27 : decode cX10_lay 27 = .ok (.ifCond .eq 122, 3) := by decide +kernel
theorem dX10_lay_30 : decode cX10_lay 30 = .ok (.aload_n 0, 1) := by decide +kernel
theorem dX10_lay_31 : decode cX10_lay 31 = .ok (.getfield 123, 3) := by decide +kernel
theorem dX10_lay_34 : decode cX10_lay 34 = .ok (.iload_n 1, 1) := by decide +kernel
theorem dX10_lay_35 : decode cX10_lay 35 = .ok (.iaload, 1) := by decide +kernel
theorem dX10_lay_36 : decode cX10_lay 36 = .ok (.istore 4, 2) := by decide +kernel
theorem dX10_lay_38 : decode cX10_lay 38 = .ok (.iload 4, 2) := by decide +kernel
theorem dX10_lay_40 : decode cX10_lay 40 = .ok (.iconst (-1), 1) := by decide +kernel
theorem dX10_lay_41 : decode cX10_lay 41 = .ok (.if_icmp .eq 100, 3) := by decide +kernel
theorem dX10_lay_44 : decode cX10_lay 44 = .ok (.aload_n 0, 1) := by decide +kernel
theorem dX10_lay_45 : decode cX10_lay 45 = .ok (.getfield 206, 3) := by decide +kernel
theorem dX10_lay_48 : decode cX10_lay 48 = .ok (.bipush 6, 2) := by decide +kernel
theorem dX10_lay_50 : decode cX10_lay 50 = .ok (.iload_n 2, 1) := by decide +kernel
theorem dX10_lay_51 : decode cX10_lay 51 = .ok (.imul, 1) := by decide +kernel
theorem dX10_lay_52 : decode cX10_lay 52 = .ok (.iload_n 3, 1) := by decide +kernel
theorem dX10_lay_53 : decode cX10_lay 53 = .ok (.iadd, 1) := by decide +kernel
theorem dX10_lay_54 : decode cX10_lay 54 = .ok (.aload_n 0, 1) := by decide +kernel
theorem dX10_lay_55 : decode cX10_lay 55 = .ok (.getfield 154, 3) := by decide +kernel
theorem dX10_lay_58 : decode cX10_lay 58 = .ok (.iload 4, 2) := by decide +kernel
theorem dX10_lay_60 : decode cX10_lay 60 = .ok (.laload, 1) := by decide +kernel
theorem dX10_lay_61 : decode cX10_lay 61 = .ok (.lastore, 1) := by decide +kernel
theorem dX10_lay_62 : decode cX10_lay 62 = .ok (.aload_n 0, 1) := by decide +kernel
theorem dX10_lay_63 : decode cX10_lay 63 = .ok (.getfield 209, 3) := by decide +kernel
theorem dX10_lay_66 : decode cX10_lay 66 = .ok (.bipush 6, 2) := by decide +kernel
theorem dX10_lay_68 : decode cX10_lay 68 = .ok (.iload_n 2, 1) := by decide +kernel
theorem dX10_lay_69 : decode cX10_lay 69 = .ok (.imul, 1) := by decide +kernel
theorem dX10_lay_70 : decode cX10_lay 70 = .ok (.iload_n 3, 1) := by decide +kernel
theorem dX10_lay_71 : decode cX10_lay 71 = .ok (.iadd, 1) := by decide +kernel
theorem dX10_lay_72 : decode cX10_lay 72 = .ok (.aload_n 0, 1) := by decide +kernel
theorem dX10_lay_73 : decode cX10_lay 73 = .ok (.getfield 157, 3) := by decide +kernel
theorem dX10_lay_76 : decode cX10_lay 76 = .ok (.iload 4, 2) := by decide +kernel
theorem dX10_lay_78 : decode cX10_lay 78 = .ok (.iaload, 1) := by decide +kernel
theorem dX10_lay_79 : decode cX10_lay 79 = .ok (.iastore, 1) := by decide +kernel
theorem dX10_lay_80 : decode cX10_lay 80 = .ok (.iconst 0, 1) := by decide +kernel
theorem dX10_lay_81 : decode cX10_lay 81 = .ok (.istore 5, 2) := by decide +kernel
theorem dX10_lay_83 : decode cX10_lay 83 = .ok (.iload 5, 2) := by decide +kernel
theorem dX10_lay_85 : decode cX10_lay 85 = .ok (.bipush 20, 2) := by decide +kernel
theorem dX10_lay_87 : decode cX10_lay 87 = .ok (.if_icmp .ge 39, 3) := by decide +kernel
theorem dX10_lay_90 : decode cX10_lay 90 = .ok (.aload_n 0, 1) := by decide +kernel
theorem dX10_lay_91 : decode cX10_lay 91 = .ok (.getfield 213, 3) := by decide +kernel
theorem dX10_lay_94 : decode cX10_lay 94 = .ok (.bipush 20, 2) := by decide +kernel
theorem dX10_lay_96 : decode cX10_lay 96 = .ok (.bipush 6, 2) := by decide +kernel
theorem dX10_lay_98 : decode cX10_lay 98 = .ok (.iload_n 2, 1) := by decide +kernel
theorem dX10_lay_99 : decode cX10_lay 99 = .ok (.imul, 1) := by decide +kernel
theorem dX10_lay_100 : decode cX10_lay 100 = .ok (.iload_n 3, 1) := by decide +kernel
theorem dX10_lay_101 : decode cX10_lay 101 = .ok (.iadd, 1) := by decide +kernel
theorem dX10_lay_102 : decode cX10_lay 102 = .ok (.imul, 1) := by decide +kernel
theorem dX10_lay_103 : decode cX10_lay 103 = .ok (.iload 5, 2) := by decide +kernel
theorem dX10_lay_105 : decode cX10_lay 105 = .ok (.iadd, 1) := by decide +kernel
theorem dX10_lay_106 : decode cX10_lay 106 = .ok (.aload_n 0, 1) := by decide +kernel
theorem dX10_lay_107 : decode cX10_lay 107 = .ok (.getfield 161, 3) := by decide +kernel
theorem dX10_lay_110 : decode cX10_lay 110 = .ok (.bipush 20, 2) := by decide +kernel
theorem dX10_lay_112 : decode cX10_lay 112 = .ok (.iload 4, 2) := by decide +kernel
theorem dX10_lay_114 : decode cX10_lay 114 = .ok (.imul, 1) := by decide +kernel
theorem dX10_lay_115 : decode cX10_lay 115 = .ok (.iload 5, 2) := by decide +kernel
theorem dX10_lay_117 : decode cX10_lay 117 = .ok (.iadd, 1) := by decide +kernel
theorem dX10_lay_118 : decode cX10_lay 118 = .ok (.baload, 1) := by decide +kernel
theorem dX10_lay_119 : decode cX10_lay 119 = .ok (.bastore, 1) := by decide +kernel
theorem dX10_lay_120 : decode cX10_lay 120 = .ok (.iinc 5 1, 3) := by decide +kernel
theorem dX10_lay_123 : decode cX10_lay 123 = .ok (.goto (-40), 3) := by decide +kernel
theorem dX10_lay_126 : decode cX10_lay 126 = .ok (.iinc 3 1, 3) := by decide +kernel
theorem dX10_lay_129 : decode cX10_lay 129 = .ok (.aload_n 0, 1) := by decide +kernel
theorem dX10_lay_130 : decode cX10_lay 130 = .ok (.getfield 164, 3) := by decide +kernel
theorem dX10_lay_133 : decode cX10_lay 133 = .ok (.iload 4, 2) := by decide +kernel
theorem dX10_lay_135 : decode cX10_lay 135 = .ok (.iaload, 1) := by decide +kernel
theorem dX10_lay_136 : decode cX10_lay 136 = .ok (.istore 4, 2) := by decide +kernel
theorem dX10_lay_138 : decode cX10_lay 138 = .ok (.goto (-100), 3) := by decide +kernel
theorem dX10_lay_141 : decode cX10_lay 141 = .ok (.aload_n 0, 1) := by decide +kernel
theorem dX10_lay_142 : decode cX10_lay 142 = .ok (.getfield 203, 3) := by decide +kernel
theorem dX10_lay_145 : decode cX10_lay 145 = .ok (.iload_n 2, 1) := by decide +kernel
theorem dX10_lay_146 : decode cX10_lay 146 = .ok (.iload_n 3, 1) := by decide +kernel
theorem dX10_lay_147 : decode cX10_lay 147 = .ok (.iastore, 1) := by decide +kernel
theorem dX10_lay_148 : decode cX10_lay 148 = .ok (.return_, 1) := by decide +kernel
theorem dX10_lay_149 : decode cX10_lay 149 = .ok (.iconst 0, 1) := by decide +kernel
theorem dX10_lay_150 : decode cX10_lay 150 = .ok (.istore 4, 2) := by decide +kernel
theorem dX10_lay_152 : decode cX10_lay 152 = .ok (.iload 4, 2) := by decide +kernel
theorem dX10_lay_154 : decode cX10_lay 154 = .ok (.aload_n 0, 1) := by decide +kernel
theorem dX10_lay_155 : decode cX10_lay 155 = .ok (.getfield 129, 3) := by decide +kernel
theorem dX10_lay_158 : decode cX10_lay 158 = .ok (.iload_n 1, 1) := by decide +kernel
theorem dX10_lay_159 : decode cX10_lay 159 = .ok (.iaload, 1) := by decide +kernel
theorem dX10_lay_160 : decode cX10_lay 160 = .ok (.if_icmp .ge 64, 3) := by decide +kernel
theorem dX10_lay_163 : decode cX10_lay 163 = .ok (.aload_n 0, 1) := by decide +kernel
theorem dX10_lay_164 : decode cX10_lay 164 = .ok (.getfield 216, 3) := by decide +kernel
theorem dX10_lay_167 : decode cX10_lay 167 = .ok (.bipush 6, 2) := by decide +kernel
theorem dX10_lay_169 : decode cX10_lay 169 = .ok (.iload_n 2, 1) := by decide +kernel
theorem dX10_lay_170 : decode cX10_lay 170 = .ok (.imul, 1) := by decide +kernel
theorem dX10_lay_171 : decode cX10_lay 171 = .ok (.iload 4, 2) := by decide +kernel
theorem dX10_lay_173 : decode cX10_lay 173 = .ok (.iadd, 1) := by decide +kernel
theorem dX10_lay_174 : decode cX10_lay 174 = .ok (.aload_n 0, 1) := by decide +kernel
theorem dX10_lay_175 : decode cX10_lay 175 = .ok (.getfield 148, 3) := by decide +kernel
theorem dX10_lay_178 : decode cX10_lay 178 = .ok (.aload_n 0, 1) := by decide +kernel
theorem dX10_lay_179 : decode cX10_lay 179 = .ok (.getfield 133, 3) := by decide +kernel
theorem dX10_lay_182 : decode cX10_lay 182 = .ok (.sipush 128, 3) := by decide +kernel
theorem dX10_lay_185 : decode cX10_lay 185 = .ok (.iload_n 1, 1) := by decide +kernel
theorem dX10_lay_186 : decode cX10_lay 186 = .ok (.imul, 1) := by decide +kernel
theorem dX10_lay_187 : decode cX10_lay 187 = .ok (.iload 4, 2) := by decide +kernel
theorem dX10_lay_189 : decode cX10_lay 189 = .ok (.iadd, 1) := by decide +kernel
theorem dX10_lay_190 : decode cX10_lay 190 = .ok (.iaload, 1) := by decide +kernel
theorem dX10_lay_191 : decode cX10_lay 191 = .ok (.iaload, 1) := by decide +kernel
theorem dX10_lay_192 : decode cX10_lay 192 = .ok (.iastore, 1) := by decide +kernel
theorem dX10_lay_193 : decode cX10_lay 193 = .ok (.aload_n 0, 1) := by decide +kernel
theorem dX10_lay_194 : decode cX10_lay 194 = .ok (.getfield 206, 3) := by decide +kernel
theorem dX10_lay_197 : decode cX10_lay 197 = .ok (.bipush 6, 2) := by decide +kernel
theorem dX10_lay_199 : decode cX10_lay 199 = .ok (.iload_n 2, 1) := by decide +kernel
theorem dX10_lay_200 : decode cX10_lay 200 = .ok (.imul, 1) := by decide +kernel
theorem dX10_lay_201 : decode cX10_lay 201 = .ok (.iload 4, 2) := by decide +kernel
theorem dX10_lay_203 : decode cX10_lay 203 = .ok (.iadd, 1) := by decide +kernel
theorem dX10_lay_204 : decode cX10_lay 204 = .ok (.aload_n 0, 1) := by decide +kernel
theorem dX10_lay_205 : decode cX10_lay 205 = .ok (.getfield 136, 3) := by decide +kernel
theorem dX10_lay_208 : decode cX10_lay 208 = .ok (.sipush 128, 3) := by decide +kernel
theorem dX10_lay_211 : decode cX10_lay 211 = .ok (.iload_n 1, 1) := by decide +kernel
theorem dX10_lay_212 : decode cX10_lay 212 = .ok (.imul, 1) := by decide +kernel
theorem dX10_lay_213 : decode cX10_lay 213 = .ok (.iload 4, 2) := by decide +kernel
theorem dX10_lay_215 : decode cX10_lay 215 = .ok (.iadd, 1) := by decide +kernel
theorem dX10_lay_216 : decode cX10_lay 216 = .ok (.laload, 1) := by decide +kernel
theorem dX10_lay_217 : decode cX10_lay 217 = .ok (.lastore, 1) := by decide +kernel
theorem dX10_lay_218 : decode cX10_lay 218 = .ok (.iinc 4 1, 3) := by decide +kernel
theorem dX10_lay_221 : decode cX10_lay 221 = .ok (.goto (-69), 3) := by decide +kernel
theorem dX10_lay_224 : decode cX10_lay 224 = .ok (.aload_n 0, 1) := by decide +kernel
theorem dX10_lay_225 : decode cX10_lay 225 = .ok (.getfield 203, 3) := by decide +kernel
theorem dX10_lay_228 : decode cX10_lay 228 = .ok (.iload_n 2, 1) := by decide +kernel
theorem dX10_lay_229 : decode cX10_lay 229 = .ok (.aload_n 0, 1) := by decide +kernel
theorem dX10_lay_230 : decode cX10_lay 230 = .ok (.getfield 129, 3) := by decide +kernel
theorem dX10_lay_233 : decode cX10_lay 233 = .ok (.iload_n 1, 1) := by decide +kernel
theorem dX10_lay_234 : decode cX10_lay 234 = .ok (.iaload, 1) := by decide +kernel
theorem dX10_lay_235 : decode cX10_lay 235 = .ok (.iastore, 1) := by decide +kernel
theorem dX10_lay_236 : decode cX10_lay 236 = .ok (.aload_n 0, 1) := by decide +kernel
theorem dX10_lay_237 : decode cX10_lay 237 = .ok (.getfield 139, 3) := by decide +kernel
theorem dX10_lay_240 : decode cX10_lay 240 = .ok (.iload_n 1, 1) := by decide +kernel
theorem dX10_lay_241 : decode cX10_lay 241 = .ok (.iaload, 1) := by decide +kernel
theorem dX10_lay_242 : decode cX10_lay 242 = .ok (.istore 4, 2) := by decide +kernel
theorem dX10_lay_244 : decode cX10_lay 244 = .ok (.iload 4, 2) := by decide +kernel
theorem dX10_lay_246 : decode cX10_lay 246 = .ok (.iconst (-1), 1) := by decide +kernel
theorem dX10_lay_247 : decode cX10_lay 247 = .ok (.if_icmp .eq 72, 3) := by decide +kernel
theorem dX10_lay_250 : decode cX10_lay 250 = .ok (.aload_n 0, 1) := by decide +kernel
theorem dX10_lay_251 : decode cX10_lay 251 = .ok (.getfield 222, 3) := by decide +kernel
theorem dX10_lay_254 : decode cX10_lay 254 = .ok (.bipush 8, 2) := by decide +kernel
theorem dX10_lay_256 : decode cX10_lay 256 = .ok (.iload_n 2, 1) := by decide +kernel
theorem dX10_lay_257 : decode cX10_lay 257 = .ok (.imul, 1) := by decide +kernel
theorem dX10_lay_258 : decode cX10_lay 258 = .ok (.iload_n 3, 1) := by decide +kernel
theorem dX10_lay_259 : decode cX10_lay 259 = .ok (.iadd, 1) := by decide +kernel
theorem dX10_lay_260 : decode cX10_lay 260 = .ok (.aload_n 0, 1) := by decide +kernel
theorem dX10_lay_261 : decode cX10_lay 261 = .ok (.getfield 167, 3) := by decide +kernel
theorem dX10_lay_264 : decode cX10_lay 264 = .ok (.iload 4, 2) := by decide +kernel
theorem dX10_lay_266 : decode cX10_lay 266 = .ok (.iaload, 1) := by decide +kernel
theorem dX10_lay_267 : decode cX10_lay 267 = .ok (.iastore, 1) := by decide +kernel
theorem dX10_lay_268 : decode cX10_lay 268 = .ok (.aload_n 0, 1) := by decide +kernel
theorem dX10_lay_269 : decode cX10_lay 269 = .ok (.getfield 225, 3) := by decide +kernel
theorem dX10_lay_272 : decode cX10_lay 272 = .ok (.bipush 8, 2) := by decide +kernel
theorem dX10_lay_274 : decode cX10_lay 274 = .ok (.iload_n 2, 1) := by decide +kernel
theorem dX10_lay_275 : decode cX10_lay 275 = .ok (.imul, 1) := by decide +kernel
theorem dX10_lay_276 : decode cX10_lay 276 = .ok (.iload_n 3, 1) := by decide +kernel
theorem dX10_lay_277 : decode cX10_lay 277 = .ok (.iadd, 1) := by decide +kernel
theorem dX10_lay_278 : decode cX10_lay 278 = .ok (.aload_n 0, 1) := by decide +kernel
theorem dX10_lay_279 : decode cX10_lay 279 = .ok (.getfield 170, 3) := by decide +kernel
theorem dX10_lay_282 : decode cX10_lay 282 = .ok (.iload 4, 2) := by decide +kernel
theorem dX10_lay_284 : decode cX10_lay 284 = .ok (.laload, 1) := by decide +kernel
theorem dX10_lay_285 : decode cX10_lay 285 = .ok (.lastore, 1) := by decide +kernel
theorem dX10_lay_286 : decode cX10_lay 286 = .ok (.aload_n 0, 1) := by decide +kernel
theorem dX10_lay_287 : decode cX10_lay 287 = .ok (.getfield 228, 3) := by decide +kernel
theorem dX10_lay_290 : decode cX10_lay 290 = .ok (.bipush 8, 2) := by decide +kernel
theorem dX10_lay_292 : decode cX10_lay 292 = .ok (.iload_n 2, 1) := by decide +kernel
theorem dX10_lay_293 : decode cX10_lay 293 = .ok (.imul, 1) := by decide +kernel
theorem dX10_lay_294 : decode cX10_lay 294 = .ok (.iload_n 3, 1) := by decide +kernel
theorem dX10_lay_295 : decode cX10_lay 295 = .ok (.iadd, 1) := by decide +kernel
theorem dX10_lay_296 : decode cX10_lay 296 = .ok (.aload_n 0, 1) := by decide +kernel
theorem dX10_lay_297 : decode cX10_lay 297 = .ok (.getfield 173, 3) := by decide +kernel
theorem dX10_lay_300 : decode cX10_lay 300 = .ok (.iload 4, 2) := by decide +kernel
theorem dX10_lay_302 : decode cX10_lay 302 = .ok (.laload, 1) := by decide +kernel
theorem dX10_lay_303 : decode cX10_lay 303 = .ok (.lastore, 1) := by decide +kernel
theorem dX10_lay_304 : decode cX10_lay 304 = .ok (.iinc 3 1, 3) := by decide +kernel
theorem dX10_lay_307 : decode cX10_lay 307 = .ok (.aload_n 0, 1) := by decide +kernel
theorem dX10_lay_308 : decode cX10_lay 308 = .ok (.getfield 176, 3) := by decide +kernel
theorem dX10_lay_311 : decode cX10_lay 311 = .ok (.iload 4, 2) := by decide +kernel
theorem dX10_lay_313 : decode cX10_lay 313 = .ok (.iaload, 1) := by decide +kernel
theorem dX10_lay_314 : decode cX10_lay 314 = .ok (.istore 4, 2) := by decide +kernel
theorem dX10_lay_316 : decode cX10_lay 316 = .ok (.goto (-72), 3) := by decide +kernel
theorem dX10_lay_319 : decode cX10_lay 319 = .ok (.aload_n 0, 1) := by decide +kernel
theorem dX10_lay_320 : decode cX10_lay 320 = .ok (.getfield 219, 3) := by decide +kernel
theorem dX10_lay_323 : decode cX10_lay 323 = .ok (.iload_n 2, 1) := by decide +kernel
theorem dX10_lay_324 : decode cX10_lay 324 = .ok (.iload_n 3, 1) := by decide +kernel
theorem dX10_lay_325 : decode cX10_lay 325 = .ok (.iastore, 1) := by decide +kernel
theorem dX10_lay_326 : decode cX10_lay 326 = .ok (.return_, 1) := by decide +kernel
theorem dX10_laysAll_0 : decode cX10_laysAll 0 = .ok (.aload_n 0, 1) := by decide +kernel
theorem dX10_laysAll_1 : decode cX10_laysAll 1 = .ok (.getfield 148, 3) := by decide +kernel
theorem dX10_laysAll_4 : decode cX10_laysAll 4 = .ok (.iload_n 1, 1) := by decide +kernel
theorem dX10_laysAll_5 : decode cX10_laysAll 5 = .ok (.iaload, 1) := by decide +kernel
theorem dX10_laysAll_6 : decode cX10_laysAll 6 = .ok (.iconst (-1), 1) := by decide +kernel
theorem dX10_laysAll_7 : decode cX10_laysAll 7 = .ok (.if_icmp .eq 5, 3) := by decide +kernel
theorem dX10_laysAll_10 : decode cX10_laysAll 10 = .ok (.iconst 1, 1) := by decide +kernel
theorem dX10_laysAll_11 : decode cX10_laysAll 11 = .ok (.ireturn, 1) := by decide +kernel
theorem dX10_laysAll_12 : decode cX10_laysAll 12 = .ok (.iconst 0, 1) := by decide +kernel
theorem dX10_laysAll_13 : decode cX10_laysAll 13 = .ok (.istore_n 2, 1) := by decide +kernel
theorem dX10_laysAll_14 : decode cX10_laysAll 14 = .ok (.iload_n 2, 1) := by decide +kernel
theorem dX10_laysAll_15 : decode cX10_laysAll 15 = .ok (.aload_n 0, 1) := by decide +kernel
theorem dX10_laysAll_16 : decode cX10_laysAll 16 = .ok (.getfield 129, 3) := by decide +kernel
theorem dX10_laysAll_19 : decode cX10_laysAll 19 = .ok (.iload_n 1, 1) := by decide +kernel
theorem dX10_laysAll_20 : decode cX10_laysAll 20 = .ok (.iaload, 1) := by decide +kernel
theorem dX10_laysAll_21 : decode cX10_laysAll 21 = .ok (.if_icmp .ge 39, 3) := by decide +kernel
theorem dX10_laysAll_24 : decode cX10_laysAll 24 = .ok (.aload_n 0, 1) := by decide +kernel
theorem dX10_laysAll_25 : decode cX10_laysAll 25 = .ok (.getfield 119, 3) := by decide +kernel
theorem dX10_laysAll_28 : decode cX10_laysAll 28 = .ok (.iload_n 1, 1) := by decide +kernel
theorem dX10_laysAll_29 : decode cX10_laysAll 29 = .ok (.baload, 1) := by decide +kernel
theorem dX10_laysAll_30 : decode cX10_laysAll 30 = .ok (.ifCond .ne 30, 3) := by decide +kernel
theorem dX10_laysAll_33 : decode cX10_laysAll 33 = .ok (.aload_n 0, 1) := by decide +kernel
theorem dX10_laysAll_34 : decode cX10_laysAll 34 = .ok (.aload_n 0, 1) := by decide +kernel
theorem dX10_laysAll_35 : decode cX10_laysAll 35 = .ok (.getfield 133, 3) := by decide +kernel
theorem dX10_laysAll_38 : decode cX10_laysAll 38 = .ok (.sipush 128, 3) := by decide +kernel
theorem dX10_laysAll_41 : decode cX10_laysAll 41 = .ok (.iload_n 1, 1) := by decide +kernel
theorem dX10_laysAll_42 : decode cX10_laysAll 42 = .ok (.imul, 1) := by decide +kernel
theorem dX10_laysAll_43 : decode cX10_laysAll 43 = .ok (.iload_n 2, 1) := by decide +kernel
theorem dX10_laysAll_44 : decode cX10_laysAll 44 = .ok (.iadd, 1) := by decide +kernel
theorem dX10_laysAll_45 : decode cX10_laysAll 45 = .ok (.iaload, 1) := by decide +kernel
theorem dX10_laysAll_46 : decode cX10_laysAll 46 = .ok (.invokevirtual 372, 3) := by decide +kernel
theorem dX10_laysAll_49 : decode cX10_laysAll 49 = .ok (.ifCond .ne 5, 3) := by decide +kernel
theorem dX10_laysAll_52 : decode cX10_laysAll 52 = .ok (.iconst 0, 1) := by decide +kernel
theorem dX10_laysAll_53 : decode cX10_laysAll 53 = .ok (.ireturn, 1) := by decide +kernel
theorem dX10_laysAll_54 : decode cX10_laysAll 54 = .ok (.iinc 2 1, 3) := by decide +kernel
theorem dX10_laysAll_57 : decode cX10_laysAll 57 = .ok (.goto (-43), 3) := by decide +kernel
theorem dX10_laysAll_60 : decode cX10_laysAll 60 = .ok (.aload_n 0, 1) := by decide +kernel
theorem dX10_laysAll_61 : decode cX10_laysAll 61 = .ok (.aload_n 0, 1) := by decide +kernel
theorem dX10_laysAll_62 : decode cX10_laysAll 62 = .ok (.getfield 119, 3) := by decide +kernel
theorem dX10_laysAll_65 : decode cX10_laysAll 65 = .ok (.iload_n 1, 1) := by decide +kernel
theorem dX10_laysAll_66 : decode cX10_laysAll 66 = .ok (.baload, 1) := by decide +kernel
theorem dX10_laysAll_67 : decode cX10_laysAll 67 = .ok (.ifCond .eq 7, 3) := by decide +kernel
theorem dX10_laysAll_70 : decode cX10_laysAll 70 = .ok (.iconst 0, 1) := by decide +kernel
theorem dX10_laysAll_71 : decode cX10_laysAll 71 = .ok (.goto 4, 3) := by decide +kernel
theorem dX10_laysAll_74 : decode cX10_laysAll 74 = .ok (.iconst 1, 1) := by decide +kernel
theorem dX10_laysAll_75 : decode cX10_laysAll 75 = .ok (.invokevirtual 375, 3) := by decide +kernel
theorem dX10_laysAll_78 : decode cX10_laysAll 78 = .ok (.ifCond .eq 5, 3) := by decide +kernel
theorem dX10_laysAll_81 : decode cX10_laysAll 81 = .ok (.iconst 0, 1) := by decide +kernel
theorem dX10_laysAll_82 : decode cX10_laysAll 82 = .ok (.ireturn, 1) := by decide +kernel
theorem dX10_laysAll_83 : decode cX10_laysAll 83 = .ok (.aload_n 0, 1) := by decide +kernel
theorem dX10_laysAll_84 : decode cX10_laysAll 84 = .ok (.invokevirtual 378, 3) := by decide +kernel
theorem dX10_laysAll_87 : decode cX10_laysAll 87 = .ok (.istore_n 2, 1) := by decide +kernel
theorem dX10_laysAll_88 : decode cX10_laysAll 88 = .ok (.aload_n 0, 1) := by decide +kernel
theorem dX10_laysAll_89 : decode cX10_laysAll 89 = .ok (.iload_n 1, 1) := by decide +kernel
theorem dX10_laysAll_90 : decode cX10_laysAll 90 = .ok (.iload_n 2, 1) := by decide +kernel
theorem dX10_laysAll_91 : decode cX10_laysAll 91 = .ok (.invokevirtual 382, 3) := by decide +kernel
theorem dX10_laysAll_94 : decode cX10_laysAll 94 = .ok (.aload_n 0, 1) := by decide +kernel
theorem dX10_laysAll_95 : decode cX10_laysAll 95 = .ok (.getfield 264, 3) := by decide +kernel
theorem dX10_laysAll_98 : decode cX10_laysAll 98 = .ok (.iload_n 2, 1) := by decide +kernel
theorem dX10_laysAll_99 : decode cX10_laysAll 99 = .ok (.iconst 1, 1) := by decide +kernel
theorem dX10_laysAll_100 : decode cX10_laysAll 100 = .ok (.bastore, 1) := by decide +kernel
theorem dX10_laysAll_101 : decode cX10_laysAll 101 = .ok (.aload_n 0, 1) := by decide +kernel
theorem dX10_laysAll_102 : decode cX10_laysAll 102 = .ok (.getfield 148, 3) := by decide +kernel
theorem dX10_laysAll_105 : decode cX10_laysAll 105 = .ok (.iload_n 1, 1) := by decide +kernel
theorem dX10_laysAll_106 : decode cX10_laysAll 106 = .ok (.iload_n 2, 1) := by decide +kernel
theorem dX10_laysAll_107 : decode cX10_laysAll 107 = .ok (.iastore, 1) := by decide +kernel
theorem dX10_laysAll_108 : decode cX10_laysAll 108 = .ok (.iconst 1, 1) := by decide +kernel
theorem dX10_laysAll_109 : decode cX10_laysAll 109 = .ok (.ireturn, 1) := by decide +kernel
theorem dX10_changedPages_0 : decode cX10_changedPages 0 = .ok (.iconst 0, 1) := by decide +kernel
theorem dX10_changedPages_1 : decode cX10_changedPages 1 = .ok (.istore_n 1, 1) := by decide +kernel
theorem dX10_changedPages_2 : decode cX10_changedPages 2 = .ok (.iconst 0, 1) := by decide +kernel
theorem dX10_changedPages_3 : decode cX10_changedPages 3 = .ok (.istore_n 2, 1) := by decide +kernel
theorem dX10_changedPages_4 : decode cX10_changedPages 4 = .ok (.iload_n 2, 1) := by decide +kernel
theorem dX10_changedPages_5 : decode cX10_changedPages 5 = .ok (.aload_n 0, 1) := by decide +kernel
theorem dX10_changedPages_6 : decode cX10_changedPages 6 = .ok (.getfield 349, 3) := by decide +kernel
theorem dX10_changedPages_9 : decode cX10_changedPages 9 = .ok (.if_icmp .ge 32, 3) := by decide +kernel
theorem dX10_changedPages_12 : decode cX10_changedPages 12 = .ok (.iload_n 1, 1) := by decide +kernel
theorem dX10_changedPages_13 : decode cX10_changedPages 13 = .ok (.aload_n 0, 1) := by decide +kernel
theorem dX10_changedPages_14 : decode cX10_changedPages 14 = .ok (.getfield 148, 3) := by decide +kernel
theorem dX10_changedPages_17 : decode cX10_changedPages 17 = .ok (.aload_n 0, 1) := by decide +kernel
theorem dX10_changedPages_18 : decode cX10_changedPages 18 = .ok (.getfield 191, 3) := by decide +kernel
theorem dX10_changedPages_21 : decode cX10_changedPages 21 = .ok (.iload_n 2, 1) := by decide +kernel
theorem dX10_changedPages_22 : decode cX10_changedPages 22 = .ok (.iaload, 1) := by decide +kernel
theorem dX10_changedPages_23 : decode cX10_changedPages 23 = .ok (.iaload, 1) := by decide +kernel
theorem dX10_changedPages_24 : decode cX10_changedPages 24 = .ok (.iconst (-1), 1) := by decide +kernel
theorem dX10_changedPages_25 : decode cX10_changedPages 25 = .ok (.if_icmp .ne 7, 3) := by decide +kernel
theorem dX10_changedPages_28 : decode cX10_changedPages 28 = .ok (.iconst 1, 1) := by decide +kernel
theorem dX10_changedPages_29 : decode cX10_changedPages 29 = .ok (.goto 4, 3) := by decide +kernel
theorem dX10_changedPages_32 : decode cX10_changedPages 32 = .ok (.iconst 0, 1) := by decide +kernel
theorem dX10_changedPages_33 : decode cX10_changedPages 33 = .ok (.iadd, 1) := by decide +kernel
theorem dX10_changedPages_34 : decode cX10_changedPages 34 = .ok (.istore_n 1, 1) := by decide +kernel
theorem dX10_changedPages_35 : decode cX10_changedPages 35 = .ok (.iinc 2 1, 3) := by decide +kernel
theorem dX10_changedPages_38 : decode cX10_changedPages 38 = .ok (.goto (-34), 3) := by decide +kernel
theorem dX10_changedPages_41 : decode cX10_changedPages 41 = .ok (.iload_n 1, 1) := by decide +kernel
theorem dX10_changedPages_42 : decode cX10_changedPages 42 = .ok (.ireturn, 1) := by decide +kernel
theorem dX10_writeAll_0 : decode cX10_writeAll 0 = .ok (.aload_n 0, 1) := by decide +kernel
theorem dX10_writeAll_1 : decode cX10_writeAll 1 = .ok (.invokevirtual 385, 3) := by decide +kernel
theorem dX10_writeAll_4 : decode cX10_writeAll 4 = .ok (.istore_n 1, 1) := by decide +kernel
theorem dX10_writeAll_5 : decode cX10_writeAll 5 = .ok (.aload_n 0, 1) := by decide +kernel
theorem dX10_writeAll_6 : decode cX10_writeAll 6 = .ok (.aload_n 0, 1) := by decide +kernel
theorem dX10_writeAll_7 : decode cX10_writeAll 7 = .ok (.getfield 277, 3) := by decide +kernel
theorem dX10_writeAll_10 : decode cX10_writeAll 10 = .ok (.invokevirtual 372, 3) := by decide +kernel
theorem dX10_writeAll_13 : decode cX10_writeAll 13 = .ok (.ifCond .ne 6, 3) := by decide +kernel
theorem dX10_writeAll_16 : decode cX10_writeAll 16 = .ok (.bipush (-5), 2) := by decide +kernel
theorem dX10_writeAll_18 : decode cX10_writeAll 18 = .ok (.ireturn, 1) := by decide +kernel
theorem dX10_writeAll_19 : decode cX10_writeAll 19 = .ok (.aload_n 0, 1) := by decide +kernel
theorem dX10_writeAll_20 : decode cX10_writeAll 20 = .ok (.getfield 363, 3) := by decide +kernel
theorem dX10_writeAll_23 : decode cX10_writeAll 23 = .ok (.ifCond .le 38, 3) := by decide +kernel
theorem dX10_writeAll_26 : decode cX10_writeAll 26 = .ok (.aload_n 0, 1) := by decide +kernel
theorem dX10_writeAll_27 : decode cX10_writeAll 27 = .ok (.getfield 255, 3) := by decide +kernel
theorem dX10_writeAll_30 : decode cX10_writeAll 30 = .ok (.aload_n 0, 1) := by decide +kernel
theorem dX10_writeAll_31 : decode cX10_writeAll 31 = .ok (.getfield 363, 3) := by decide +kernel
theorem dX10_writeAll_34 : decode cX10_writeAll 34 = .ok (.iconst 1, 1) := by decide +kernel
theorem dX10_writeAll_35 : decode cX10_writeAll 35 = .ok (.isub, 1) := by decide +kernel
theorem dX10_writeAll_36 : decode cX10_writeAll 36 = .ok (.iaload, 1) := by decide +kernel
theorem dX10_writeAll_37 : decode cX10_writeAll 37 = .ok (.iconst (-1), 1) := by decide +kernel
theorem dX10_writeAll_38 : decode cX10_writeAll 38 = .ok (.if_icmp .ne 23, 3) := by decide +kernel
theorem dX10_writeAll_41 : decode cX10_writeAll 41 = .ok (.aload_n 0, 1) := by decide +kernel
theorem dX10_writeAll_42 : decode cX10_writeAll 42 = .ok (.getfield 255, 3) := by decide +kernel
theorem dX10_writeAll_45 : decode cX10_writeAll 45 = .ok (.aload_n 0, 1) := by decide +kernel
theorem dX10_writeAll_46 : decode cX10_writeAll 46 = .ok (.getfield 363, 3) := by decide +kernel
theorem dX10_writeAll_49 : decode cX10_writeAll 49 = .ok (.iconst 1, 1) := by decide +kernel
theorem dX10_writeAll_50 : decode cX10_writeAll 50 = .ok (.isub, 1) := by decide +kernel
theorem dX10_writeAll_51 : decode cX10_writeAll 51 = .ok (.aload_n 0, 1) := by decide +kernel
theorem dX10_writeAll_52 : decode cX10_writeAll 52 = .ok (.getfield 148, 3) := by decide +kernel
theorem dX10_writeAll_55 : decode cX10_writeAll 55 = .ok (.aload_n 0, 1) := by decide +kernel
theorem dX10_writeAll_56 : decode cX10_writeAll 56 = .ok (.getfield 277, 3) := by decide +kernel
theorem dX10_writeAll_59 : decode cX10_writeAll 59 = .ok (.iaload, 1) := by decide +kernel
theorem dX10_writeAll_60 : decode cX10_writeAll 60 = .ok (.iastore, 1) := by decide +kernel
theorem dX10_writeAll_61 : decode cX10_writeAll 61 = .ok (.aload_n 0, 1) := by decide +kernel
theorem dX10_writeAll_62 : decode cX10_writeAll 62 = .ok (.dup, 1) := by decide +kernel
theorem dX10_writeAll_63 : decode cX10_writeAll 63 = .ok (.getfield 388, 3) := by decide +kernel
theorem dX10_writeAll_66 : decode cX10_writeAll 66 = .ok (.iconst 1, 1) := by decide +kernel
theorem dX10_writeAll_67 : decode cX10_writeAll 67 = .ok (.iadd, 1) := by decide +kernel
theorem dX10_writeAll_68 : decode cX10_writeAll 68 = .ok (.putfield 388, 3) := by decide +kernel
theorem dX10_writeAll_71 : decode cX10_writeAll 71 = .ok (.aload_n 0, 1) := by decide +kernel
theorem dX10_writeAll_72 : decode cX10_writeAll 72 = .ok (.getfield 388, 3) := by decide +kernel
theorem dX10_writeAll_75 : decode cX10_writeAll 75 = .ok (.iconst 2, 1) := by decide +kernel
theorem dX10_writeAll_76 : decode cX10_writeAll 76 = .ok (.irem, 1) := by decide +kernel
theorem dX10_writeAll_77 : decode cX10_writeAll 77 = .ok (.istore_n 2, 1) := by decide +kernel
theorem dX10_writeAll_78 : decode cX10_writeAll 78 = .ok (.aload_n 0, 1) := by decide +kernel
theorem dX10_writeAll_79 : decode cX10_writeAll 79 = .ok (.iconst 2, 1) := by decide +kernel
theorem dX10_writeAll_80 : decode cX10_writeAll 80 = .ok (.invokevirtual 375, 3) := by decide +kernel
theorem dX10_writeAll_83 : decode cX10_writeAll 83 = .ok (.ifCond .eq 13, 3) := by decide +kernel
theorem dX10_writeAll_86 : decode cX10_writeAll 86 = .ok (.aload_n 0, 1) := by decide +kernel
theorem dX10_writeAll_87 : decode cX10_writeAll 87 = .ok (.getfield 231, 3) := by decide +kernel
theorem dX10_writeAll_90 : decode cX10_writeAll 90 = .ok (.iload_n 2, 1) := by decide +kernel
theorem dX10_writeAll_91 : decode cX10_writeAll 91 = .ok (.iconst 0, 1) := by decide +kernel
theorem dX10_writeAll_92 : decode cX10_writeAll 92 = .ok (.iastore, 1) := by decide +kernel
theorem dX10_writeAll_93 : decode cX10_writeAll 93 = .ok (.bipush (-5), 2) := by decide +kernel
theorem dX10_writeAll_95 : decode cX10_writeAll 95 = .ok (.ireturn, 1) := by decide +kernel
theorem dX10_writeAll_96 : decode cX10_writeAll 96 = .ok (.aload_n 0, 1) := by decide +kernel
theorem dX10_writeAll_97 : decode cX10_writeAll 97 = .ok (.getfield 231, 3) := by decide +kernel
theorem dX10_writeAll_100 : decode cX10_writeAll 100 = .ok (.iload_n 2, 1) := by decide +kernel
theorem dX10_writeAll_101 : decode cX10_writeAll 101 = .ok (.aload_n 0, 1) := by decide +kernel
theorem dX10_writeAll_102 : decode cX10_writeAll 102 = .ok (.getfield 388, 3) := by decide +kernel
theorem dX10_writeAll_105 : decode cX10_writeAll 105 = .ok (.iastore, 1) := by decide +kernel
theorem dX10_writeAll_106 : decode cX10_writeAll 106 = .ok (.aload_n 0, 1) := by decide +kernel
theorem dX10_writeAll_107 : decode cX10_writeAll 107 = .ok (.getfield 234, 3) := by decide +kernel
theorem dX10_writeAll_110 : decode cX10_writeAll 110 = .ok (.iload_n 2, 1) := by decide +kernel
theorem dX10_writeAll_111 : decode cX10_writeAll 111 = .ok (.aload_n 0, 1) := by decide +kernel
theorem dX10_writeAll_112 : decode cX10_writeAll 112 = .ok (.getfield 148, 3) := by decide +kernel
theorem dX10_writeAll_115 : decode cX10_writeAll 115 = .ok (.aload_n 0, 1) := by decide +kernel
theorem dX10_writeAll_116 : decode cX10_writeAll 116 = .ok (.getfield 277, 3) := by decide +kernel
theorem dX10_writeAll_119 : decode cX10_writeAll 119 = .ok (.iaload, 1) := by decide +kernel
theorem dX10_writeAll_120 : decode cX10_writeAll 120 = .ok (.iastore, 1) := by decide +kernel
theorem dX10_writeAll_121 : decode cX10_writeAll 121 = .ok (.aload_n 0, 1) := by decide +kernel
theorem dX10_writeAll_122 : decode cX10_writeAll 122 = .ok (.getfield 237, 3) := by decide +kernel
theorem dX10_writeAll_125 : decode cX10_writeAll 125 = .ok (.iload_n 2, 1) := by decide +kernel
theorem dX10_writeAll_126 : decode cX10_writeAll 126 = .ok (.aload_n 0, 1) := by decide +kernel
theorem dX10_writeAll_127 : decode cX10_writeAll 127 = .ok (.getfield 63, 3) := by decide +kernel
theorem dX10_writeAll_130 : decode cX10_writeAll 130 = .ok (.iastore, 1) := by decide +kernel
theorem dX10_writeAll_131 : decode cX10_writeAll 131 = .ok (.aload_n 0, 1) := by decide +kernel
theorem dX10_writeAll_132 : decode cX10_writeAll 132 = .ok (.getfield 243, 3) := by decide +kernel
theorem dX10_writeAll_135 : decode cX10_writeAll 135 = .ok (.iload_n 2, 1) := by decide +kernel
theorem dX10_writeAll_136 : decode cX10_writeAll 136 = .ok (.aload_n 0, 1) := by decide +kernel
theorem dX10_writeAll_137 : decode cX10_writeAll 137 = .ok (.getfield 258, 3) := by decide +kernel
theorem dX10_writeAll_140 : decode cX10_writeAll 140 = .ok (.iconst 1, 1) := by decide +kernel
theorem dX10_writeAll_141 : decode cX10_writeAll 141 = .ok (.isub, 1) := by decide +kernel
theorem dX10_writeAll_142 : decode cX10_writeAll 142 = .ok (.iastore, 1) := by decide +kernel
theorem dX10_writeAll_143 : decode cX10_writeAll 143 = .ok (.aload_n 0, 1) := by decide +kernel
theorem dX10_writeAll_144 : decode cX10_writeAll 144 = .ok (.getfield 240, 3) := by decide +kernel
theorem dX10_writeAll_147 : decode cX10_writeAll 147 = .ok (.iload_n 2, 1) := by decide +kernel
theorem dX10_writeAll_148 : decode cX10_writeAll 148 = .ok (.aload_n 0, 1) := by decide +kernel
theorem dX10_writeAll_149 : decode cX10_writeAll 149 = .ok (.getfield 363, 3) := by decide +kernel
theorem dX10_writeAll_152 : decode cX10_writeAll 152 = .ok (.iastore, 1) := by decide +kernel
theorem dX10_writeAll_153 : decode cX10_writeAll 153 = .ok (.iconst 0, 1) := by decide +kernel
theorem dX10_writeAll_154 : decode cX10_writeAll 154 = .ok (.istore_n 3, 1) := by decide +kernel
theorem dX10_writeAll_155 : decode cX10_writeAll 155 = .ok (.iload_n 3, 1) := by decide +kernel
theorem dX10_writeAll_156 : decode cX10_writeAll 156 = .ok (.aload_n 0, 1) := by decide +kernel
theorem dX10_writeAll_157 : decode cX10_writeAll 157 = .ok (.getfield 363, 3) := by decide +kernel
theorem dX10_writeAll_160 : decode cX10_writeAll 160 = .ok (.if_icmp .ge 43, 3) := by decide +kernel
theorem dX10_writeAll_163 : decode cX10_writeAll 163 = .ok (.aload_n 0, 1) := by decide +kernel
theorem dX10_writeAll_164 : decode cX10_writeAll 164 = .ok (.getfield 246, 3) := by decide +kernel
theorem dX10_writeAll_167 : decode cX10_writeAll 167 = .ok (.bipush 12, 2) := by decide +kernel
theorem dX10_writeAll_169 : decode cX10_writeAll 169 = .ok (.iload_n 2, 1) := by decide +kernel
theorem dX10_writeAll_170 : decode cX10_writeAll 170 = .ok (.imul, 1) := by decide +kernel
theorem dX10_writeAll_171 : decode cX10_writeAll 171 = .ok (.iload_n 3, 1) := by decide +kernel
theorem dX10_writeAll_172 : decode cX10_writeAll 172 = .ok (.iadd, 1) := by decide +kernel
theorem dX10_writeAll_173 : decode cX10_writeAll 173 = .ok (.aload_n 0, 1) := by decide +kernel
theorem dX10_writeAll_174 : decode cX10_writeAll 174 = .ok (.getfield 252, 3) := by decide +kernel
theorem dX10_writeAll_177 : decode cX10_writeAll 177 = .ok (.iload_n 3, 1) := by decide +kernel
theorem dX10_writeAll_178 : decode cX10_writeAll 178 = .ok (.iaload, 1) := by decide +kernel
theorem dX10_writeAll_179 : decode cX10_writeAll 179 = .ok (.iastore, 1) := by decide +kernel
theorem dX10_writeAll_180 : decode cX10_writeAll 180 = .ok (.aload_n 0, 1) := by decide +kernel
theorem dX10_writeAll_181 : decode cX10_writeAll 181 = .ok (.getfield 249, 3) := by decide +kernel
theorem dX10_writeAll_184 : decode cX10_writeAll 184 = .ok (.bipush 12, 2) := by decide +kernel
theorem dX10_writeAll_186 : decode cX10_writeAll 186 = .ok (.iload_n 2, 1) := by decide +kernel
theorem dX10_writeAll_187 : decode cX10_writeAll 187 = .ok (.imul, 1) := by decide +kernel
theorem dX10_writeAll_188 : decode cX10_writeAll 188 = .ok (.iload_n 3, 1) := by decide +kernel
theorem dX10_writeAll_189 : decode cX10_writeAll 189 = .ok (.iadd, 1) := by decide +kernel
theorem dX10_writeAll_190 : decode cX10_writeAll 190 = .ok (.aload_n 0, 1) := by decide +kernel
theorem dX10_writeAll_191 : decode cX10_writeAll 191 = .ok (.getfield 255, 3) := by decide +kernel
theorem dX10_writeAll_194 : decode cX10_writeAll 194 = .ok (.iload_n 3, 1) := by decide +kernel
theorem dX10_writeAll_195 : decode cX10_writeAll 195 = .ok (.iaload, 1) := by decide +kernel
theorem dX10_writeAll_196 : decode cX10_writeAll 196 = .ok (.iastore, 1) := by decide +kernel
theorem dX10_writeAll_197 : decode cX10_writeAll 197 = .ok (.iinc 3 1, 3) := by decide +kernel
theorem dX10_writeAll_200 : decode cX10_writeAll 200 = .ok (.goto (-45), 3) := by decide +kernel
theorem dX10_writeAll_203 : decode cX10_writeAll 203 = .ok (.iload_n 1, 1) := by decide +kernel
theorem dX10_writeAll_204 : decode cX10_writeAll 204 = .ok (.iconst 1, 1) := by decide +kernel
theorem dX10_writeAll_205 : decode cX10_writeAll 205 = .ok (.iadd, 1) := by decide +kernel
theorem dX10_writeAll_206 : decode cX10_writeAll 206 = .ok (.ireturn, 1) := by decide +kernel
theorem dX10_sync_0 : decode cX10_sync 0 = .ok (.aload_n 0, 1) := by decide +kernel
theorem dX10_sync_1 : decode cX10_sync 1 = .ok (.getfield 90, 3) := by decide +kernel
theorem dX10_sync_4 : decode cX10_sync 4 = .ok (.ifCond .eq 6, 3) := by decide +kernel
theorem dX10_sync_7 : decode cX10_sync 7 = .ok (.bipush (-4), 2) := by decide +kernel
theorem dX10_sync_9 : decode cX10_sync 9 = .ok (.ireturn, 1) := by decide +kernel
theorem dX10_sync_10 : decode cX10_sync 10 = .ok (.aload_n 0, 1) := by decide +kernel
theorem dX10_sync_11 : decode cX10_sync 11 = .ok (.invokevirtual 391, 3) := by decide +kernel
theorem dX10_sync_14 : decode cX10_sync 14 = .ok (.istore_n 1, 1) := by decide +kernel
theorem dX10_sync_15 : decode cX10_sync 15 = .ok (.iload_n 1, 1) := by decide +kernel
theorem dX10_sync_16 : decode cX10_sync 16 = .ok (.aload_n 0, 1) := by decide +kernel
theorem dX10_sync_17 : decode cX10_sync 17 = .ok (.invokevirtual 385, 3) := by decide +kernel
theorem dX10_sync_20 : decode cX10_sync 20 = .ok (.if_icmp .ge 8, 3) := by decide +kernel
theorem dX10_sync_23 : decode cX10_sync 23 = .ok (.bipush (-3), 2) := by decide +kernel
theorem dX10_sync_25 : decode cX10_sync 25 = .ok (.goto 7, 3) := by decide +kernel
theorem dX10_sync_28 : decode cX10_sync 28 = .ok (.aload_n 0, 1) := by decide +kernel
theorem dX10_sync_29 : decode cX10_sync 29 = .ok (.invokevirtual 394, 3) := by decide +kernel
theorem dX10_sync_32 : decode cX10_sync 32 = .ok (.ireturn, 1) := by decide +kernel
theorem dX10_picture_0 : decode cX10_picture 0 = .ok (.aload_n 0, 1) := by decide +kernel
theorem dX10_picture_1 : decode cX10_picture 1 = .ok (.getfield 90, 3) := by decide +kernel
theorem dX10_picture_4 : decode cX10_picture 4 = .ok (.ifCond .eq 6, 3) := by decide +kernel
theorem dX10_picture_7 : decode cX10_picture 7 = .ok (.bipush (-4), 2) := by decide +kernel
theorem dX10_picture_9 : decode cX10_picture 9 = .ok (.ireturn, 1) := by decide +kernel
theorem dX10_picture_10 : decode cX10_picture 10 = .ok (.aload_n 0, 1) := by decide +kernel
theorem dX10_picture_11 : decode cX10_picture 11 = .ok (.invokevirtual 391, 3) := by decide +kernel
theorem dX10_picture_14 : decode cX10_picture 14 = .ok (.istore_n 1, 1) := by decide +kernel
theorem dX10_picture_15 : decode cX10_picture 15 = .ok (.aload_n 0, 1) := by decide +kernel
theorem dX10_picture_16 : decode cX10_picture 16 = .ok (.getfield 363, 3) := by decide +kernel
theorem dX10_picture_19 : decode cX10_picture 19 = .ok (.bipush 12, 2) := by decide +kernel
theorem dX10_picture_21 : decode cX10_picture 21 = .ok (.if_icmp .eq 11, 3) := by decide +kernel
theorem dX10_picture_24 : decode cX10_picture 24 = .ok (.iload_n 1, 1) := by decide +kernel
theorem dX10_picture_25 : decode cX10_picture 25 = .ok (.aload_n 0, 1) := by decide +kernel
theorem dX10_picture_26 : decode cX10_picture 26 = .ok (.invokevirtual 385, 3) := by decide +kernel
theorem dX10_picture_29 : decode cX10_picture 29 = .ok (.if_icmp .ge 6, 3) := by decide +kernel
theorem dX10_picture_32 : decode cX10_picture 32 = .ok (.bipush (-3), 2) := by decide +kernel
theorem dX10_picture_34 : decode cX10_picture 34 = .ok (.ireturn, 1) := by decide +kernel
theorem dX10_picture_35 : decode cX10_picture 35 = .ok (.aload_n 0, 1) := by decide +kernel
theorem dX10_picture_36 : decode cX10_picture 36 = .ok (.getfield 252, 3) := by decide +kernel
theorem dX10_picture_39 : decode cX10_picture 39 = .ok (.aload_n 0, 1) := by decide +kernel
theorem dX10_picture_40 : decode cX10_picture 40 = .ok (.getfield 363, 3) := by decide +kernel
theorem dX10_picture_43 : decode cX10_picture 43 = .ok (.aload_n 0, 1) := by decide +kernel
theorem dX10_picture_44 : decode cX10_picture 44 = .ok (.getfield 258, 3) := by decide +kernel
theorem dX10_picture_47 : decode cX10_picture 47 = .ok (.iastore, 1) := by decide +kernel
theorem dX10_picture_48 : decode cX10_picture 48 = .ok (.aload_n 0, 1) := by decide +kernel
theorem dX10_picture_49 : decode cX10_picture 49 = .ok (.getfield 255, 3) := by decide +kernel
theorem dX10_picture_52 : decode cX10_picture 52 = .ok (.aload_n 0, 1) := by decide +kernel
theorem dX10_picture_53 : decode cX10_picture 53 = .ok (.getfield 363, 3) := by decide +kernel
theorem dX10_picture_56 : decode cX10_picture 56 = .ok (.iconst (-1), 1) := by decide +kernel
theorem dX10_picture_57 : decode cX10_picture 57 = .ok (.iastore, 1) := by decide +kernel
theorem dX10_picture_58 : decode cX10_picture 58 = .ok (.aload_n 0, 1) := by decide +kernel
theorem dX10_picture_59 : decode cX10_picture 59 = .ok (.dup, 1) := by decide +kernel
theorem dX10_picture_60 : decode cX10_picture 60 = .ok (.getfield 363, 3) := by decide +kernel
theorem dX10_picture_63 : decode cX10_picture 63 = .ok (.iconst 1, 1) := by decide +kernel
theorem dX10_picture_64 : decode cX10_picture 64 = .ok (.iadd, 1) := by decide +kernel
theorem dX10_picture_65 : decode cX10_picture 65 = .ok (.putfield 363, 3) := by decide +kernel
theorem dX10_picture_68 : decode cX10_picture 68 = .ok (.aload_n 0, 1) := by decide +kernel
theorem dX10_picture_69 : decode cX10_picture 69 = .ok (.dup, 1) := by decide +kernel
theorem dX10_picture_70 : decode cX10_picture 70 = .ok (.getfield 258, 3) := by decide +kernel
theorem dX10_picture_73 : decode cX10_picture 73 = .ok (.iconst 1, 1) := by decide +kernel
theorem dX10_picture_74 : decode cX10_picture 74 = .ok (.iadd, 1) := by decide +kernel
theorem dX10_picture_75 : decode cX10_picture 75 = .ok (.putfield 258, 3) := by decide +kernel
theorem dX10_picture_78 : decode cX10_picture 78 = .ok (.aload_n 0, 1) := by decide +kernel
theorem dX10_picture_79 : decode cX10_picture 79 = .ok (.invokevirtual 394, 3) := by decide +kernel
theorem dX10_picture_82 : decode cX10_picture 82 = .ok (.istore_n 2, 1) := by decide +kernel
theorem dX10_picture_83 : decode cX10_picture 83 = .ok (.iload_n 2, 1) := by decide +kernel
theorem dX10_picture_84 : decode cX10_picture 84 = .ok (.bipush (-5), 2) := by decide +kernel
theorem dX10_picture_86 : decode cX10_picture 86 = .ok (.if_icmp .ne 8, 3) := by decide +kernel
theorem dX10_picture_89 : decode cX10_picture 89 = .ok (.bipush (-5), 2) := by decide +kernel
theorem dX10_picture_91 : decode cX10_picture 91 = .ok (.goto 9, 3) := by decide +kernel
theorem dX10_picture_94 : decode cX10_picture 94 = .ok (.aload_n 0, 1) := by decide +kernel
theorem dX10_picture_95 : decode cX10_picture 95 = .ok (.getfield 258, 3) := by decide +kernel
theorem dX10_picture_98 : decode cX10_picture 98 = .ok (.iconst 1, 1) := by decide +kernel
theorem dX10_picture_99 : decode cX10_picture 99 = .ok (.isub, 1) := by decide +kernel
theorem dX10_picture_100 : decode cX10_picture 100 = .ok (.ireturn, 1) := by decide +kernel
theorem dX10_pictureAt_0 : decode cX10_pictureAt 0 = .ok (.iconst 0, 1) := by decide +kernel
theorem dX10_pictureAt_1 : decode cX10_pictureAt 1 = .ok (.istore_n 2, 1) := by decide +kernel
theorem dX10_pictureAt_2 : decode cX10_pictureAt 2 = .ok (.iload_n 2, 1) := by decide +kernel
theorem dX10_pictureAt_3 : decode cX10_pictureAt 3 = .ok (.aload_n 0, 1) := by decide +kernel
theorem dX10_pictureAt_4 : decode cX10_pictureAt 4 = .ok (.getfield 363, 3) := by decide +kernel
theorem dX10_pictureAt_7 : decode cX10_pictureAt 7 = .ok (.if_icmp .ge 21, 3) := by decide +kernel
theorem dX10_pictureAt_10 : decode cX10_pictureAt 10 = .ok (.aload_n 0, 1) := by decide +kernel
theorem dX10_pictureAt_11 : decode cX10_pictureAt 11 = .ok (.getfield 252, 3) := by decide +kernel
theorem dX10_pictureAt_14 : decode cX10_pictureAt 14 = .ok (.iload_n 2, 1) := by decide +kernel
theorem dX10_pictureAt_15 : decode cX10_pictureAt 15 = .ok (.iaload, 1) := by decide +kernel
theorem dX10_pictureAt_16 : decode cX10_pictureAt 16 = .ok (.iload_n 1, 1) := by decide +kernel
theorem dX10_pictureAt_17 : decode cX10_pictureAt 17 = .ok (.if_icmp .ne 5, 3) := by decide +kernel
theorem dX10_pictureAt_20 : decode cX10_pictureAt 20 = .ok (.iload_n 2, 1) := by decide +kernel
theorem dX10_pictureAt_21 : decode cX10_pictureAt 21 = .ok (.ireturn, 1) := by decide +kernel
theorem dX10_pictureAt_22 : decode cX10_pictureAt 22 = .ok (.iinc 2 1, 3) := by decide +kernel
theorem dX10_pictureAt_25 : decode cX10_pictureAt 25 = .ok (.goto (-23), 3) := by decide +kernel
theorem dX10_pictureAt_28 : decode cX10_pictureAt 28 = .ok (.iconst (-1), 1) := by decide +kernel
theorem dX10_pictureAt_29 : decode cX10_pictureAt 29 = .ok (.ireturn, 1) := by decide +kernel
theorem dX10_look_0 : decode cX10_look 0 = .ok (.aload_n 0, 1) := by decide +kernel
theorem dX10_look_1 : decode cX10_look 1 = .ok (.getfield 90, 3) := by decide +kernel
theorem dX10_look_4 : decode cX10_look 4 = .ok (.ifCond .eq 6, 3) := by decide +kernel
theorem dX10_look_7 : decode cX10_look 7 = .ok (.bipush (-4), 2) := by decide +kernel
theorem dX10_look_9 : decode cX10_look 9 = .ok (.ireturn, 1) := by decide +kernel
theorem dX10_look_10 : decode cX10_look 10 = .ok (.aload_n 0, 1) := by decide +kernel
theorem dX10_look_11 : decode cX10_look 11 = .ok (.iload_n 1, 1) := by decide +kernel
theorem dX10_look_12 : decode cX10_look 12 = .ok (.invokevirtual 397, 3) := by decide +kernel
theorem dX10_look_15 : decode cX10_look 15 = .ok (.istore 4, 2) := by decide +kernel
theorem dX10_look_17 : decode cX10_look 17 = .ok (.iload 4, 2) := by decide +kernel
theorem dX10_look_19 : decode cX10_look 19 = .ok (.iconst (-1), 1) := by decide +kernel
theorem dX10_look_20 : decode cX10_look 20 = .ok (.if_icmp .ne 6, 3) := by decide +kernel
theorem dX10_look_23 : decode cX10_look 23 = .ok (.bipush (-2), 2) := by decide +kernel
theorem dX10_look_25 : decode cX10_look 25 = .ok (.ireturn, 1) := by decide +kernel
theorem dX10_look_26 : decode cX10_look 26 = .ok (.iconst 0, 1) := by decide +kernel
theorem dX10_look_27 : decode cX10_look 27 = .ok (.istore 5, 2) := by decide +kernel
theorem dX10_look_29 : decode cX10_look 29 = .ok (.aload_n 0, 1) := by decide +kernel
theorem dX10_look_30 : decode cX10_look 30 = .ok (.getfield 255, 3) := by decide +kernel
theorem dX10_look_33 : decode cX10_look 33 = .ok (.iload 4, 2) := by decide +kernel
theorem dX10_look_35 : decode cX10_look 35 = .ok (.iaload, 1) := by decide +kernel
theorem dX10_look_36 : decode cX10_look 36 = .ok (.istore 6, 2) := by decide +kernel
theorem dX10_look_38 : decode cX10_look 38 = .ok (.aload_n 0, 1) := by decide +kernel
theorem dX10_look_39 : decode cX10_look 39 = .ok (.getfield 200, 3) := by decide +kernel
theorem dX10_look_42 : decode cX10_look 42 = .ok (.iload 6, 2) := by decide +kernel
theorem dX10_look_44 : decode cX10_look 44 = .ok (.baload, 1) := by decide +kernel
theorem dX10_look_45 : decode cX10_look 45 = .ok (.ifCond .ne 76, 3) := by decide +kernel
theorem dX10_look_48 : decode cX10_look 48 = .ok (.aload_n 0, 1) := by decide +kernel
theorem dX10_look_49 : decode cX10_look 49 = .ok (.getfield 267, 3) := by decide +kernel
theorem dX10_look_52 : decode cX10_look 52 = .ok (.iload 5, 2) := by decide +kernel
theorem dX10_look_54 : decode cX10_look 54 = .ok (.iload 6, 2) := by decide +kernel
theorem dX10_look_56 : decode cX10_look 56 = .ok (.iastore, 1) := by decide +kernel
theorem dX10_look_57 : decode cX10_look 57 = .ok (.iinc 5 1, 3) := by decide +kernel
theorem dX10_look_60 : decode cX10_look 60 = .ok (.iconst 0, 1) := by decide +kernel
theorem dX10_look_61 : decode cX10_look 61 = .ok (.istore 7, 2) := by decide +kernel
theorem dX10_look_63 : decode cX10_look 63 = .ok (.iload 7, 2) := by decide +kernel
theorem dX10_look_65 : decode cX10_look 65 = .ok (.iconst 1, 1) := by decide +kernel
theorem dX10_look_66 : decode cX10_look 66 = .ok (.iadd, 1) := by decide +kernel
theorem dX10_look_67 : decode cX10_look 67 = .ok (.aload_n 0, 1) := by decide +kernel
theorem dX10_look_68 : decode cX10_look 68 = .ok (.getfield 203, 3) := by decide +kernel
theorem dX10_look_71 : decode cX10_look 71 = .ok (.iload 6, 2) := by decide +kernel
theorem dX10_look_73 : decode cX10_look 73 = .ok (.iaload, 1) := by decide +kernel
theorem dX10_look_74 : decode cX10_look 74 = .ok (.if_icmp .ge 29, 3) := by decide +kernel
theorem dX10_look_77 : decode cX10_look 77 = .ok (.aload_n 0, 1) := by decide +kernel
theorem dX10_look_78 : decode cX10_look 78 = .ok (.getfield 206, 3) := by decide +kernel
