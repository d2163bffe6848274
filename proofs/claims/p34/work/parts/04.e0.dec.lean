theorem dL_built_0 : decode cL_built 0 = .ok (.aload_n 0, 1) := by decide +kernel
theorem dL_built_1 : decode cL_built 1 = .ok (.invokestatic 120, 3) := by decide +kernel
theorem dL_built_4 : decode cL_built 4 = .ok (.istore_n 1, 1) := by decide +kernel
theorem dL_built_5 : decode cL_built 5 = .ok (.aload_n 0, 1) := by decide +kernel
theorem dL_built_6 : decode cL_built 6 = .ok (.bipush 9, 2) := by decide +kernel
theorem dL_built_8 : decode cL_built 8 = .ok (.invokestatic 109, 3) := by decide +kernel
theorem dL_built_11 : decode cL_built 11 = .ok (.lstore_n 2, 1) := by decide +kernel
theorem dL_built_12 : decode cL_built 12 = .ok (.aload_n 0, 1) := by decide +kernel
theorem dL_built_13 : decode cL_built 13 = .ok (.bipush 10, 2) := by decide +kernel
theorem dL_built_15 : decode cL_built 15 = .ok (.invokestatic 109, 3) := by decide +kernel
theorem dL_built_18 : decode cL_built 18 = .ok (.lstore 4, 2) := by decide +kernel
theorem dL_built_20 : decode cL_built 20 = .ok (.lconst 0, 1) := by decide +kernel
theorem dL_built_21 : decode cL_built 21 = .ok (.lstore 6, 2) := by decide +kernel
theorem dL_built_23 : decode cL_built 23 = .ok (.lconst 0, 1) := by decide +kernel
theorem dL_built_24 : decode cL_built 24 = .ok (.lstore 8, 2) := by decide +kernel
theorem dL_built_26 : decode cL_built 26 = .ok (.lconst 0, 1) := by decide +kernel
theorem dL_built_27 : decode cL_built 27 = .ok (.lstore 10, 2) := by decide +kernel
theorem dL_built_29 : decode cL_built 29 = .ok (.lconst 0, 1) := by decide +kernel
theorem dL_built_30 : decode cL_built 30 = .ok (.lstore 12, 2) := by decide +kernel
theorem dL_built_32 : decode cL_built 32 = .ok (.iconst 1, 1) := by decide +kernel
theorem dL_built_33 : decode cL_built 33 = .ok (.istore 14, 2) := by decide +kernel
theorem dL_built_35 : decode cL_built 35 = .ok (.iconst 0, 1) := by decide +kernel
theorem dL_built_36 : decode cL_built 36 = .ok (.istore 15, 2) := by decide +kernel
theorem dL_built_38 : decode cL_built 38 = .ok (.iload 15, 2) := by decide +kernel
theorem dL_built_40 : decode cL_built 40 = .ok (.iload_n 1, 1) := by decide +kernel
theorem dL_built_41 : decode cL_built 41 = .ok (.if_icmp .ge 632, 3) := by decide +kernel
theorem dL_built_44 : decode cL_built 44 = .ok (.iload 14, 2) := by decide +kernel
theorem dL_built_46 : decode cL_built 46 = .ok (.ifCond .eq 627, 3) := by decide +kernel
theorem dL_built_49 : decode cL_built 49 = .ok (.aload_n 0, 1) := by decide +kernel
theorem dL_built_50 : decode cL_built 50 = .ok (.iload 15, 2) := by decide +kernel
theorem dL_built_52 : decode cL_built 52 = .ok (.iconst 1, 1) := by decide +kernel
theorem dL_built_53 : decode cL_built 53 = .ok (.invokestatic 124, 3) := by decide +kernel
theorem dL_built_56 : decode cL_built 56 = .ok (.lstore 16, 2) := by decide +kernel
theorem dL_built_58 : decode cL_built 58 = .ok (.aload_n 0, 1) := by decide +kernel
theorem dL_built_59 : decode cL_built 59 = .ok (.iload 15, 2) := by decide +kernel
theorem dL_built_61 : decode cL_built 61 = .ok (.iconst 3, 1) := by decide +kernel
theorem dL_built_62 : decode cL_built 62 = .ok (.invokestatic 124, 3) := by decide +kernel
theorem dL_built_65 : decode cL_built 65 = .ok (.lstore 18, 2) := by decide +kernel
theorem dL_built_67 : decode cL_built 67 = .ok (.iload 15, 2) := by decide +kernel
theorem dL_built_69 : decode cL_built 69 = .ok (.ifCond .eq 17, 3) := by decide +kernel
theorem dL_built_72 : decode cL_built 72 = .ok (.aload_n 0, 1) := by decide +kernel
theorem dL_built_73 : decode cL_built 73 = .ok (.iload 15, 2) := by decide +kernel
theorem dL_built_75 : decode cL_built 75 = .ok (.iconst 1, 1) := by decide +kernel
theorem dL_built_76 : decode cL_built 76 = .ok (.isub, 1) := by decide +kernel
theorem dL_built_77 : decode cL_built 77 = .ok (.iconst 5, 1) := by decide +kernel
theorem dL_built_78 : decode cL_built 78 = .ok (.invokestatic 124, 3) := by decide +kernel
theorem dL_built_81 : decode cL_built 81 = .ok (.lconst 1, 1) := by decide +kernel
theorem dL_built_82 : decode cL_built 82 = .ok (.lcmp, 1) := by decide +kernel
theorem dL_built_83 : decode cL_built 83 = .ok (.ifCond .ne 7, 3) := by decide +kernel
theorem dL_built_86 : decode cL_built 86 = .ok (.iconst 1, 1) := by decide +kernel
theorem dL_built_87 : decode cL_built 87 = .ok (.goto 4, 3) := by decide +kernel
theorem dL_built_90 : decode cL_built 90 = .ok (.iconst 0, 1) := by decide +kernel
theorem dL_built_91 : decode cL_built 91 = .ok (.istore 20, 2) := by decide +kernel
theorem dL_built_93 : decode cL_built 93 = .ok (.iload 15, 2) := by decide +kernel
theorem dL_built_95 : decode cL_built 95 = .ok (.ifCond .ne 7, 3) := by decide +kernel
theorem dL_built_98 : decode cL_built 98 = .ok (.lconst 0, 1) := by decide +kernel
theorem dL_built_99 : decode cL_built 99 = .ok (.goto 25, 3) := by decide +kernel
theorem dL_built_102 : decode cL_built 102 = .ok (.aload_n 0, 1) := by decide +kernel
theorem dL_built_103 : decode cL_built 103 = .ok (.iload 15, 2) := by decide +kernel
theorem dL_built_105 : decode cL_built 105 = .ok (.iconst 1, 1) := by decide +kernel
theorem dL_built_106 : decode cL_built 106 = .ok (.isub, 1) := by decide +kernel
theorem dL_built_107 : decode cL_built 107 = .ok (.iconst 3, 1) := by decide +kernel
theorem dL_built_108 : decode cL_built 108 = .ok (.invokestatic 124, 3) := by decide +kernel
theorem dL_built_111 : decode cL_built 111 = .ok (.aload_n 0, 1) := by decide +kernel
theorem dL_built_112 : decode cL_built 112 = .ok (.iload 15, 2) := by decide +kernel
theorem dL_built_114 : decode cL_built 114 = .ok (.iconst 1, 1) := by decide +kernel
theorem dL_built_115 : decode cL_built 115 = .ok (.isub, 1) := by decide +kernel
theorem dL_built_116 : decode cL_built 116 = .ok (.iconst 1, 1) := by decide +kernel
theorem dL_built_117 : decode cL_built 117 = .ok (.invokestatic 124, 3) := by decide +kernel
theorem dL_built_120 : decode cL_built 120 = .ok (.ladd, 1) := by decide +kernel
theorem dL_built_121 : decode cL_built 121 = .ok (.lload 4, 2) := by decide +kernel
theorem dL_built_123 : decode cL_built 123 = .ok (.ladd, 1) := by decide +kernel
theorem dL_built_124 : decode cL_built 124 = .ok (.lstore 21, 2) := by decide +kernel
theorem dL_built_126 : decode cL_built 126 = .ok (.iload 20, 2) := by decide +kernel
theorem dL_built_128 : decode cL_built 128 = .ok (.ifCond .ne 17, 3) := by decide +kernel
theorem dL_built_131 : decode cL_built 131 = .ok (.lload 21, 2) := by decide +kernel
theorem dL_built_133 : decode cL_built 133 = .ok (.lload 16, 2) := by decide +kernel
theorem dL_built_135 : decode cL_built 135 = .ok (.ladd, 1) := by decide +kernel
theorem dL_built_136 : decode cL_built 136 = .ok (.lload_n 2, 1) := by decide +kernel
theorem dL_built_137 : decode cL_built 137 = .ok (.lcmp, 1) := by decide +kernel
theorem dL_built_138 : decode cL_built 138 = .ok (.ifCond .gt 7, 3) := by decide +kernel
theorem dL_built_141 : decode cL_built 141 = .ok (.iconst 1, 1) := by decide +kernel
theorem dL_built_142 : decode cL_built 142 = .ok (.goto 4, 3) := by decide +kernel
theorem dL_built_145 : decode cL_built 145 = .ok (.iconst 0, 1) := by decide +kernel
theorem dL_built_146 : decode cL_built 146 = .ok (.istore 23, 2) := by decide +kernel
theorem dL_built_148 : decode cL_built 148 = .ok (.iload 15, 2) := by decide +kernel
theorem dL_built_150 : decode cL_built 150 = .ok (.ifCond .ne 7, 3) := by decide +kernel
theorem dL_built_153 : decode cL_built 153 = .ok (.lconst 0, 1) := by decide +kernel
theorem dL_built_154 : decode cL_built 154 = .ok (.goto 23, 3) := by decide +kernel
theorem dL_built_157 : decode cL_built 157 = .ok (.aload_n 0, 1) := by decide +kernel
theorem dL_built_158 : decode cL_built 158 = .ok (.iload 15, 2) := by decide +kernel
theorem dL_built_160 : decode cL_built 160 = .ok (.iconst 1, 1) := by decide +kernel
theorem dL_built_161 : decode cL_built 161 = .ok (.isub, 1) := by decide +kernel
theorem dL_built_162 : decode cL_built 162 = .ok (.iconst 2, 1) := by decide +kernel
theorem dL_built_163 : decode cL_built 163 = .ok (.invokestatic 124, 3) := by decide +kernel
theorem dL_built_166 : decode cL_built 166 = .ok (.iload 23, 2) := by decide +kernel
theorem dL_built_168 : decode cL_built 168 = .ok (.ifCond .eq 7, 3) := by decide +kernel
theorem dL_built_171 : decode cL_built 171 = .ok (.lconst 0, 1) := by decide +kernel
theorem dL_built_172 : decode cL_built 172 = .ok (.goto 4, 3) := by decide +kernel
theorem dL_built_175 : decode cL_built 175 = .ok (.lconst 1, 1) := by decide +kernel
theorem dL_built_176 : decode cL_built 176 = .ok (.ladd, 1) := by decide +kernel
theorem dL_built_177 : decode cL_built 177 = .ok (.lstore 24, 2) := by decide +kernel
theorem dL_built_179 : decode cL_built 179 = .ok (.iload 15, 2) := by decide +kernel
theorem dL_built_181 : decode cL_built 181 = .ok (.ifCond .ne 7, 3) := by decide +kernel
theorem dL_built_184 : decode cL_built 184 = .ok (.lconst 0, 1) := by decide +kernel
theorem dL_built_185 : decode cL_built 185 = .ok (.goto 23, 3) := by decide +kernel
theorem dL_built_188 : decode cL_built 188 = .ok (.aload_n 0, 1) := by decide +kernel
theorem dL_built_189 : decode cL_built 189 = .ok (.iload 15, 2) := by decide +kernel
theorem dL_built_191 : decode cL_built 191 = .ok (.iconst 1, 1) := by decide +kernel
theorem dL_built_192 : decode cL_built 192 = .ok (.isub, 1) := by decide +kernel
theorem dL_built_193 : decode cL_built 193 = .ok (.iconst 4, 1) := by decide +kernel
theorem dL_built_194 : decode cL_built 194 = .ok (.invokestatic 124, 3) := by decide +kernel
theorem dL_built_197 : decode cL_built 197 = .ok (.iload 20, 2) := by decide +kernel
theorem dL_built_199 : decode cL_built 199 = .ok (.ifCond .eq 7, 3) := by decide +kernel
theorem dL_built_202 : decode cL_built 202 = .ok (.lconst 1, 1) := by decide +kernel
theorem dL_built_203 : decode cL_built 203 = .ok (.goto 4, 3) := by decide +kernel
theorem dL_built_206 : decode cL_built 206 = .ok (.lconst 0, 1) := by decide +kernel
theorem dL_built_207 : decode cL_built 207 = .ok (.ladd, 1) := by decide +kernel
theorem dL_built_208 : decode cL_built 208 = .ok (.lstore 26, 2) := by decide +kernel
theorem dL_built_210 : decode cL_built 210 = .ok (.lload 6, 2) := by decide +kernel
theorem dL_built_212 : decode cL_built 212 = .ok (.aload_n 0, 1) := by decide +kernel
theorem dL_built_213 : decode cL_built 213 = .ok (.iload 15, 2) := by decide +kernel
theorem dL_built_215 : decode cL_built 215 = .ok (.iconst 0, 1) := by decide +kernel
theorem dL_built_216 : decode cL_built 216 = .ok (.invokestatic 124, 3) := by decide +kernel
theorem dL_built_219 : decode cL_built 219 = .ok (.ladd, 1) := by decide +kernel
theorem dL_built_220 : decode cL_built 220 = .ok (.lstore 6, 2) := by decide +kernel
theorem dL_built_222 : decode cL_built 222 = .ok (.lload 8, 2) := by decide +kernel
theorem dL_built_224 : decode cL_built 224 = .ok (.aload_n 0, 1) := by decide +kernel
theorem dL_built_225 : decode cL_built 225 = .ok (.iload 15, 2) := by decide +kernel
theorem dL_built_227 : decode cL_built 227 = .ok (.bipush 6, 2) := by decide +kernel
theorem dL_built_229 : decode cL_built 229 = .ok (.invokestatic 124, 3) := by decide +kernel
theorem dL_built_232 : decode cL_built 232 = .ok (.ladd, 1) := by decide +kernel
theorem dL_built_233 : decode cL_built 233 = .ok (.lstore 8, 2) := by decide +kernel
theorem dL_built_235 : decode cL_built 235 = .ok (.lload 10, 2) := by decide +kernel
theorem dL_built_237 : decode cL_built 237 = .ok (.lload 16, 2) := by decide +kernel
theorem dL_built_239 : decode cL_built 239 = .ok (.lload_n 2, 1) := by decide +kernel
theorem dL_built_240 : decode cL_built 240 = .ok (.lcmp, 1) := by decide +kernel
theorem dL_built_241 : decode cL_built 241 = .ok (.ifCond .le 7, 3) := by decide +kernel
theorem dL_built_244 : decode cL_built 244 = .ok (.lconst 1, 1) := by decide +kernel
theorem dL_built_245 : decode cL_built 245 = .ok (.goto 4, 3) := by decide +kernel
theorem dL_built_248 : decode cL_built 248 = .ok (.lconst 0, 1) := by decide +kernel
theorem dL_built_249 : decode cL_built 249 = .ok (.ladd, 1) := by decide +kernel
theorem dL_built_250 : decode cL_built 250 = .ok (.lstore 10, 2) := by decide +kernel
theorem dL_built_252 : decode cL_built 252 = .ok (.lload 12, 2) := by decide +kernel
theorem dL_built_254 : decode cL_built 254 = .ok (.aload_n 0, 1) := by decide +kernel
theorem dL_built_255 : decode cL_built 255 = .ok (.iload 15, 2) := by decide +kernel
theorem dL_built_257 : decode cL_built 257 = .ok (.bipush 7, 2) := by decide +kernel
theorem dL_built_259 : decode cL_built 259 = .ok (.invokestatic 124, 3) := by decide +kernel
theorem dL_built_262 : decode cL_built 262 = .ok (.lload_n 2, 1) := by decide +kernel
theorem dL_built_263 : decode cL_built 263 = .ok (.ladd, 1) := by decide +kernel
theorem dL_built_264 : decode cL_built 264 = .ok (.lconst 1, 1) := by decide +kernel
theorem dL_built_265 : decode cL_built 265 = .ok (.lsub, 1) := by decide +kernel
theorem dL_built_266 : decode cL_built 266 = .ok (.lload_n 2, 1) := by decide +kernel
theorem dL_built_267 : decode cL_built 267 = .ok (.ldiv, 1) := by decide +kernel
theorem dL_built_268 : decode cL_built 268 = .ok (.ladd, 1) := by decide +kernel
theorem dL_built_269 : decode cL_built 269 = .ok (.lstore 12, 2) := by decide +kernel
theorem dL_built_271 : decode cL_built 271 = .ok (.lload 18, 2) := by decide +kernel
theorem dL_built_273 : decode cL_built 273 = .ok (.iload 23, 2) := by decide +kernel
