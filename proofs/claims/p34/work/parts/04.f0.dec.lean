theorem dL_follows_0 : decode cL_follows 0 = .ok (.aload_n 0, 1) := by decide +kernel
theorem dL_follows_1 : decode cL_follows 1 = .ok (.invokestatic 142, 3) := by decide +kernel
theorem dL_follows_4 : decode cL_follows 4 = .ok (.lstore_n 2, 1) := by decide +kernel
theorem dL_follows_5 : decode cL_follows 5 = .ok (.aload_n 0, 1) := by decide +kernel
theorem dL_follows_6 : decode cL_follows 6 = .ok (.invokestatic 120, 3) := by decide +kernel
theorem dL_follows_9 : decode cL_follows 9 = .ok (.istore 4, 2) := by decide +kernel
theorem dL_follows_11 : decode cL_follows 11 = .ok (.bipush 10, 2) := by decide +kernel
theorem dL_follows_13 : decode cL_follows 13 = .ok (.iload_n 1, 1) := by decide +kernel
theorem dL_follows_14 : decode cL_follows 14 = .ok (.bipush 51, 2) := by decide +kernel
theorem dL_follows_16 : decode cL_follows 16 = .ok (.irem, 1) := by decide +kernel
theorem dL_follows_17 : decode cL_follows 17 = .ok (.iadd, 1) := by decide +kernel
theorem dL_follows_18 : decode cL_follows 18 = .ok (.istore 5, 2) := by decide +kernel
theorem dL_follows_20 : decode cL_follows 20 = .ok (.iload_n 1, 1) := by decide +kernel
theorem dL_follows_21 : decode cL_follows 21 = .ok (.bipush 51, 2) := by decide +kernel
theorem dL_follows_23 : decode cL_follows 23 = .ok (.idiv, 1) := by decide +kernel
theorem dL_follows_24 : decode cL_follows 24 = .ok (.iconst 2, 1) := by decide +kernel
theorem dL_follows_25 : decode cL_follows 25 = .ok (.irem, 1) := by decide +kernel
theorem dL_follows_26 : decode cL_follows 26 = .ok (.istore 6, 2) := by decide +kernel
theorem dL_follows_28 : decode cL_follows 28 = .ok (.aload_n 0, 1) := by decide +kernel
theorem dL_follows_29 : decode cL_follows 29 = .ok (.iconst 1, 1) := by decide +kernel
theorem dL_follows_30 : decode cL_follows 30 = .ok (.invokestatic 194, 3) := by decide +kernel
theorem dL_follows_33 : decode cL_follows 33 = .ok (.iload 4, 2) := by decide +kernel
theorem dL_follows_35 : decode cL_follows 35 = .ok (.i2l, 1) := by decide +kernel
theorem dL_follows_36 : decode cL_follows 36 = .ok (.lcmp, 1) := by decide +kernel
theorem dL_follows_37 : decode cL_follows 37 = .ok (.ifCond .ne 7, 3) := by decide +kernel
theorem dL_follows_40 : decode cL_follows 40 = .ok (.iconst 1, 1) := by decide +kernel
theorem dL_follows_41 : decode cL_follows 41 = .ok (.goto 4, 3) := by decide +kernel
theorem dL_follows_44 : decode cL_follows 44 = .ok (.iconst 0, 1) := by decide +kernel
theorem dL_follows_45 : decode cL_follows 45 = .ok (.istore 7, 2) := by decide +kernel
theorem dL_follows_47 : decode cL_follows 47 = .ok (.aload_n 0, 1) := by decide +kernel
theorem dL_follows_48 : decode cL_follows 48 = .ok (.iload 5, 2) := by decide +kernel
theorem dL_follows_50 : decode cL_follows 50 = .ok (.iload 6, 2) := by decide +kernel
theorem dL_follows_52 : decode cL_follows 52 = .ok (.invokestatic 159, 3) := by decide +kernel
theorem dL_follows_55 : decode cL_follows 55 = .ok (.lstore 8, 2) := by decide +kernel
theorem dL_follows_57 : decode cL_follows 57 = .ok (.iload 7, 2) := by decide +kernel
theorem dL_follows_59 : decode cL_follows 59 = .ok (.ifCond .eq 73, 3) := by decide +kernel
theorem dL_follows_62 : decode cL_follows 62 = .ok (.aload_n 0, 1) := by decide +kernel
theorem dL_follows_63 : decode cL_follows 63 = .ok (.bipush 9, 2) := by decide +kernel
theorem dL_follows_65 : decode cL_follows 65 = .ok (.iload 5, 2) := by decide +kernel
theorem dL_follows_67 : decode cL_follows 67 = .ok (.invokestatic 188, 3) := by decide +kernel
theorem dL_follows_70 : decode cL_follows 70 = .ok (.ldc2_w 214, 3) := by decide +kernel
theorem dL_follows_73 : decode cL_follows 73 = .ok (.lcmp, 1) := by decide +kernel
theorem dL_follows_74 : decode cL_follows 74 = .ok (.ifCond .lt 58, 3) := by decide +kernel
theorem dL_follows_77 : decode cL_follows 77 = .ok (.aload_n 0, 1) := by decide +kernel
theorem dL_follows_78 : decode cL_follows 78 = .ok (.bipush 11, 2) := by decide +kernel
theorem dL_follows_80 : decode cL_follows 80 = .ok (.iload 6, 2) := by decide +kernel
theorem dL_follows_82 : decode cL_follows 82 = .ok (.invokestatic 188, 3) := by decide +kernel
theorem dL_follows_85 : decode cL_follows 85 = .ok (.lconst 0, 1) := by decide +kernel
theorem dL_follows_86 : decode cL_follows 86 = .ok (.lcmp, 1) := by decide +kernel
theorem dL_follows_87 : decode cL_follows 87 = .ok (.ifCond .lt 45, 3) := by decide +kernel
theorem dL_follows_90 : decode cL_follows 90 = .ok (.aload_n 0, 1) := by decide +kernel
theorem dL_follows_91 : decode cL_follows 91 = .ok (.iconst 5, 1) := by decide +kernel
theorem dL_follows_92 : decode cL_follows 92 = .ok (.invokestatic 109, 3) := by decide +kernel
theorem dL_follows_95 : decode cL_follows 95 = .ok (.lload 8, 2) := by decide +kernel
theorem dL_follows_97 : decode cL_follows 97 = .ok (.lcmp, 1) := by decide +kernel
theorem dL_follows_98 : decode cL_follows 98 = .ok (.ifCond .ne 34, 3) := by decide +kernel
theorem dL_follows_101 : decode cL_follows 101 = .ok (.aload_n 0, 1) := by decide +kernel
theorem dL_follows_102 : decode cL_follows 102 = .ok (.invokestatic 216, 3) := by decide +kernel
theorem dL_follows_105 : decode cL_follows 105 = .ok (.lconst 0, 1) := by decide +kernel
theorem dL_follows_106 : decode cL_follows 106 = .ok (.lcmp, 1) := by decide +kernel
theorem dL_follows_107 : decode cL_follows 107 = .ok (.ifCond .lt 25, 3) := by decide +kernel
theorem dL_follows_110 : decode cL_follows 110 = .ok (.aload_n 0, 1) := by decide +kernel
theorem dL_follows_111 : decode cL_follows 111 = .ok (.invokestatic 216, 3) := by decide +kernel
theorem dL_follows_114 : decode cL_follows 114 = .ok (.lconst 0, 1) := by decide +kernel
theorem dL_follows_115 : decode cL_follows 115 = .ok (.lcmp, 1) := by decide +kernel
theorem dL_follows_116 : decode cL_follows 116 = .ok (.ifCond .lt 16, 3) := by decide +kernel
theorem dL_follows_119 : decode cL_follows 119 = .ok (.aload_n 0, 1) := by decide +kernel
theorem dL_follows_120 : decode cL_follows 120 = .ok (.invokestatic 142, 3) := by decide +kernel
theorem dL_follows_123 : decode cL_follows 123 = .ok (.lload_n 2, 1) := by decide +kernel
theorem dL_follows_124 : decode cL_follows 124 = .ok (.lcmp, 1) := by decide +kernel
theorem dL_follows_125 : decode cL_follows 125 = .ok (.ifCond .ne 7, 3) := by decide +kernel
theorem dL_follows_128 : decode cL_follows 128 = .ok (.iconst 1, 1) := by decide +kernel
theorem dL_follows_129 : decode cL_follows 129 = .ok (.goto 4, 3) := by decide +kernel
theorem dL_follows_132 : decode cL_follows 132 = .ok (.iconst 0, 1) := by decide +kernel
theorem dL_follows_133 : decode cL_follows 133 = .ok (.istore 7, 2) := by decide +kernel
theorem dL_follows_135 : decode cL_follows 135 = .ok (.iload_n 1, 1) := by decide +kernel
theorem dL_follows_136 : decode cL_follows 136 = .ok (.bipush 40, 2) := by decide +kernel
theorem dL_follows_138 : decode cL_follows 138 = .ok (.irem, 1) := by decide +kernel
theorem dL_follows_139 : decode cL_follows 139 = .ok (.istore 10, 2) := by decide +kernel
theorem dL_follows_141 : decode cL_follows 141 = .ok (.aload_n 0, 1) := by decide +kernel
theorem dL_follows_142 : decode cL_follows 142 = .ok (.iload 10, 2) := by decide +kernel
theorem dL_follows_144 : decode cL_follows 144 = .ok (.invokestatic 154, 3) := by decide +kernel
theorem dL_follows_147 : decode cL_follows 147 = .ok (.lstore 11, 2) := by decide +kernel
theorem dL_follows_149 : decode cL_follows 149 = .ok (.lload 11, 2) := by decide +kernel
theorem dL_follows_151 : decode cL_follows 151 = .ok (.ldc2_w 204, 3) := by decide +kernel
theorem dL_follows_154 : decode cL_follows 154 = .ok (.lcmp, 1) := by decide +kernel
theorem dL_follows_155 : decode cL_follows 155 = .ok (.ifCond .eq 109, 3) := by decide +kernel
theorem dL_follows_158 : decode cL_follows 158 = .ok (.iload 7, 2) := by decide +kernel
theorem dL_follows_160 : decode cL_follows 160 = .ok (.ifCond .eq 104, 3) := by decide +kernel
theorem dL_follows_163 : decode cL_follows 163 = .ok (.aload_n 0, 1) := by decide +kernel
theorem dL_follows_164 : decode cL_follows 164 = .ok (.bipush 9, 2) := by decide +kernel
theorem dL_follows_166 : decode cL_follows 166 = .ok (.lload 11, 2) := by decide +kernel
theorem dL_follows_168 : decode cL_follows 168 = .ok (.l2i, 1) := by decide +kernel
theorem dL_follows_169 : decode cL_follows 169 = .ok (.invokestatic 188, 3) := by decide +kernel
theorem dL_follows_172 : decode cL_follows 172 = .ok (.ldc2_w 214, 3) := by decide +kernel
theorem dL_follows_175 : decode cL_follows 175 = .ok (.lcmp, 1) := by decide +kernel
theorem dL_follows_176 : decode cL_follows 176 = .ok (.ifCond .lt 85, 3) := by decide +kernel
theorem dL_follows_179 : decode cL_follows 179 = .ok (.aload_n 0, 1) := by decide +kernel
theorem dL_follows_180 : decode cL_follows 180 = .ok (.iconst 5, 1) := by decide +kernel
theorem dL_follows_181 : decode cL_follows 181 = .ok (.invokestatic 109, 3) := by decide +kernel
theorem dL_follows_184 : decode cL_follows 184 = .ok (.iload 10, 2) := by decide +kernel
theorem dL_follows_186 : decode cL_follows 186 = .ok (.i2l, 1) := by decide +kernel
theorem dL_follows_187 : decode cL_follows 187 = .ok (.lcmp, 1) := by decide +kernel
theorem dL_follows_188 : decode cL_follows 188 = .ok (.ifCond .gt 73, 3) := by decide +kernel
theorem dL_follows_191 : decode cL_follows 191 = .ok (.aload_n 0, 1) := by decide +kernel
theorem dL_follows_192 : decode cL_follows 192 = .ok (.invokestatic 216, 3) := by decide +kernel
theorem dL_follows_195 : decode cL_follows 195 = .ok (.lconst 0, 1) := by decide +kernel
theorem dL_follows_196 : decode cL_follows 196 = .ok (.lcmp, 1) := by decide +kernel
theorem dL_follows_197 : decode cL_follows 197 = .ok (.ifCond .lt 64, 3) := by decide +kernel
theorem dL_follows_200 : decode cL_follows 200 = .ok (.lload 11, 2) := by decide +kernel
theorem dL_follows_202 : decode cL_follows 202 = .ok (.ldc2_w 214, 3) := by decide +kernel
theorem dL_follows_205 : decode cL_follows 205 = .ok (.lcmp, 1) := by decide +kernel
theorem dL_follows_206 : decode cL_follows 206 = .ok (.ifCond .eq 42, 3) := by decide +kernel
theorem dL_follows_209 : decode cL_follows 209 = .ok (.aload_n 0, 1) := by decide +kernel
theorem dL_follows_210 : decode cL_follows 210 = .ok (.bipush 9, 2) := by decide +kernel
theorem dL_follows_212 : decode cL_follows 212 = .ok (.lload 11, 2) := by decide +kernel
theorem dL_follows_214 : decode cL_follows 214 = .ok (.l2i, 1) := by decide +kernel
theorem dL_follows_215 : decode cL_follows 215 = .ok (.iconst 1, 1) := by decide +kernel
theorem dL_follows_216 : decode cL_follows 216 = .ok (.isub, 1) := by decide +kernel
theorem dL_follows_217 : decode cL_follows 217 = .ok (.invokestatic 188, 3) := by decide +kernel
theorem dL_follows_220 : decode cL_follows 220 = .ok (.ldc2_w 214, 3) := by decide +kernel
theorem dL_follows_223 : decode cL_follows 223 = .ok (.lcmp, 1) := by decide +kernel
theorem dL_follows_224 : decode cL_follows 224 = .ok (.ifCond .lt 37, 3) := by decide +kernel
theorem dL_follows_227 : decode cL_follows 227 = .ok (.aload_n 0, 1) := by decide +kernel
theorem dL_follows_228 : decode cL_follows 228 = .ok (.iconst 5, 1) := by decide +kernel
theorem dL_follows_229 : decode cL_follows 229 = .ok (.invokestatic 109, 3) := by decide +kernel
theorem dL_follows_232 : decode cL_follows 232 = .ok (.iload 10, 2) := by decide +kernel
theorem dL_follows_234 : decode cL_follows 234 = .ok (.i2l, 1) := by decide +kernel
theorem dL_follows_235 : decode cL_follows 235 = .ok (.lcmp, 1) := by decide +kernel
theorem dL_follows_236 : decode cL_follows 236 = .ok (.ifCond .le 25, 3) := by decide +kernel
theorem dL_follows_239 : decode cL_follows 239 = .ok (.aload_n 0, 1) := by decide +kernel
theorem dL_follows_240 : decode cL_follows 240 = .ok (.invokestatic 216, 3) := by decide +kernel
theorem dL_follows_243 : decode cL_follows 243 = .ok (.lconst 0, 1) := by decide +kernel
theorem dL_follows_244 : decode cL_follows 244 = .ok (.lcmp, 1) := by decide +kernel
theorem dL_follows_245 : decode cL_follows 245 = .ok (.ifCond .lt 16, 3) := by decide +kernel
theorem dL_follows_248 : decode cL_follows 248 = .ok (.aload_n 0, 1) := by decide +kernel
theorem dL_follows_249 : decode cL_follows 249 = .ok (.invokestatic 142, 3) := by decide +kernel
theorem dL_follows_252 : decode cL_follows 252 = .ok (.lload_n 2, 1) := by decide +kernel
theorem dL_follows_253 : decode cL_follows 253 = .ok (.lcmp, 1) := by decide +kernel
theorem dL_follows_254 : decode cL_follows 254 = .ok (.ifCond .ne 7, 3) := by decide +kernel
theorem dL_follows_257 : decode cL_follows 257 = .ok (.iconst 1, 1) := by decide +kernel
theorem dL_follows_258 : decode cL_follows 258 = .ok (.goto 4, 3) := by decide +kernel
theorem dL_follows_261 : decode cL_follows 261 = .ok (.iconst 0, 1) := by decide +kernel
theorem dL_follows_262 : decode cL_follows 262 = .ok (.istore 7, 2) := by decide +kernel
theorem dL_follows_264 : decode cL_follows 264 = .ok (.aload_n 0, 1) := by decide +kernel
theorem dL_follows_265 : decode cL_follows 265 = .ok (.iconst 2, 1) := by decide +kernel
theorem dL_follows_266 : decode cL_follows 266 = .ok (.invokestatic 109, 3) := by decide +kernel
theorem dL_follows_269 : decode cL_follows 269 = .ok (.lstore 13, 2) := by decide +kernel
theorem dL_follows_271 : decode cL_follows 271 = .ok (.iload 7, 2) := by decide +kernel
theorem dL_follows_273 : decode cL_follows 273 = .ok (.ifCond .eq 44, 3) := by decide +kernel
theorem dL_follows_276 : decode cL_follows 276 = .ok (.aload_n 0, 1) := by decide +kernel
theorem dL_follows_277 : decode cL_follows 277 = .ok (.lload 13, 2) := by decide +kernel
theorem dL_follows_279 : decode cL_follows 279 = .ok (.l2i, 1) := by decide +kernel
theorem dL_follows_280 : decode cL_follows 280 = .ok (.invokestatic 149, 3) := by decide +kernel
theorem dL_follows_283 : decode cL_follows 283 = .ok (.ldc2_w 204, 3) := by decide +kernel
theorem dL_follows_286 : decode cL_follows 286 = .ok (.lcmp, 1) := by decide +kernel
theorem dL_follows_287 : decode cL_follows 287 = .ok (.ifCond .ne 30, 3) := by decide +kernel
theorem dL_follows_290 : decode cL_follows 290 = .ok (.lload 13, 2) := by decide +kernel
theorem dL_follows_292 : decode cL_follows 292 = .ok (.lconst 0, 1) := by decide +kernel
theorem dL_follows_293 : decode cL_follows 293 = .ok (.lcmp, 1) := by decide +kernel
theorem dL_follows_294 : decode cL_follows 294 = .ok (.ifCond .eq 19, 3) := by decide +kernel
theorem dL_follows_297 : decode cL_follows 297 = .ok (.aload_n 0, 1) := by decide +kernel
theorem dL_follows_298 : decode cL_follows 298 = .ok (.lload 13, 2) := by decide +kernel
theorem dL_follows_300 : decode cL_follows 300 = .ok (.l2i, 1) := by decide +kernel
theorem dL_follows_301 : decode cL_follows 301 = .ok (.iconst 1, 1) := by decide +kernel
theorem dL_follows_302 : decode cL_follows 302 = .ok (.isub, 1) := by decide +kernel
theorem dL_follows_303 : decode cL_follows 303 = .ok (.invokestatic 149, 3) := by decide +kernel
theorem dL_follows_306 : decode cL_follows 306 = .ok (.ldc2_w 204, 3) := by decide +kernel
theorem dL_follows_309 : decode cL_follows 309 = .ok (.lcmp, 1) := by decide +kernel
theorem dL_follows_310 : decode cL_follows 310 = .ok (.ifCond .eq 7, 3) := by decide +kernel
theorem dL_follows_313 : decode cL_follows 313 = .ok (.iconst 1, 1) := by decide +kernel
theorem dL_follows_314 : decode cL_follows 314 = .ok (.goto 4, 3) := by decide +kernel
theorem dL_follows_317 : decode cL_follows 317 = .ok (.iconst 0, 1) := by decide +kernel
theorem dL_follows_318 : decode cL_follows 318 = .ok (.istore 7, 2) := by decide +kernel
theorem dL_follows_320 : decode cL_follows 320 = .ok (.aload_n 0, 1) := by decide +kernel
