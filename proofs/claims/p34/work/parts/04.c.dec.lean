theorem dL_tells_0 : decode cL_tells 0 = .ok (.iconst 1, 1) := by decide +kernel
theorem dL_tells_1 : decode cL_tells 1 = .ok (.iload_n 1, 1) := by decide +kernel
theorem dL_tells_2 : decode cL_tells 2 = .ok (.iconst 3, 1) := by decide +kernel
theorem dL_tells_3 : decode cL_tells 3 = .ok (.irem, 1) := by decide +kernel
theorem dL_tells_4 : decode cL_tells 4 = .ok (.iadd, 1) := by decide +kernel
theorem dL_tells_5 : decode cL_tells 5 = .ok (.istore_n 3, 1) := by decide +kernel
theorem dL_tells_6 : decode cL_tells 6 = .ok (.aload_n 0, 1) := by decide +kernel
theorem dL_tells_7 : decode cL_tells 7 = .ok (.invokevirtual 221, 3) := by decide +kernel
theorem dL_tells_10 : decode cL_tells 10 = .ok (.ifCond .lt 7, 3) := by decide +kernel
theorem dL_tells_13 : decode cL_tells 13 = .ok (.iconst 1, 1) := by decide +kernel
theorem dL_tells_14 : decode cL_tells 14 = .ok (.goto 4, 3) := by decide +kernel
theorem dL_tells_17 : decode cL_tells 17 = .ok (.iconst 0, 1) := by decide +kernel
theorem dL_tells_18 : decode cL_tells 18 = .ok (.istore 4, 2) := by decide +kernel
theorem dL_tells_20 : decode cL_tells 20 = .ok (.iconst 0, 1) := by decide +kernel
theorem dL_tells_21 : decode cL_tells 21 = .ok (.istore 5, 2) := by decide +kernel
theorem dL_tells_23 : decode cL_tells 23 = .ok (.iload 5, 2) := by decide +kernel
theorem dL_tells_25 : decode cL_tells 25 = .ok (.iload_n 3, 1) := by decide +kernel
theorem dL_tells_26 : decode cL_tells 26 = .ok (.if_icmp .ge 302, 3) := by decide +kernel
theorem dL_tells_29 : decode cL_tells 29 = .ok (.iload 4, 2) := by decide +kernel
theorem dL_tells_31 : decode cL_tells 31 = .ok (.ifCond .eq 297, 3) := by decide +kernel
theorem dL_tells_34 : decode cL_tells 34 = .ok (.iconst 1, 1) := by decide +kernel
theorem dL_tells_35 : decode cL_tells 35 = .ok (.iload_n 2, 1) := by decide +kernel
theorem dL_tells_36 : decode cL_tells 36 = .ok (.iload 5, 2) := by decide +kernel
theorem dL_tells_38 : decode cL_tells 38 = .ok (.ishr, 1) := by decide +kernel
theorem dL_tells_39 : decode cL_tells 39 = .ok (.sipush 255, 3) := by decide +kernel
theorem dL_tells_42 : decode cL_tells 42 = .ok (.iand, 1) := by decide +kernel
theorem dL_tells_43 : decode cL_tells 43 = .ok (.iconst 3, 1) := by decide +kernel
theorem dL_tells_44 : decode cL_tells 44 = .ok (.irem, 1) := by decide +kernel
theorem dL_tells_45 : decode cL_tells 45 = .ok (.iadd, 1) := by decide +kernel
theorem dL_tells_46 : decode cL_tells 46 = .ok (.istore 6, 2) := by decide +kernel
theorem dL_tells_48 : decode cL_tells 48 = .ok (.iload_n 1, 1) := by decide +kernel
theorem dL_tells_49 : decode cL_tells 49 = .ok (.iload 5, 2) := by decide +kernel
theorem dL_tells_51 : decode cL_tells 51 = .ok (.iconst 3, 1) := by decide +kernel
theorem dL_tells_52 : decode cL_tells 52 = .ok (.iadd, 1) := by decide +kernel
theorem dL_tells_53 : decode cL_tells 53 = .ok (.ishr, 1) := by decide +kernel
theorem dL_tells_54 : decode cL_tells 54 = .ok (.iconst 1, 1) := by decide +kernel
theorem dL_tells_55 : decode cL_tells 55 = .ok (.iand, 1) := by decide +kernel
theorem dL_tells_56 : decode cL_tells 56 = .ok (.iconst 1, 1) := by decide +kernel
theorem dL_tells_57 : decode cL_tells 57 = .ok (.if_icmp .ne 7, 3) := by decide +kernel
theorem dL_tells_60 : decode cL_tells 60 = .ok (.iconst 1, 1) := by decide +kernel
theorem dL_tells_61 : decode cL_tells 61 = .ok (.goto 4, 3) := by decide +kernel
theorem dL_tells_64 : decode cL_tells 64 = .ok (.iconst 0, 1) := by decide +kernel
theorem dL_tells_65 : decode cL_tells 65 = .ok (.istore 7, 2) := by decide +kernel
theorem dL_tells_67 : decode cL_tells 67 = .ok (.iload 5, 2) := by decide +kernel
theorem dL_tells_69 : decode cL_tells 69 = .ok (.ifCond .eq 14, 3) := by decide +kernel
theorem dL_tells_72 : decode cL_tells 72 = .ok (.aload_n 0, 1) := by decide +kernel
theorem dL_tells_73 : decode cL_tells 73 = .ok (.bipush 32, 2) := by decide +kernel
theorem dL_tells_75 : decode cL_tells 75 = .ok (.invokestatic 174, 3) := by decide +kernel
theorem dL_tells_78 : decode cL_tells 78 = .ok (.lconst 0, 1) := by decide +kernel
theorem dL_tells_79 : decode cL_tells 79 = .ok (.lcmp, 1) := by decide +kernel
theorem dL_tells_80 : decode cL_tells 80 = .ok (.ifCond .le 7, 3) := by decide +kernel
theorem dL_tells_83 : decode cL_tells 83 = .ok (.iconst 1, 1) := by decide +kernel
theorem dL_tells_84 : decode cL_tells 84 = .ok (.goto 4, 3) := by decide +kernel
theorem dL_tells_87 : decode cL_tells 87 = .ok (.iconst 0, 1) := by decide +kernel
theorem dL_tells_88 : decode cL_tells 88 = .ok (.istore 4, 2) := by decide +kernel
theorem dL_tells_90 : decode cL_tells 90 = .ok (.iconst 0, 1) := by decide +kernel
theorem dL_tells_91 : decode cL_tells 91 = .ok (.istore 8, 2) := by decide +kernel
theorem dL_tells_93 : decode cL_tells 93 = .ok (.iload 8, 2) := by decide +kernel
theorem dL_tells_95 : decode cL_tells 95 = .ok (.iload 6, 2) := by decide +kernel
theorem dL_tells_97 : decode cL_tells 97 = .ok (.if_icmp .ge 98, 3) := by decide +kernel
theorem dL_tells_100 : decode cL_tells 100 = .ok (.iload 4, 2) := by decide +kernel
theorem dL_tells_102 : decode cL_tells 102 = .ok (.ifCond .eq 93, 3) := by decide +kernel
theorem dL_tells_105 : decode cL_tells 105 = .ok (.iload 8, 2) := by decide +kernel
theorem dL_tells_107 : decode cL_tells 107 = .ok (.ifCond .eq 28, 3) := by decide +kernel
theorem dL_tells_110 : decode cL_tells 110 = .ok (.aload_n 0, 1) := by decide +kernel
theorem dL_tells_111 : decode cL_tells 111 = .ok (.iload_n 1, 1) := by decide +kernel
theorem dL_tells_112 : decode cL_tells 112 = .ok (.iload 8, 2) := by decide +kernel
theorem dL_tells_114 : decode cL_tells 114 = .ok (.ishr, 1) := by decide +kernel
theorem dL_tells_115 : decode cL_tells 115 = .ok (.iconst 1, 1) := by decide +kernel
theorem dL_tells_116 : decode cL_tells 116 = .ok (.iand, 1) := by decide +kernel
theorem dL_tells_117 : decode cL_tells 117 = .ok (.ifCond .ne 8, 3) := by decide +kernel
theorem dL_tells_120 : decode cL_tells 120 = .ok (.bipush 45, 2) := by decide +kernel
theorem dL_tells_122 : decode cL_tells 122 = .ok (.goto 5, 3) := by decide +kernel
theorem dL_tells_125 : decode cL_tells 125 = .ok (.bipush 61, 2) := by decide +kernel
theorem dL_tells_127 : decode cL_tells 127 = .ok (.invokestatic 174, 3) := by decide +kernel
theorem dL_tells_130 : decode cL_tells 130 = .ok (.lconst 0, 1) := by decide +kernel
theorem dL_tells_131 : decode cL_tells 131 = .ok (.lcmp, 1) := by decide +kernel
theorem dL_tells_132 : decode cL_tells 132 = .ok (.ifCond .le 54, 3) := by decide +kernel
theorem dL_tells_135 : decode cL_tells 135 = .ok (.aload_n 0, 1) := by decide +kernel
theorem dL_tells_136 : decode cL_tells 136 = .ok (.bipush 97, 2) := by decide +kernel
theorem dL_tells_138 : decode cL_tells 138 = .ok (.iload_n 2, 1) := by decide +kernel
theorem dL_tells_139 : decode cL_tells 139 = .ok (.iload 8, 2) := by decide +kernel
theorem dL_tells_141 : decode cL_tells 141 = .ok (.iload 5, 2) := by decide +kernel
theorem dL_tells_143 : decode cL_tells 143 = .ok (.iadd, 1) := by decide +kernel
theorem dL_tells_144 : decode cL_tells 144 = .ok (.ishr, 1) := by decide +kernel
theorem dL_tells_145 : decode cL_tells 145 = .ok (.sipush 1023, 3) := by decide +kernel
theorem dL_tells_148 : decode cL_tells 148 = .ok (.iand, 1) := by decide +kernel
theorem dL_tells_149 : decode cL_tells 149 = .ok (.iconst 4, 1) := by decide +kernel
theorem dL_tells_150 : decode cL_tells 150 = .ok (.irem, 1) := by decide +kernel
theorem dL_tells_151 : decode cL_tells 151 = .ok (.iadd, 1) := by decide +kernel
theorem dL_tells_152 : decode cL_tells 152 = .ok (.invokestatic 174, 3) := by decide +kernel
theorem dL_tells_155 : decode cL_tells 155 = .ok (.lconst 0, 1) := by decide +kernel
theorem dL_tells_156 : decode cL_tells 156 = .ok (.lcmp, 1) := by decide +kernel
theorem dL_tells_157 : decode cL_tells 157 = .ok (.ifCond .le 29, 3) := by decide +kernel
theorem dL_tells_160 : decode cL_tells 160 = .ok (.iload_n 2, 1) := by decide +kernel
theorem dL_tells_161 : decode cL_tells 161 = .ok (.iconst 2, 1) := by decide +kernel
theorem dL_tells_162 : decode cL_tells 162 = .ok (.iload 8, 2) := by decide +kernel
theorem dL_tells_164 : decode cL_tells 164 = .ok (.imul, 1) := by decide +kernel
theorem dL_tells_165 : decode cL_tells 165 = .ok (.ishr, 1) := by decide +kernel
theorem dL_tells_166 : decode cL_tells 166 = .ok (.iconst 1, 1) := by decide +kernel
theorem dL_tells_167 : decode cL_tells 167 = .ok (.iand, 1) := by decide +kernel
theorem dL_tells_168 : decode cL_tells 168 = .ok (.ifCond .eq 14, 3) := by decide +kernel
theorem dL_tells_171 : decode cL_tells 171 = .ok (.aload_n 0, 1) := by decide +kernel
theorem dL_tells_172 : decode cL_tells 172 = .ok (.bipush 98, 2) := by decide +kernel
theorem dL_tells_174 : decode cL_tells 174 = .ok (.invokestatic 174, 3) := by decide +kernel
theorem dL_tells_177 : decode cL_tells 177 = .ok (.lconst 0, 1) := by decide +kernel
theorem dL_tells_178 : decode cL_tells 178 = .ok (.lcmp, 1) := by decide +kernel
theorem dL_tells_179 : decode cL_tells 179 = .ok (.ifCond .le 7, 3) := by decide +kernel
theorem dL_tells_182 : decode cL_tells 182 = .ok (.iconst 1, 1) := by decide +kernel
theorem dL_tells_183 : decode cL_tells 183 = .ok (.goto 4, 3) := by decide +kernel
theorem dL_tells_186 : decode cL_tells 186 = .ok (.iconst 0, 1) := by decide +kernel
theorem dL_tells_187 : decode cL_tells 187 = .ok (.istore 4, 2) := by decide +kernel
theorem dL_tells_189 : decode cL_tells 189 = .ok (.iinc 8 1, 3) := by decide +kernel
theorem dL_tells_192 : decode cL_tells 192 = .ok (.goto (-99), 3) := by decide +kernel
theorem dL_tells_195 : decode cL_tells 195 = .ok (.iload 4, 2) := by decide +kernel
theorem dL_tells_197 : decode cL_tells 197 = .ok (.ifCond .eq 23, 3) := by decide +kernel
theorem dL_tells_200 : decode cL_tells 200 = .ok (.iload 7, 2) := by decide +kernel
theorem dL_tells_202 : decode cL_tells 202 = .ok (.ifCond .eq 14, 3) := by decide +kernel
theorem dL_tells_205 : decode cL_tells 205 = .ok (.aload_n 0, 1) := by decide +kernel
theorem dL_tells_206 : decode cL_tells 206 = .ok (.bipush 58, 2) := by decide +kernel
theorem dL_tells_208 : decode cL_tells 208 = .ok (.invokestatic 174, 3) := by decide +kernel
theorem dL_tells_211 : decode cL_tells 211 = .ok (.lconst 0, 1) := by decide +kernel
theorem dL_tells_212 : decode cL_tells 212 = .ok (.lcmp, 1) := by decide +kernel
theorem dL_tells_213 : decode cL_tells 213 = .ok (.ifCond .le 7, 3) := by decide +kernel
theorem dL_tells_216 : decode cL_tells 216 = .ok (.iconst 1, 1) := by decide +kernel
theorem dL_tells_217 : decode cL_tells 217 = .ok (.goto 4, 3) := by decide +kernel
theorem dL_tells_220 : decode cL_tells 220 = .ok (.iconst 0, 1) := by decide +kernel
theorem dL_tells_221 : decode cL_tells 221 = .ok (.istore 4, 2) := by decide +kernel
theorem dL_tells_223 : decode cL_tells 223 = .ok (.iconst 0, 1) := by decide +kernel
theorem dL_tells_224 : decode cL_tells 224 = .ok (.istore 8, 2) := by decide +kernel
theorem dL_tells_226 : decode cL_tells 226 = .ok (.iload 8, 2) := by decide +kernel
theorem dL_tells_228 : decode cL_tells 228 = .ok (.iload 6, 2) := by decide +kernel
theorem dL_tells_230 : decode cL_tells 230 = .ok (.if_icmp .ge 92, 3) := by decide +kernel
theorem dL_tells_233 : decode cL_tells 233 = .ok (.iload 4, 2) := by decide +kernel
theorem dL_tells_235 : decode cL_tells 235 = .ok (.ifCond .eq 87, 3) := by decide +kernel
theorem dL_tells_238 : decode cL_tells 238 = .ok (.iload 7, 2) := by decide +kernel
theorem dL_tells_240 : decode cL_tells 240 = .ok (.ifCond .eq 82, 3) := by decide +kernel
theorem dL_tells_243 : decode cL_tells 243 = .ok (.iload 8, 2) := by decide +kernel
theorem dL_tells_245 : decode cL_tells 245 = .ok (.ifCond .eq 28, 3) := by decide +kernel
theorem dL_tells_248 : decode cL_tells 248 = .ok (.aload_n 0, 1) := by decide +kernel
theorem dL_tells_249 : decode cL_tells 249 = .ok (.iload_n 1, 1) := by decide +kernel
theorem dL_tells_250 : decode cL_tells 250 = .ok (.iload 8, 2) := by decide +kernel
theorem dL_tells_252 : decode cL_tells 252 = .ok (.ishr, 1) := by decide +kernel
theorem dL_tells_253 : decode cL_tells 253 = .ok (.iconst 1, 1) := by decide +kernel
theorem dL_tells_254 : decode cL_tells 254 = .ok (.iand, 1) := by decide +kernel
theorem dL_tells_255 : decode cL_tells 255 = .ok (.ifCond .ne 8, 3) := by decide +kernel
theorem dL_tells_258 : decode cL_tells 258 = .ok (.bipush 45, 2) := by decide +kernel
theorem dL_tells_260 : decode cL_tells 260 = .ok (.goto 5, 3) := by decide +kernel
theorem dL_tells_263 : decode cL_tells 263 = .ok (.bipush 61, 2) := by decide +kernel
theorem dL_tells_265 : decode cL_tells 265 = .ok (.invokestatic 174, 3) := by decide +kernel
theorem dL_tells_268 : decode cL_tells 268 = .ok (.lconst 0, 1) := by decide +kernel
theorem dL_tells_269 : decode cL_tells 269 = .ok (.lcmp, 1) := by decide +kernel
theorem dL_tells_270 : decode cL_tells 270 = .ok (.ifCond .le 43, 3) := by decide +kernel
theorem dL_tells_273 : decode cL_tells 273 = .ok (.iload_n 1, 1) := by decide +kernel
theorem dL_tells_274 : decode cL_tells 274 = .ok (.iconst 2, 1) := by decide +kernel
theorem dL_tells_275 : decode cL_tells 275 = .ok (.iload 8, 2) := by decide +kernel
theorem dL_tells_277 : decode cL_tells 277 = .ok (.imul, 1) := by decide +kernel
theorem dL_tells_278 : decode cL_tells 278 = .ok (.iload 5, 2) := by decide +kernel
theorem dL_tells_280 : decode cL_tells 280 = .ok (.iadd, 1) := by decide +kernel
theorem dL_tells_281 : decode cL_tells 281 = .ok (.ishr, 1) := by decide +kernel
theorem dL_tells_282 : decode cL_tells 282 = .ok (.iconst 1, 1) := by decide +kernel
theorem dL_tells_283 : decode cL_tells 283 = .ok (.iand, 1) := by decide +kernel
theorem dL_tells_284 : decode cL_tells 284 = .ok (.ifCond .eq 25, 3) := by decide +kernel
theorem dL_tells_287 : decode cL_tells 287 = .ok (.aload_n 0, 1) := by decide +kernel
theorem dL_tells_288 : decode cL_tells 288 = .ok (.bipush 120, 2) := by decide +kernel
theorem dL_tells_290 : decode cL_tells 290 = .ok (.iload_n 2, 1) := by decide +kernel
theorem dL_tells_291 : decode cL_tells 291 = .ok (.iload 8, 2) := by decide +kernel
theorem dL_tells_293 : decode cL_tells 293 = .ok (.ishr, 1) := by decide +kernel
theorem dL_tells_294 : decode cL_tells 294 = .ok (.sipush 255, 3) := by decide +kernel
theorem dL_tells_297 : decode cL_tells 297 = .ok (.iand, 1) := by decide +kernel
theorem dL_tells_298 : decode cL_tells 298 = .ok (.iconst 3, 1) := by decide +kernel
theorem dL_tells_299 : decode cL_tells 299 = .ok (.irem, 1) := by decide +kernel
theorem dL_tells_300 : decode cL_tells 300 = .ok (.iadd, 1) := by decide +kernel
theorem dL_tells_301 : decode cL_tells 301 = .ok (.invokestatic 174, 3) := by decide +kernel
theorem dL_tells_304 : decode cL_tells 304 = .ok (.lconst 0, 1) := by decide +kernel
theorem dL_tells_305 : decode cL_tells 305 = .ok (.lcmp, 1) := by decide +kernel
theorem dL_tells_306 : decode cL_tells 306 = .ok (.ifCond .le 7, 3) := by decide +kernel
theorem dL_tells_309 : decode cL_tells 309 = .ok (.iconst 1, 1) := by decide +kernel
theorem dL_tells_310 : decode cL_tells 310 = .ok (.goto 4, 3) := by decide +kernel
theorem dL_tells_313 : decode cL_tells 313 = .ok (.iconst 0, 1) := by decide +kernel
theorem dL_tells_314 : decode cL_tells 314 = .ok (.istore 4, 2) := by decide +kernel
theorem dL_tells_316 : decode cL_tells 316 = .ok (.iinc 8 1, 3) := by decide +kernel
theorem dL_tells_319 : decode cL_tells 319 = .ok (.goto (-93), 3) := by decide +kernel
theorem dL_tells_322 : decode cL_tells 322 = .ok (.iinc 5 1, 3) := by decide +kernel
theorem dL_tells_325 : decode cL_tells 325 = .ok (.goto (-302), 3) := by decide +kernel
theorem dL_tells_328 : decode cL_tells 328 = .ok (.iload 4, 2) := by decide +kernel
theorem dL_tells_330 : decode cL_tells 330 = .ok (.ifCond .eq 16, 3) := by decide +kernel
theorem dL_tells_333 : decode cL_tells 333 = .ok (.aload_n 0, 1) := by decide +kernel
theorem dL_tells_334 : decode cL_tells 334 = .ok (.invokevirtual 146, 3) := by decide +kernel
theorem dL_tells_337 : decode cL_tells 337 = .ok (.bipush (-9), 2) := by decide +kernel
theorem dL_tells_339 : decode cL_tells 339 = .ok (.if_icmp .ne 7, 3) := by decide +kernel
theorem dL_tells_342 : decode cL_tells 342 = .ok (.iconst 1, 1) := by decide +kernel
theorem dL_tells_343 : decode cL_tells 343 = .ok (.goto 4, 3) := by decide +kernel
theorem dL_tells_346 : decode cL_tells 346 = .ok (.iconst 0, 1) := by decide +kernel
theorem dL_tells_347 : decode cL_tells 347 = .ok (.ireturn, 1) := by decide +kernel
theorem dL_act_0 : decode cL_act 0 = .ok (.iload_n 2, 1) := by decide +kernel
theorem dL_act_1 : decode cL_act 1 = .ok (.bipush 12, 2) := by decide +kernel
theorem dL_act_3 : decode cL_act 3 = .ok (.irem, 1) := by decide +kernel
theorem dL_act_4 : decode cL_act 4 = .ok (.istore_n 3, 1) := by decide +kernel
theorem dL_act_5 : decode cL_act 5 = .ok (.iload_n 2, 1) := by decide +kernel
theorem dL_act_6 : decode cL_act 6 = .ok (.bipush 12, 2) := by decide +kernel
theorem dL_act_8 : decode cL_act 8 = .ok (.idiv, 1) := by decide +kernel
theorem dL_act_9 : decode cL_act 9 = .ok (.iconst 3, 1) := by decide +kernel
theorem dL_act_10 : decode cL_act 10 = .ok (.irem, 1) := by decide +kernel
theorem dL_act_11 : decode cL_act 11 = .ok (.istore 4, 2) := by decide +kernel
theorem dL_act_13 : decode cL_act 13 = .ok (.iload_n 1, 1) := by decide +kernel
theorem dL_act_14 : decode cL_act 14 = .ok (.bipush 18, 2) := by decide +kernel
theorem dL_act_16 : decode cL_act 16 = .ok (.irem, 1) := by decide +kernel
theorem dL_act_17 : decode cL_act 17 = .ok (.tableswitch 302 0 16 #[83, 83, 83, 104, 110, 110, 116, 122, 122, 146, 146, 206, 206, 265, 265, 273, 297], 83) := by decide +kernel
theorem dL_act_100 : decode cL_act 100 = .ok (.aload_n 0, 1) := by decide +kernel
theorem dL_act_101 : decode cL_act 101 = .ok (.iload_n 1, 1) := by decide +kernel
theorem dL_act_102 : decode cL_act 102 = .ok (.iload_n 2, 1) := by decide +kernel
theorem dL_act_103 : decode cL_act 103 = .ok (.invokestatic 224, 3) := by decide +kernel
theorem dL_act_106 : decode cL_act 106 = .ok (.ifCond .eq 11, 3) := by decide +kernel
theorem dL_act_109 : decode cL_act 109 = .ok (.aload_n 0, 1) := by decide +kernel
theorem dL_act_110 : decode cL_act 110 = .ok (.iload_n 3, 1) := by decide +kernel
theorem dL_act_111 : decode cL_act 111 = .ok (.invokestatic 176, 3) := by decide +kernel
theorem dL_act_114 : decode cL_act 114 = .ok (.goto 6, 3) := by decide +kernel
theorem dL_act_117 : decode cL_act 117 = .ok (.ldc2_w 228, 3) := by decide +kernel
theorem dL_act_120 : decode cL_act 120 = .ok (.lreturn, 1) := by decide +kernel
theorem dL_act_121 : decode cL_act 121 = .ok (.aload_n 0, 1) := by decide +kernel
theorem dL_act_122 : decode cL_act 122 = .ok (.iload_n 3, 1) := by decide +kernel
theorem dL_act_123 : decode cL_act 123 = .ok (.invokestatic 178, 3) := by decide +kernel
theorem dL_act_126 : decode cL_act 126 = .ok (.lreturn, 1) := by decide +kernel
theorem dL_act_127 : decode cL_act 127 = .ok (.aload_n 0, 1) := by decide +kernel
theorem dL_act_128 : decode cL_act 128 = .ok (.iload_n 3, 1) := by decide +kernel
theorem dL_act_129 : decode cL_act 129 = .ok (.invokestatic 180, 3) := by decide +kernel
theorem dL_act_132 : decode cL_act 132 = .ok (.lreturn, 1) := by decide +kernel
theorem dL_act_133 : decode cL_act 133 = .ok (.aload_n 0, 1) := by decide +kernel
theorem dL_act_134 : decode cL_act 134 = .ok (.iload_n 3, 1) := by decide +kernel
theorem dL_act_135 : decode cL_act 135 = .ok (.invokestatic 182, 3) := by decide +kernel
theorem dL_act_138 : decode cL_act 138 = .ok (.lreturn, 1) := by decide +kernel
theorem dL_act_139 : decode cL_act 139 = .ok (.aload_n 0, 1) := by decide +kernel
theorem dL_act_140 : decode cL_act 140 = .ok (.bipush 7, 2) := by decide +kernel
theorem dL_act_142 : decode cL_act 142 = .ok (.iload_n 1, 1) := by decide +kernel
theorem dL_act_143 : decode cL_act 143 = .ok (.imul, 1) := by decide +kernel
theorem dL_act_144 : decode cL_act 144 = .ok (.iload_n 2, 1) := by decide +kernel
theorem dL_act_145 : decode cL_act 145 = .ok (.invokestatic 224, 3) := by decide +kernel
theorem dL_act_148 : decode cL_act 148 = .ok (.ifCond .eq 11, 3) := by decide +kernel
theorem dL_act_151 : decode cL_act 151 = .ok (.aload_n 0, 1) := by decide +kernel
theorem dL_act_152 : decode cL_act 152 = .ok (.iload_n 3, 1) := by decide +kernel
theorem dL_act_153 : decode cL_act 153 = .ok (.invokestatic 184, 3) := by decide +kernel
theorem dL_act_156 : decode cL_act 156 = .ok (.goto 6, 3) := by decide +kernel
theorem dL_act_159 : decode cL_act 159 = .ok (.ldc2_w 228, 3) := by decide +kernel
theorem dL_act_162 : decode cL_act 162 = .ok (.lreturn, 1) := by decide +kernel
theorem dL_act_163 : decode cL_act 163 = .ok (.aload_n 0, 1) := by decide +kernel
theorem dL_act_164 : decode cL_act 164 = .ok (.invokevirtual 221, 3) := by decide +kernel
theorem dL_act_167 : decode cL_act 167 = .ok (.ifCond .lt 52, 3) := by decide +kernel
theorem dL_act_170 : decode cL_act 170 = .ok (.iload_n 2, 1) := by decide +kernel
theorem dL_act_171 : decode cL_act 171 = .ok (.iconst 5, 1) := by decide +kernel
theorem dL_act_172 : decode cL_act 172 = .ok (.irem, 1) := by decide +kernel
theorem dL_act_173 : decode cL_act 173 = .ok (.ifCond .eq 19, 3) := by decide +kernel
theorem dL_act_176 : decode cL_act 176 = .ok (.aload_n 0, 1) := by decide +kernel
theorem dL_act_177 : decode cL_act 177 = .ok (.bipush 97, 2) := by decide +kernel
theorem dL_act_179 : decode cL_act 179 = .ok (.iload_n 2, 1) := by decide +kernel
theorem dL_act_180 : decode cL_act 180 = .ok (.bipush 26, 2) := by decide +kernel
theorem dL_act_182 : decode cL_act 182 = .ok (.irem, 1) := by decide +kernel
theorem dL_act_183 : decode cL_act 183 = .ok (.iadd, 1) := by decide +kernel
theorem dL_act_184 : decode cL_act 184 = .ok (.invokestatic 174, 3) := by decide +kernel
theorem dL_act_187 : decode cL_act 187 = .ok (.lconst 0, 1) := by decide +kernel
theorem dL_act_188 : decode cL_act 188 = .ok (.lcmp, 1) := by decide +kernel
theorem dL_act_189 : decode cL_act 189 = .ok (.ifCond .le 30, 3) := by decide +kernel
theorem dL_act_192 : decode cL_act 192 = .ok (.iload_n 2, 1) := by decide +kernel
theorem dL_act_193 : decode cL_act 193 = .ok (.iconst 3, 1) := by decide +kernel
theorem dL_act_194 : decode cL_act 194 = .ok (.irem, 1) := by decide +kernel
theorem dL_act_195 : decode cL_act 195 = .ok (.ifCond .eq 14, 3) := by decide +kernel
theorem dL_act_198 : decode cL_act 198 = .ok (.aload_n 0, 1) := by decide +kernel
theorem dL_act_199 : decode cL_act 199 = .ok (.bipush 46, 2) := by decide +kernel
theorem dL_act_201 : decode cL_act 201 = .ok (.invokestatic 174, 3) := by decide +kernel
theorem dL_act_204 : decode cL_act 204 = .ok (.lconst 0, 1) := by decide +kernel
theorem dL_act_205 : decode cL_act 205 = .ok (.lcmp, 1) := by decide +kernel
theorem dL_act_206 : decode cL_act 206 = .ok (.ifCond .le 13, 3) := by decide +kernel
theorem dL_act_209 : decode cL_act 209 = .ok (.aload_n 0, 1) := by decide +kernel
theorem dL_act_210 : decode cL_act 210 = .ok (.iload_n 3, 1) := by decide +kernel
theorem dL_act_211 : decode cL_act 211 = .ok (.iload 4, 2) := by decide +kernel
theorem dL_act_213 : decode cL_act 213 = .ok (.invokestatic 186, 3) := by decide +kernel
theorem dL_act_216 : decode cL_act 216 = .ok (.goto 6, 3) := by decide +kernel
theorem dL_act_219 : decode cL_act 219 = .ok (.ldc2_w 228, 3) := by decide +kernel
theorem dL_act_222 : decode cL_act 222 = .ok (.lreturn, 1) := by decide +kernel
theorem dL_act_223 : decode cL_act 223 = .ok (.iload_n 2, 1) := by decide +kernel
theorem dL_act_224 : decode cL_act 224 = .ok (.iconst 3, 1) := by decide +kernel
theorem dL_act_225 : decode cL_act 225 = .ok (.irem, 1) := by decide +kernel
theorem dL_act_226 : decode cL_act 226 = .ok (.ifCond .ne 21, 3) := by decide +kernel
theorem dL_act_229 : decode cL_act 229 = .ok (.aload_n 0, 1) := by decide +kernel
theorem dL_act_230 : decode cL_act 230 = .ok (.bipush 9, 2) := by decide +kernel
theorem dL_act_232 : decode cL_act 232 = .ok (.bipush 10, 2) := by decide +kernel
theorem dL_act_234 : decode cL_act 234 = .ok (.iload_n 2, 1) := by decide +kernel
theorem dL_act_235 : decode cL_act 235 = .ok (.iconst 3, 1) := by decide +kernel
theorem dL_act_236 : decode cL_act 236 = .ok (.idiv, 1) := by decide +kernel
theorem dL_act_237 : decode cL_act 237 = .ok (.bipush 30, 2) := by decide +kernel
theorem dL_act_239 : decode cL_act 239 = .ok (.irem, 1) := by decide +kernel
theorem dL_act_240 : decode cL_act 240 = .ok (.iadd, 1) := by decide +kernel
theorem dL_act_241 : decode cL_act 241 = .ok (.invokestatic 188, 3) := by decide +kernel
theorem dL_act_244 : decode cL_act 244 = .ok (.goto 37, 3) := by decide +kernel
theorem dL_act_247 : decode cL_act 247 = .ok (.iload_n 2, 1) := by decide +kernel
theorem dL_act_248 : decode cL_act 248 = .ok (.iconst 3, 1) := by decide +kernel
theorem dL_act_249 : decode cL_act 249 = .ok (.irem, 1) := by decide +kernel
theorem dL_act_250 : decode cL_act 250 = .ok (.iconst 1, 1) := by decide +kernel
theorem dL_act_251 : decode cL_act 251 = .ok (.if_icmp .ne 19, 3) := by decide +kernel
theorem dL_act_254 : decode cL_act 254 = .ok (.aload_n 0, 1) := by decide +kernel
theorem dL_act_255 : decode cL_act 255 = .ok (.bipush 10, 2) := by decide +kernel
theorem dL_act_257 : decode cL_act 257 = .ok (.iconst 1, 1) := by decide +kernel
theorem dL_act_258 : decode cL_act 258 = .ok (.iload_n 2, 1) := by decide +kernel
theorem dL_act_259 : decode cL_act 259 = .ok (.iconst 3, 1) := by decide +kernel
theorem dL_act_260 : decode cL_act 260 = .ok (.idiv, 1) := by decide +kernel
theorem dL_act_261 : decode cL_act 261 = .ok (.iconst 3, 1) := by decide +kernel
theorem dL_act_262 : decode cL_act 262 = .ok (.irem, 1) := by decide +kernel
theorem dL_act_263 : decode cL_act 263 = .ok (.iadd, 1) := by decide +kernel
theorem dL_act_264 : decode cL_act 264 = .ok (.invokestatic 188, 3) := by decide +kernel
theorem dL_act_267 : decode cL_act 267 = .ok (.goto 14, 3) := by decide +kernel
theorem dL_act_270 : decode cL_act 270 = .ok (.aload_n 0, 1) := by decide +kernel
theorem dL_act_271 : decode cL_act 271 = .ok (.bipush 11, 2) := by decide +kernel
theorem dL_act_273 : decode cL_act 273 = .ok (.iload_n 2, 1) := by decide +kernel
theorem dL_act_274 : decode cL_act 274 = .ok (.iconst 3, 1) := by decide +kernel
theorem dL_act_275 : decode cL_act 275 = .ok (.idiv, 1) := by decide +kernel
theorem dL_act_276 : decode cL_act 276 = .ok (.iconst 2, 1) := by decide +kernel
theorem dL_act_277 : decode cL_act 277 = .ok (.irem, 1) := by decide +kernel
theorem dL_act_278 : decode cL_act 278 = .ok (.invokestatic 188, 3) := by decide +kernel
theorem dL_act_281 : decode cL_act 281 = .ok (.lreturn, 1) := by decide +kernel
theorem dL_act_282 : decode cL_act 282 = .ok (.aload_n 0, 1) := by decide +kernel
theorem dL_act_283 : decode cL_act 283 = .ok (.iload_n 3, 1) := by decide +kernel
theorem dL_act_284 : decode cL_act 284 = .ok (.iload 4, 2) := by decide +kernel
theorem dL_act_286 : decode cL_act 286 = .ok (.invokestatic 190, 3) := by decide +kernel
theorem dL_act_289 : decode cL_act 289 = .ok (.lreturn, 1) := by decide +kernel
theorem dL_act_290 : decode cL_act 290 = .ok (.iload_n 2, 1) := by decide +kernel
theorem dL_act_291 : decode cL_act 291 = .ok (.iconst 3, 1) := by decide +kernel
theorem dL_act_292 : decode cL_act 292 = .ok (.irem, 1) := by decide +kernel
theorem dL_act_293 : decode cL_act 293 = .ok (.ifCond .ne 15, 3) := by decide +kernel
theorem dL_act_296 : decode cL_act 296 = .ok (.aload_n 0, 1) := by decide +kernel
theorem dL_act_297 : decode cL_act 297 = .ok (.iload_n 2, 1) := by decide +kernel
theorem dL_act_298 : decode cL_act 298 = .ok (.iconst 3, 1) := by decide +kernel
theorem dL_act_299 : decode cL_act 299 = .ok (.idiv, 1) := by decide +kernel
theorem dL_act_300 : decode cL_act 300 = .ok (.iconst 4, 1) := by decide +kernel
theorem dL_act_301 : decode cL_act 301 = .ok (.irem, 1) := by decide +kernel
theorem dL_act_302 : decode cL_act 302 = .ok (.invokestatic 192, 3) := by decide +kernel
theorem dL_act_305 : decode cL_act 305 = .ok (.goto 8, 3) := by decide +kernel
theorem dL_act_308 : decode cL_act 308 = .ok (.aload_n 0, 1) := by decide +kernel
theorem dL_act_309 : decode cL_act 309 = .ok (.invokevirtual 218, 3) := by decide +kernel
theorem dL_act_312 : decode cL_act 312 = .ok (.i2l, 1) := by decide +kernel
theorem dL_act_313 : decode cL_act 313 = .ok (.lreturn, 1) := by decide +kernel
theorem dL_act_314 : decode cL_act 314 = .ok (.aload_n 0, 1) := by decide +kernel
theorem dL_act_315 : decode cL_act 315 = .ok (.invokestatic 216, 3) := by decide +kernel
theorem dL_act_318 : decode cL_act 318 = .ok (.lreturn, 1) := by decide +kernel
theorem dL_act_319 : decode cL_act 319 = .ok (.iload_n 2, 1) := by decide +kernel
theorem dL_act_320 : decode cL_act 320 = .ok (.iconst 2, 1) := by decide +kernel
theorem dL_act_321 : decode cL_act 321 = .ok (.irem, 1) := by decide +kernel
theorem dL_act_322 : decode cL_act 322 = .ok (.ifCond .ne 15, 3) := by decide +kernel
theorem dL_act_325 : decode cL_act 325 = .ok (.aload_n 0, 1) := by decide +kernel
theorem dL_act_326 : decode cL_act 326 = .ok (.iload_n 2, 1) := by decide +kernel
theorem dL_act_327 : decode cL_act 327 = .ok (.iconst 2, 1) := by decide +kernel
theorem dL_act_328 : decode cL_act 328 = .ok (.idiv, 1) := by decide +kernel
theorem dL_act_329 : decode cL_act 329 = .ok (.iconst 1, 1) := by decide +kernel
theorem dL_act_330 : decode cL_act 330 = .ok (.iand, 1) := by decide +kernel
theorem dL_act_331 : decode cL_act 331 = .ok (.invokestatic 194, 3) := by decide +kernel
theorem dL_act_334 : decode cL_act 334 = .ok (.goto 12, 3) := by decide +kernel
theorem dL_act_337 : decode cL_act 337 = .ok (.aload_n 0, 1) := by decide +kernel
theorem dL_act_338 : decode cL_act 338 = .ok (.iload_n 2, 1) := by decide +kernel
theorem dL_act_339 : decode cL_act 339 = .ok (.iconst 2, 1) := by decide +kernel
theorem dL_act_340 : decode cL_act 340 = .ok (.idiv, 1) := by decide +kernel
theorem dL_act_341 : decode cL_act 341 = .ok (.iconst 1, 1) := by decide +kernel
theorem dL_act_342 : decode cL_act 342 = .ok (.iand, 1) := by decide +kernel
theorem dL_act_343 : decode cL_act 343 = .ok (.invokestatic 196, 3) := by decide +kernel
theorem dL_act_346 : decode cL_act 346 = .ok (.lreturn, 1) := by decide +kernel
theorem dL_law_0 : decode cL_law 0 = .ok (.new 10, 3) := by decide +kernel
theorem dL_law_3 : decode cL_law 3 = .ok (.dup, 1) := by decide +kernel
theorem dL_law_4 : decode cL_law 4 = .ok (.invokespecial 230, 3) := by decide +kernel
theorem dL_law_7 : decode cL_law 7 = .ok (.astore_n 1, 1) := by decide +kernel
theorem dL_law_8 : decode cL_law 8 = .ok (.new 10, 3) := by decide +kernel
theorem dL_law_11 : decode cL_law 11 = .ok (.dup, 1) := by decide +kernel
theorem dL_law_12 : decode cL_law 12 = .ok (.invokespecial 230, 3) := by decide +kernel
theorem dL_law_15 : decode cL_law 15 = .ok (.astore_n 2, 1) := by decide +kernel
theorem dL_law_16 : decode cL_law 16 = .ok (.aload_n 1, 1) := by decide +kernel
theorem dL_law_17 : decode cL_law 17 = .ok (.aload_n 2, 1) := by decide +kernel
theorem dL_law_18 : decode cL_law 18 = .ok (.aload_n 0, 1) := by decide +kernel
theorem dL_law_19 : decode cL_law 19 = .ok (.iconst 0, 1) := by decide +kernel
theorem dL_law_20 : decode cL_law 20 = .ok (.invokestatic 231, 3) := by decide +kernel
theorem dL_law_23 : decode cL_law 23 = .ok (.invokestatic 235, 3) := by decide +kernel
theorem dL_law_26 : decode cL_law 26 = .ok (.ifCond .eq 21, 3) := by decide +kernel
theorem dL_law_29 : decode cL_law 29 = .ok (.aload_n 1, 1) := by decide +kernel
theorem dL_law_30 : decode cL_law 30 = .ok (.invokestatic 239, 3) := by decide +kernel
theorem dL_law_33 : decode cL_law 33 = .ok (.ifCond .eq 14, 3) := by decide +kernel
theorem dL_law_36 : decode cL_law 36 = .ok (.aload_n 1, 1) := by decide +kernel
theorem dL_law_37 : decode cL_law 37 = .ok (.invokestatic 243, 3) := by decide +kernel
theorem dL_law_40 : decode cL_law 40 = .ok (.ifCond .eq 7, 3) := by decide +kernel
theorem dL_law_43 : decode cL_law 43 = .ok (.iconst 1, 1) := by decide +kernel
theorem dL_law_44 : decode cL_law 44 = .ok (.goto 4, 3) := by decide +kernel
theorem dL_law_47 : decode cL_law 47 = .ok (.iconst 0, 1) := by decide +kernel
theorem dL_law_48 : decode cL_law 48 = .ok (.istore_n 3, 1) := by decide +kernel
theorem dL_law_49 : decode cL_law 49 = .ok (.iconst 0, 1) := by decide +kernel
theorem dL_law_50 : decode cL_law 50 = .ok (.istore 4, 2) := by decide +kernel
theorem dL_law_52 : decode cL_law 52 = .ok (.iload 4, 2) := by decide +kernel
theorem dL_law_54 : decode cL_law 54 = .ok (.bipush 36, 2) := by decide +kernel
theorem dL_law_56 : decode cL_law 56 = .ok (.if_icmp .ge 220, 3) := by decide +kernel
theorem dL_law_59 : decode cL_law 59 = .ok (.iload_n 3, 1) := by decide +kernel
theorem dL_law_60 : decode cL_law 60 = .ok (.ifCond .eq 216, 3) := by decide +kernel
theorem dL_law_63 : decode cL_law 63 = .ok (.aload_n 0, 1) := by decide +kernel
theorem dL_law_64 : decode cL_law 64 = .ok (.iconst 2, 1) := by decide +kernel
theorem dL_law_65 : decode cL_law 65 = .ok (.iload 4, 2) := by decide +kernel
theorem dL_law_67 : decode cL_law 67 = .ok (.imul, 1) := by decide +kernel
theorem dL_law_68 : decode cL_law 68 = .ok (.invokestatic 231, 3) := by decide +kernel
theorem dL_law_71 : decode cL_law 71 = .ok (.istore 5, 2) := by decide +kernel
theorem dL_law_73 : decode cL_law 73 = .ok (.aload_n 0, 1) := by decide +kernel
theorem dL_law_74 : decode cL_law 74 = .ok (.iconst 2, 1) := by decide +kernel
theorem dL_law_75 : decode cL_law 75 = .ok (.iload 4, 2) := by decide +kernel
theorem dL_law_77 : decode cL_law 77 = .ok (.imul, 1) := by decide +kernel
theorem dL_law_78 : decode cL_law 78 = .ok (.iconst 1, 1) := by decide +kernel
theorem dL_law_79 : decode cL_law 79 = .ok (.iadd, 1) := by decide +kernel
theorem dL_law_80 : decode cL_law 80 = .ok (.invokestatic 231, 3) := by decide +kernel
theorem dL_law_83 : decode cL_law 83 = .ok (.istore 6, 2) := by decide +kernel
theorem dL_law_85 : decode cL_law 85 = .ok (.iload 4, 2) := by decide +kernel
theorem dL_law_87 : decode cL_law 87 = .ok (.bipush 18, 2) := by decide +kernel
theorem dL_law_89 : decode cL_law 89 = .ok (.irem, 1) := by decide +kernel
theorem dL_law_90 : decode cL_law 90 = .ok (.ifCond .ne 46, 3) := by decide +kernel
theorem dL_law_93 : decode cL_law 93 = .ok (.aload_n 1, 1) := by decide +kernel
theorem dL_law_94 : decode cL_law 94 = .ok (.iload 5, 2) := by decide +kernel
theorem dL_law_96 : decode cL_law 96 = .ok (.iload 6, 2) := by decide +kernel
theorem dL_law_98 : decode cL_law 98 = .ok (.invokestatic 224, 3) := by decide +kernel
theorem dL_law_101 : decode cL_law 101 = .ok (.ifCond .eq 30, 3) := by decide +kernel
theorem dL_law_104 : decode cL_law 104 = .ok (.aload_n 2, 1) := by decide +kernel
theorem dL_law_105 : decode cL_law 105 = .ok (.iload 5, 2) := by decide +kernel
theorem dL_law_107 : decode cL_law 107 = .ok (.iload 6, 2) := by decide +kernel
theorem dL_law_109 : decode cL_law 109 = .ok (.invokestatic 224, 3) := by decide +kernel
theorem dL_law_112 : decode cL_law 112 = .ok (.ifCond .eq 19, 3) := by decide +kernel
theorem dL_law_115 : decode cL_law 115 = .ok (.aload_n 1, 1) := by decide +kernel
theorem dL_law_116 : decode cL_law 116 = .ok (.invokestatic 246, 3) := by decide +kernel
theorem dL_law_119 : decode cL_law 119 = .ok (.aload_n 2, 1) := by decide +kernel
theorem dL_law_120 : decode cL_law 120 = .ok (.invokestatic 246, 3) := by decide +kernel
theorem dL_law_123 : decode cL_law 123 = .ok (.lcmp, 1) := by decide +kernel
theorem dL_law_124 : decode cL_law 124 = .ok (.ifCond .ne 7, 3) := by decide +kernel
theorem dL_law_127 : decode cL_law 127 = .ok (.iconst 1, 1) := by decide +kernel
theorem dL_law_128 : decode cL_law 128 = .ok (.goto 4, 3) := by decide +kernel
theorem dL_law_131 : decode cL_law 131 = .ok (.iconst 0, 1) := by decide +kernel
theorem dL_law_132 : decode cL_law 132 = .ok (.istore_n 3, 1) := by decide +kernel
theorem dL_law_133 : decode cL_law 133 = .ok (.goto 137, 3) := by decide +kernel
theorem dL_law_136 : decode cL_law 136 = .ok (.aload_n 1, 1) := by decide +kernel
theorem dL_law_137 : decode cL_law 137 = .ok (.iload 5, 2) := by decide +kernel
theorem dL_law_139 : decode cL_law 139 = .ok (.iload 6, 2) := by decide +kernel
theorem dL_law_141 : decode cL_law 141 = .ok (.invokestatic 248, 3) := by decide +kernel
theorem dL_law_144 : decode cL_law 144 = .ok (.aload_n 2, 1) := by decide +kernel
theorem dL_law_145 : decode cL_law 145 = .ok (.iload 5, 2) := by decide +kernel
theorem dL_law_147 : decode cL_law 147 = .ok (.iload 6, 2) := by decide +kernel
theorem dL_law_149 : decode cL_law 149 = .ok (.invokestatic 248, 3) := by decide +kernel
theorem dL_law_152 : decode cL_law 152 = .ok (.lcmp, 1) := by decide +kernel
theorem dL_law_153 : decode cL_law 153 = .ok (.ifCond .ne 7, 3) := by decide +kernel
theorem dL_law_156 : decode cL_law 156 = .ok (.iconst 1, 1) := by decide +kernel
theorem dL_law_157 : decode cL_law 157 = .ok (.goto 4, 3) := by decide +kernel
theorem dL_law_160 : decode cL_law 160 = .ok (.iconst 0, 1) := by decide +kernel
theorem dL_law_161 : decode cL_law 161 = .ok (.istore_n 3, 1) := by decide +kernel
theorem dL_law_162 : decode cL_law 162 = .ok (.iload 4, 2) := by decide +kernel
theorem dL_law_164 : decode cL_law 164 = .ok (.iconst 4, 1) := by decide +kernel
theorem dL_law_165 : decode cL_law 165 = .ok (.irem, 1) := by decide +kernel
theorem dL_law_166 : decode cL_law 166 = .ok (.ifCond .ne 27, 3) := by decide +kernel
theorem dL_law_169 : decode cL_law 169 = .ok (.iload_n 3, 1) := by decide +kernel
theorem dL_law_170 : decode cL_law 170 = .ok (.ifCond .eq 21, 3) := by decide +kernel
theorem dL_law_173 : decode cL_law 173 = .ok (.aload_n 2, 1) := by decide +kernel
theorem dL_law_174 : decode cL_law 174 = .ok (.invokestatic 239, 3) := by decide +kernel
theorem dL_law_177 : decode cL_law 177 = .ok (.ifCond .eq 14, 3) := by decide +kernel
theorem dL_law_180 : decode cL_law 180 = .ok (.aload_n 2, 1) := by decide +kernel
theorem dL_law_181 : decode cL_law 181 = .ok (.invokestatic 243, 3) := by decide +kernel
theorem dL_law_184 : decode cL_law 184 = .ok (.ifCond .eq 7, 3) := by decide +kernel
theorem dL_law_187 : decode cL_law 187 = .ok (.iconst 1, 1) := by decide +kernel
theorem dL_law_188 : decode cL_law 188 = .ok (.goto 4, 3) := by decide +kernel
theorem dL_law_191 : decode cL_law 191 = .ok (.iconst 0, 1) := by decide +kernel
theorem dL_law_192 : decode cL_law 192 = .ok (.istore_n 3, 1) := by decide +kernel
theorem dL_law_193 : decode cL_law 193 = .ok (.iload 4, 2) := by decide +kernel
theorem dL_law_195 : decode cL_law 195 = .ok (.bipush 18, 2) := by decide +kernel
theorem dL_law_197 : decode cL_law 197 = .ok (.irem, 1) := by decide +kernel
theorem dL_law_198 : decode cL_law 198 = .ok (.bipush 17, 2) := by decide +kernel
theorem dL_law_200 : decode cL_law 200 = .ok (.if_icmp .ne 42, 3) := by decide +kernel
theorem dL_law_203 : decode cL_law 203 = .ok (.iload_n 3, 1) := by decide +kernel
theorem dL_law_204 : decode cL_law 204 = .ok (.ifCond .eq 36, 3) := by decide +kernel
theorem dL_law_207 : decode cL_law 207 = .ok (.aload_n 2, 1) := by decide +kernel
theorem dL_law_208 : decode cL_law 208 = .ok (.iload 6, 2) := by decide +kernel
theorem dL_law_210 : decode cL_law 210 = .ok (.invokestatic 251, 3) := by decide +kernel
theorem dL_law_213 : decode cL_law 213 = .ok (.ifCond .eq 27, 3) := by decide +kernel
theorem dL_law_216 : decode cL_law 216 = .ok (.aload_n 1, 1) := by decide +kernel
theorem dL_law_217 : decode cL_law 217 = .ok (.iconst 1, 1) := by decide +kernel
theorem dL_law_218 : decode cL_law 218 = .ok (.invokestatic 194, 3) := by decide +kernel
theorem dL_law_221 : decode cL_law 221 = .ok (.lconst 0, 1) := by decide +kernel
theorem dL_law_222 : decode cL_law 222 = .ok (.lcmp, 1) := by decide +kernel
theorem dL_law_223 : decode cL_law 223 = .ok (.ifCond .lt 17, 3) := by decide +kernel
theorem dL_law_226 : decode cL_law 226 = .ok (.aload_n 1, 1) := by decide +kernel
theorem dL_law_227 : decode cL_law 227 = .ok (.iconst 1, 1) := by decide +kernel
theorem dL_law_228 : decode cL_law 228 = .ok (.invokestatic 196, 3) := by decide +kernel
theorem dL_law_231 : decode cL_law 231 = .ok (.lconst 0, 1) := by decide +kernel
theorem dL_law_232 : decode cL_law 232 = .ok (.lcmp, 1) := by decide +kernel
theorem dL_law_233 : decode cL_law 233 = .ok (.ifCond .lt 7, 3) := by decide +kernel
theorem dL_law_236 : decode cL_law 236 = .ok (.iconst 1, 1) := by decide +kernel
theorem dL_law_237 : decode cL_law 237 = .ok (.goto 4, 3) := by decide +kernel
theorem dL_law_240 : decode cL_law 240 = .ok (.iconst 0, 1) := by decide +kernel
theorem dL_law_241 : decode cL_law 241 = .ok (.istore_n 3, 1) := by decide +kernel
theorem dL_law_242 : decode cL_law 242 = .ok (.iload_n 3, 1) := by decide +kernel
theorem dL_law_243 : decode cL_law 243 = .ok (.ifCond .eq 25, 3) := by decide +kernel
theorem dL_law_246 : decode cL_law 246 = .ok (.iload 4, 2) := by decide +kernel
theorem dL_law_248 : decode cL_law 248 = .ok (.bipush 6, 2) := by decide +kernel
theorem dL_law_250 : decode cL_law 250 = .ok (.irem, 1) := by decide +kernel
theorem dL_law_251 : decode cL_law 251 = .ok (.ifCond .gt 13, 3) := by decide +kernel
theorem dL_law_254 : decode cL_law 254 = .ok (.aload_n 1, 1) := by decide +kernel
theorem dL_law_255 : decode cL_law 255 = .ok (.aload_n 2, 1) := by decide +kernel
theorem dL_law_256 : decode cL_law 256 = .ok (.iload 6, 2) := by decide +kernel
theorem dL_law_258 : decode cL_law 258 = .ok (.invokestatic 235, 3) := by decide +kernel
theorem dL_law_261 : decode cL_law 261 = .ok (.ifCond .eq 7, 3) := by decide +kernel
theorem dL_law_264 : decode cL_law 264 = .ok (.iconst 1, 1) := by decide +kernel
theorem dL_law_265 : decode cL_law 265 = .ok (.goto 4, 3) := by decide +kernel
theorem dL_law_268 : decode cL_law 268 = .ok (.iconst 0, 1) := by decide +kernel
theorem dL_law_269 : decode cL_law 269 = .ok (.istore_n 3, 1) := by decide +kernel
theorem dL_law_270 : decode cL_law 270 = .ok (.iinc 4 1, 3) := by decide +kernel
theorem dL_law_273 : decode cL_law 273 = .ok (.goto (-221), 3) := by decide +kernel
theorem dL_law_276 : decode cL_law 276 = .ok (.iload_n 3, 1) := by decide +kernel
theorem dL_law_277 : decode cL_law 277 = .ok (.ifCond .eq 17, 3) := by decide +kernel
theorem dL_law_280 : decode cL_law 280 = .ok (.aload_n 1, 1) := by decide +kernel
theorem dL_law_281 : decode cL_law 281 = .ok (.aload_n 2, 1) := by decide +kernel
theorem dL_law_282 : decode cL_law 282 = .ok (.ldc 255, 2) := by decide +kernel
theorem dL_law_284 : decode cL_law 284 = .ok (.invokestatic 235, 3) := by decide +kernel
theorem dL_law_287 : decode cL_law 287 = .ok (.ifCond .eq 7, 3) := by decide +kernel
theorem dL_law_290 : decode cL_law 290 = .ok (.iconst 1, 1) := by decide +kernel
theorem dL_law_291 : decode cL_law 291 = .ok (.goto 4, 3) := by decide +kernel
theorem dL_law_294 : decode cL_law 294 = .ok (.iconst 0, 1) := by decide +kernel
theorem dL_law_295 : decode cL_law 295 = .ok (.ireturn, 1) := by decide +kernel
