theorem dL_errors_0 : decode cL_errors 0 = .ok (.aload_n 0, 1) := by decide +kernel
theorem dL_errors_1 : decode cL_errors 1 = .ok (.invokestatic 142, 3) := by decide +kernel
theorem dL_errors_4 : decode cL_errors 4 = .ok (.lstore_n 1, 1) := by decide +kernel
theorem dL_errors_5 : decode cL_errors 5 = .ok (.aload_n 0, 1) := by decide +kernel
theorem dL_errors_6 : decode cL_errors 6 = .ok (.invokestatic 120, 3) := by decide +kernel
theorem dL_errors_9 : decode cL_errors 9 = .ok (.istore_n 3, 1) := by decide +kernel
theorem dL_errors_10 : decode cL_errors 10 = .ok (.aload_n 0, 1) := by decide +kernel
theorem dL_errors_11 : decode cL_errors 11 = .ok (.bipush 7, 2) := by decide +kernel
theorem dL_errors_13 : decode cL_errors 13 = .ok (.invokestatic 109, 3) := by decide +kernel
theorem dL_errors_16 : decode cL_errors 16 = .ok (.l2i, 1) := by decide +kernel
theorem dL_errors_17 : decode cL_errors 17 = .ok (.istore 4, 2) := by decide +kernel
theorem dL_errors_19 : decode cL_errors 19 = .ok (.aload_n 0, 1) := by decide +kernel
theorem dL_errors_20 : decode cL_errors 20 = .ok (.iconst 5, 1) := by decide +kernel
theorem dL_errors_21 : decode cL_errors 21 = .ok (.invokestatic 109, 3) := by decide +kernel
theorem dL_errors_24 : decode cL_errors 24 = .ok (.l2i, 1) := by decide +kernel
theorem dL_errors_25 : decode cL_errors 25 = .ok (.istore 5, 2) := by decide +kernel
theorem dL_errors_27 : decode cL_errors 27 = .ok (.aload_n 0, 1) := by decide +kernel
theorem dL_errors_28 : decode cL_errors 28 = .ok (.iconst (-1), 1) := by decide +kernel
theorem dL_errors_29 : decode cL_errors 29 = .ok (.invokestatic 174, 3) := by decide +kernel
theorem dL_errors_32 : decode cL_errors 32 = .ok (.ldc2_w 17, 3) := by decide +kernel
theorem dL_errors_35 : decode cL_errors 35 = .ok (.lcmp, 1) := by decide +kernel
theorem dL_errors_36 : decode cL_errors 36 = .ok (.ifCond .ne 343, 3) := by decide +kernel
theorem dL_errors_39 : decode cL_errors 39 = .ok (.aload_n 0, 1) := by decide +kernel
theorem dL_errors_40 : decode cL_errors 40 = .ok (.sipush 256, 3) := by decide +kernel
theorem dL_errors_43 : decode cL_errors 43 = .ok (.invokestatic 174, 3) := by decide +kernel
theorem dL_errors_46 : decode cL_errors 46 = .ok (.ldc2_w 17, 3) := by decide +kernel
theorem dL_errors_49 : decode cL_errors 49 = .ok (.lcmp, 1) := by decide +kernel
theorem dL_errors_50 : decode cL_errors 50 = .ok (.ifCond .ne 329, 3) := by decide +kernel
theorem dL_errors_53 : decode cL_errors 53 = .ok (.aload_n 0, 1) := by decide +kernel
theorem dL_errors_54 : decode cL_errors 54 = .ok (.bipush 12, 2) := by decide +kernel
theorem dL_errors_56 : decode cL_errors 56 = .ok (.invokestatic 109, 3) := by decide +kernel
theorem dL_errors_59 : decode cL_errors 59 = .ok (.ldc2_w 17, 3) := by decide +kernel
theorem dL_errors_62 : decode cL_errors 62 = .ok (.lcmp, 1) := by decide +kernel
theorem dL_errors_63 : decode cL_errors 63 = .ok (.ifCond .ne 316, 3) := by decide +kernel
theorem dL_errors_66 : decode cL_errors 66 = .ok (.aload_n 0, 1) := by decide +kernel
theorem dL_errors_67 : decode cL_errors 67 = .ok (.iload_n 3, 1) := by decide +kernel
theorem dL_errors_68 : decode cL_errors 68 = .ok (.bipush 8, 2) := by decide +kernel
theorem dL_errors_70 : decode cL_errors 70 = .ok (.invokestatic 124, 3) := by decide +kernel
theorem dL_errors_73 : decode cL_errors 73 = .ok (.ldc2_w 36, 3) := by decide +kernel
theorem dL_errors_76 : decode cL_errors 76 = .ok (.lcmp, 1) := by decide +kernel
theorem dL_errors_77 : decode cL_errors 77 = .ok (.ifCond .ne 302, 3) := by decide +kernel
theorem dL_errors_80 : decode cL_errors 80 = .ok (.aload_n 0, 1) := by decide +kernel
theorem dL_errors_81 : decode cL_errors 81 = .ok (.iload_n 3, 1) := by decide +kernel
theorem dL_errors_82 : decode cL_errors 82 = .ok (.iconst 0, 1) := by decide +kernel
theorem dL_errors_83 : decode cL_errors 83 = .ok (.iconst 4, 1) := by decide +kernel
theorem dL_errors_84 : decode cL_errors 84 = .ok (.invokestatic 134, 3) := by decide +kernel
theorem dL_errors_87 : decode cL_errors 87 = .ok (.ldc2_w 36, 3) := by decide +kernel
theorem dL_errors_90 : decode cL_errors 90 = .ok (.lcmp, 1) := by decide +kernel
theorem dL_errors_91 : decode cL_errors 91 = .ok (.ifCond .ne 288, 3) := by decide +kernel
theorem dL_errors_94 : decode cL_errors 94 = .ok (.aload_n 0, 1) := by decide +kernel
theorem dL_errors_95 : decode cL_errors 95 = .ok (.iconst (-1), 1) := by decide +kernel
theorem dL_errors_96 : decode cL_errors 96 = .ok (.iconst 0, 1) := by decide +kernel
theorem dL_errors_97 : decode cL_errors 97 = .ok (.iconst 1, 1) := by decide +kernel
theorem dL_errors_98 : decode cL_errors 98 = .ok (.iconst (-1), 1) := by decide +kernel
theorem dL_errors_99 : decode cL_errors 99 = .ok (.invokestatic 127, 3) := by decide +kernel
theorem dL_errors_102 : decode cL_errors 102 = .ok (.ldc2_w 36, 3) := by decide +kernel
theorem dL_errors_105 : decode cL_errors 105 = .ok (.lcmp, 1) := by decide +kernel
theorem dL_errors_106 : decode cL_errors 106 = .ok (.ifCond .ne 273, 3) := by decide +kernel
theorem dL_errors_109 : decode cL_errors 109 = .ok (.aload_n 0, 1) := by decide +kernel
theorem dL_errors_110 : decode cL_errors 110 = .ok (.iload 4, 2) := by decide +kernel
theorem dL_errors_112 : decode cL_errors 112 = .ok (.iconst 0, 1) := by decide +kernel
theorem dL_errors_113 : decode cL_errors 113 = .ok (.iconst (-1), 1) := by decide +kernel
theorem dL_errors_114 : decode cL_errors 114 = .ok (.invokestatic 139, 3) := by decide +kernel
theorem dL_errors_117 : decode cL_errors 117 = .ok (.ldc2_w 36, 3) := by decide +kernel
theorem dL_errors_120 : decode cL_errors 120 = .ok (.lcmp, 1) := by decide +kernel
theorem dL_errors_121 : decode cL_errors 121 = .ok (.ifCond .ne 258, 3) := by decide +kernel
theorem dL_errors_124 : decode cL_errors 124 = .ok (.aload_n 0, 1) := by decide +kernel
theorem dL_errors_125 : decode cL_errors 125 = .ok (.iload 5, 2) := by decide +kernel
theorem dL_errors_127 : decode cL_errors 127 = .ok (.iconst 3, 1) := by decide +kernel
theorem dL_errors_128 : decode cL_errors 128 = .ok (.invokestatic 161, 3) := by decide +kernel
theorem dL_errors_131 : decode cL_errors 131 = .ok (.ldc2_w 36, 3) := by decide +kernel
theorem dL_errors_134 : decode cL_errors 134 = .ok (.lcmp, 1) := by decide +kernel
theorem dL_errors_135 : decode cL_errors 135 = .ok (.ifCond .ne 244, 3) := by decide +kernel
theorem dL_errors_138 : decode cL_errors 138 = .ok (.aload_n 0, 1) := by decide +kernel
theorem dL_errors_139 : decode cL_errors 139 = .ok (.iload 5, 2) := by decide +kernel
theorem dL_errors_141 : decode cL_errors 141 = .ok (.iconst (-1), 1) := by decide +kernel
theorem dL_errors_142 : decode cL_errors 142 = .ok (.invokestatic 163, 3) := by decide +kernel
theorem dL_errors_145 : decode cL_errors 145 = .ok (.ldc2_w 36, 3) := by decide +kernel
theorem dL_errors_148 : decode cL_errors 148 = .ok (.lcmp, 1) := by decide +kernel
theorem dL_errors_149 : decode cL_errors 149 = .ok (.ifCond .ne 230, 3) := by decide +kernel
theorem dL_errors_152 : decode cL_errors 152 = .ok (.aload_n 0, 1) := by decide +kernel
theorem dL_errors_153 : decode cL_errors 153 = .ok (.iload_n 3, 1) := by decide +kernel
theorem dL_errors_154 : decode cL_errors 154 = .ok (.iconst 1, 1) := by decide +kernel
theorem dL_errors_155 : decode cL_errors 155 = .ok (.iadd, 1) := by decide +kernel
theorem dL_errors_156 : decode cL_errors 156 = .ok (.invokestatic 176, 3) := by decide +kernel
theorem dL_errors_159 : decode cL_errors 159 = .ok (.ldc2_w 36, 3) := by decide +kernel
theorem dL_errors_162 : decode cL_errors 162 = .ok (.lcmp, 1) := by decide +kernel
theorem dL_errors_163 : decode cL_errors 163 = .ok (.ifCond .ne 216, 3) := by decide +kernel
theorem dL_errors_166 : decode cL_errors 166 = .ok (.aload_n 0, 1) := by decide +kernel
theorem dL_errors_167 : decode cL_errors 167 = .ok (.iconst (-1), 1) := by decide +kernel
theorem dL_errors_168 : decode cL_errors 168 = .ok (.invokestatic 176, 3) := by decide +kernel
theorem dL_errors_171 : decode cL_errors 171 = .ok (.ldc2_w 36, 3) := by decide +kernel
theorem dL_errors_174 : decode cL_errors 174 = .ok (.lcmp, 1) := by decide +kernel
theorem dL_errors_175 : decode cL_errors 175 = .ok (.ifCond .ne 204, 3) := by decide +kernel
theorem dL_errors_178 : decode cL_errors 178 = .ok (.aload_n 0, 1) := by decide +kernel
theorem dL_errors_179 : decode cL_errors 179 = .ok (.iload_n 3, 1) := by decide +kernel
theorem dL_errors_180 : decode cL_errors 180 = .ok (.invokestatic 178, 3) := by decide +kernel
theorem dL_errors_183 : decode cL_errors 183 = .ok (.ldc2_w 36, 3) := by decide +kernel
theorem dL_errors_186 : decode cL_errors 186 = .ok (.lcmp, 1) := by decide +kernel
theorem dL_errors_187 : decode cL_errors 187 = .ok (.ifCond .ne 192, 3) := by decide +kernel
theorem dL_errors_190 : decode cL_errors 190 = .ok (.aload_n 0, 1) := by decide +kernel
theorem dL_errors_191 : decode cL_errors 191 = .ok (.iload_n 3, 1) := by decide +kernel
theorem dL_errors_192 : decode cL_errors 192 = .ok (.invokestatic 180, 3) := by decide +kernel
theorem dL_errors_195 : decode cL_errors 195 = .ok (.ldc2_w 36, 3) := by decide +kernel
theorem dL_errors_198 : decode cL_errors 198 = .ok (.lcmp, 1) := by decide +kernel
theorem dL_errors_199 : decode cL_errors 199 = .ok (.ifCond .ne 180, 3) := by decide +kernel
theorem dL_errors_202 : decode cL_errors 202 = .ok (.aload_n 0, 1) := by decide +kernel
theorem dL_errors_203 : decode cL_errors 203 = .ok (.iload_n 3, 1) := by decide +kernel
theorem dL_errors_204 : decode cL_errors 204 = .ok (.invokestatic 182, 3) := by decide +kernel
theorem dL_errors_207 : decode cL_errors 207 = .ok (.ldc2_w 36, 3) := by decide +kernel
theorem dL_errors_210 : decode cL_errors 210 = .ok (.lcmp, 1) := by decide +kernel
theorem dL_errors_211 : decode cL_errors 211 = .ok (.ifCond .ne 168, 3) := by decide +kernel
theorem dL_errors_214 : decode cL_errors 214 = .ok (.aload_n 0, 1) := by decide +kernel
theorem dL_errors_215 : decode cL_errors 215 = .ok (.iload_n 3, 1) := by decide +kernel
theorem dL_errors_216 : decode cL_errors 216 = .ok (.invokestatic 184, 3) := by decide +kernel
theorem dL_errors_219 : decode cL_errors 219 = .ok (.ldc2_w 36, 3) := by decide +kernel
theorem dL_errors_222 : decode cL_errors 222 = .ok (.lcmp, 1) := by decide +kernel
theorem dL_errors_223 : decode cL_errors 223 = .ok (.ifCond .ne 156, 3) := by decide +kernel
theorem dL_errors_226 : decode cL_errors 226 = .ok (.aload_n 0, 1) := by decide +kernel
theorem dL_errors_227 : decode cL_errors 227 = .ok (.iload_n 3, 1) := by decide +kernel
theorem dL_errors_228 : decode cL_errors 228 = .ok (.iconst 0, 1) := by decide +kernel
theorem dL_errors_229 : decode cL_errors 229 = .ok (.invokestatic 186, 3) := by decide +kernel
theorem dL_errors_232 : decode cL_errors 232 = .ok (.ldc2_w 36, 3) := by decide +kernel
theorem dL_errors_235 : decode cL_errors 235 = .ok (.lcmp, 1) := by decide +kernel
theorem dL_errors_236 : decode cL_errors 236 = .ok (.ifCond .ne 143, 3) := by decide +kernel
theorem dL_errors_239 : decode cL_errors 239 = .ok (.aload_n 0, 1) := by decide +kernel
theorem dL_errors_240 : decode cL_errors 240 = .ok (.bipush 8, 2) := by decide +kernel
theorem dL_errors_242 : decode cL_errors 242 = .ok (.iconst 1, 1) := by decide +kernel
theorem dL_errors_243 : decode cL_errors 243 = .ok (.invokestatic 188, 3) := by decide +kernel
theorem dL_errors_246 : decode cL_errors 246 = .ok (.ldc2_w 17, 3) := by decide +kernel
theorem dL_errors_249 : decode cL_errors 249 = .ok (.lcmp, 1) := by decide +kernel
theorem dL_errors_250 : decode cL_errors 250 = .ok (.ifCond .ne 129, 3) := by decide +kernel
theorem dL_errors_253 : decode cL_errors 253 = .ok (.aload_n 0, 1) := by decide +kernel
theorem dL_errors_254 : decode cL_errors 254 = .ok (.bipush 9, 2) := by decide +kernel
theorem dL_errors_256 : decode cL_errors 256 = .ok (.bipush 9, 2) := by decide +kernel
theorem dL_errors_258 : decode cL_errors 258 = .ok (.invokestatic 188, 3) := by decide +kernel
theorem dL_errors_261 : decode cL_errors 261 = .ok (.ldc2_w 17, 3) := by decide +kernel
theorem dL_errors_264 : decode cL_errors 264 = .ok (.lcmp, 1) := by decide +kernel
theorem dL_errors_265 : decode cL_errors 265 = .ok (.ifCond .ne 114, 3) := by decide +kernel
theorem dL_errors_268 : decode cL_errors 268 = .ok (.aload_n 0, 1) := by decide +kernel
theorem dL_errors_269 : decode cL_errors 269 = .ok (.bipush 10, 2) := by decide +kernel
theorem dL_errors_271 : decode cL_errors 271 = .ok (.iconst 4, 1) := by decide +kernel
theorem dL_errors_272 : decode cL_errors 272 = .ok (.invokestatic 188, 3) := by decide +kernel
theorem dL_errors_275 : decode cL_errors 275 = .ok (.ldc2_w 17, 3) := by decide +kernel
theorem dL_errors_278 : decode cL_errors 278 = .ok (.lcmp, 1) := by decide +kernel
theorem dL_errors_279 : decode cL_errors 279 = .ok (.ifCond .ne 100, 3) := by decide +kernel
theorem dL_errors_282 : decode cL_errors 282 = .ok (.aload_n 0, 1) := by decide +kernel
theorem dL_errors_283 : decode cL_errors 283 = .ok (.bipush 11, 2) := by decide +kernel
theorem dL_errors_285 : decode cL_errors 285 = .ok (.iconst 2, 1) := by decide +kernel
theorem dL_errors_286 : decode cL_errors 286 = .ok (.invokestatic 188, 3) := by decide +kernel
theorem dL_errors_289 : decode cL_errors 289 = .ok (.ldc2_w 17, 3) := by decide +kernel
theorem dL_errors_292 : decode cL_errors 292 = .ok (.lcmp, 1) := by decide +kernel
theorem dL_errors_293 : decode cL_errors 293 = .ok (.ifCond .ne 86, 3) := by decide +kernel
theorem dL_errors_296 : decode cL_errors 296 = .ok (.aload_n 0, 1) := by decide +kernel
theorem dL_errors_297 : decode cL_errors 297 = .ok (.iload_n 3, 1) := by decide +kernel
theorem dL_errors_298 : decode cL_errors 298 = .ok (.iconst 0, 1) := by decide +kernel
theorem dL_errors_299 : decode cL_errors 299 = .ok (.invokestatic 190, 3) := by decide +kernel
theorem dL_errors_302 : decode cL_errors 302 = .ok (.ldc2_w 36, 3) := by decide +kernel
theorem dL_errors_305 : decode cL_errors 305 = .ok (.lcmp, 1) := by decide +kernel
theorem dL_errors_306 : decode cL_errors 306 = .ok (.ifCond .ne 73, 3) := by decide +kernel
theorem dL_errors_309 : decode cL_errors 309 = .ok (.aload_n 0, 1) := by decide +kernel
theorem dL_errors_310 : decode cL_errors 310 = .ok (.iload 4, 2) := by decide +kernel
theorem dL_errors_312 : decode cL_errors 312 = .ok (.invokestatic 192, 3) := by decide +kernel
theorem dL_errors_315 : decode cL_errors 315 = .ok (.ldc2_w 36, 3) := by decide +kernel
theorem dL_errors_318 : decode cL_errors 318 = .ok (.lcmp, 1) := by decide +kernel
theorem dL_errors_319 : decode cL_errors 319 = .ok (.ifCond .ne 60, 3) := by decide +kernel
theorem dL_errors_322 : decode cL_errors 322 = .ok (.aload_n 0, 1) := by decide +kernel
theorem dL_errors_323 : decode cL_errors 323 = .ok (.iconst (-1), 1) := by decide +kernel
theorem dL_errors_324 : decode cL_errors 324 = .ok (.invokestatic 149, 3) := by decide +kernel
theorem dL_errors_327 : decode cL_errors 327 = .ok (.ldc2_w 17, 3) := by decide +kernel
theorem dL_errors_330 : decode cL_errors 330 = .ok (.lcmp, 1) := by decide +kernel
theorem dL_errors_331 : decode cL_errors 331 = .ok (.ifCond .ne 48, 3) := by decide +kernel
theorem dL_errors_334 : decode cL_errors 334 = .ok (.aload_n 0, 1) := by decide +kernel
theorem dL_errors_335 : decode cL_errors 335 = .ok (.bipush 100, 2) := by decide +kernel
theorem dL_errors_337 : decode cL_errors 337 = .ok (.invokestatic 154, 3) := by decide +kernel
theorem dL_errors_340 : decode cL_errors 340 = .ok (.ldc2_w 17, 3) := by decide +kernel
theorem dL_errors_343 : decode cL_errors 343 = .ok (.lcmp, 1) := by decide +kernel
theorem dL_errors_344 : decode cL_errors 344 = .ok (.ifCond .ne 35, 3) := by decide +kernel
theorem dL_errors_347 : decode cL_errors 347 = .ok (.aload_n 0, 1) := by decide +kernel
theorem dL_errors_348 : decode cL_errors 348 = .ok (.bipush 61, 2) := by decide +kernel
theorem dL_errors_350 : decode cL_errors 350 = .ok (.iconst 0, 1) := by decide +kernel
theorem dL_errors_351 : decode cL_errors 351 = .ok (.invokestatic 159, 3) := by decide +kernel
theorem dL_errors_354 : decode cL_errors 354 = .ok (.ldc2_w 17, 3) := by decide +kernel
theorem dL_errors_357 : decode cL_errors 357 = .ok (.lcmp, 1) := by decide +kernel
theorem dL_errors_358 : decode cL_errors 358 = .ok (.ifCond .ne 21, 3) := by decide +kernel
theorem dL_errors_361 : decode cL_errors 361 = .ok (.aload_n 0, 1) := by decide +kernel
theorem dL_errors_362 : decode cL_errors 362 = .ok (.bipush 10, 2) := by decide +kernel
