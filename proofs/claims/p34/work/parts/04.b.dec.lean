theorem dL_now_0 : decode cL_now 0 = .ok (.ldc2_w 114, 3) := by decide +kernel
theorem dL_now_3 : decode cL_now 3 = .ok (.lstore_n 1, 1) := by decide +kernel
theorem dL_now_4 : decode cL_now 4 = .ok (.iconst 0, 1) := by decide +kernel
theorem dL_now_5 : decode cL_now 5 = .ok (.istore_n 3, 1) := by decide +kernel
theorem dL_now_6 : decode cL_now 6 = .ok (.iload_n 3, 1) := by decide +kernel
theorem dL_now_7 : decode cL_now 7 = .ok (.bipush 12, 2) := by decide +kernel
theorem dL_now_9 : decode cL_now 9 = .ok (.if_icmp .ge 25, 3) := by decide +kernel
theorem dL_now_12 : decode cL_now 12 = .ok (.ldc2_w 116, 3) := by decide +kernel
theorem dL_now_15 : decode cL_now 15 = .ok (.lload_n 1, 1) := by decide +kernel
theorem dL_now_16 : decode cL_now 16 = .ok (.lmul, 1) := by decide +kernel
theorem dL_now_17 : decode cL_now 17 = .ok (.aload_n 0, 1) := by decide +kernel
theorem dL_now_18 : decode cL_now 18 = .ok (.iload_n 3, 1) := by decide +kernel
theorem dL_now_19 : decode cL_now 19 = .ok (.invokestatic 109, 3) := by decide +kernel
theorem dL_now_22 : decode cL_now 22 = .ok (.ladd, 1) := by decide +kernel
theorem dL_now_23 : decode cL_now 23 = .ok (.ldc2_w 118, 3) := by decide +kernel
theorem dL_now_26 : decode cL_now 26 = .ok (.lrem, 1) := by decide +kernel
theorem dL_now_27 : decode cL_now 27 = .ok (.lstore_n 1, 1) := by decide +kernel
theorem dL_now_28 : decode cL_now 28 = .ok (.iinc 3 1, 3) := by decide +kernel
theorem dL_now_31 : decode cL_now 31 = .ok (.goto (-25), 3) := by decide +kernel
theorem dL_now_34 : decode cL_now 34 = .ok (.iconst 0, 1) := by decide +kernel
theorem dL_now_35 : decode cL_now 35 = .ok (.istore_n 3, 1) := by decide +kernel
theorem dL_now_36 : decode cL_now 36 = .ok (.iload_n 3, 1) := by decide +kernel
theorem dL_now_37 : decode cL_now 37 = .ok (.aload_n 0, 1) := by decide +kernel
theorem dL_now_38 : decode cL_now 38 = .ok (.invokestatic 120, 3) := by decide +kernel
theorem dL_now_41 : decode cL_now 41 = .ok (.if_icmp .ge 144, 3) := by decide +kernel
theorem dL_now_44 : decode cL_now 44 = .ok (.iconst 0, 1) := by decide +kernel
theorem dL_now_45 : decode cL_now 45 = .ok (.istore 4, 2) := by decide +kernel
theorem dL_now_47 : decode cL_now 47 = .ok (.iload 4, 2) := by decide +kernel
theorem dL_now_49 : decode cL_now 49 = .ok (.bipush 8, 2) := by decide +kernel
theorem dL_now_51 : decode cL_now 51 = .ok (.if_icmp .ge 27, 3) := by decide +kernel
theorem dL_now_54 : decode cL_now 54 = .ok (.ldc2_w 116, 3) := by decide +kernel
theorem dL_now_57 : decode cL_now 57 = .ok (.lload_n 1, 1) := by decide +kernel
theorem dL_now_58 : decode cL_now 58 = .ok (.lmul, 1) := by decide +kernel
theorem dL_now_59 : decode cL_now 59 = .ok (.aload_n 0, 1) := by decide +kernel
theorem dL_now_60 : decode cL_now 60 = .ok (.iload_n 3, 1) := by decide +kernel
theorem dL_now_61 : decode cL_now 61 = .ok (.iload 4, 2) := by decide +kernel
theorem dL_now_63 : decode cL_now 63 = .ok (.invokestatic 124, 3) := by decide +kernel
theorem dL_now_66 : decode cL_now 66 = .ok (.ladd, 1) := by decide +kernel
theorem dL_now_67 : decode cL_now 67 = .ok (.ldc2_w 118, 3) := by decide +kernel
theorem dL_now_70 : decode cL_now 70 = .ok (.lrem, 1) := by decide +kernel
theorem dL_now_71 : decode cL_now 71 = .ok (.lstore_n 1, 1) := by decide +kernel
theorem dL_now_72 : decode cL_now 72 = .ok (.iinc 4 1, 3) := by decide +kernel
theorem dL_now_75 : decode cL_now 75 = .ok (.goto (-28), 3) := by decide +kernel
theorem dL_now_78 : decode cL_now 78 = .ok (.iconst 0, 1) := by decide +kernel
theorem dL_now_79 : decode cL_now 79 = .ok (.istore 4, 2) := by decide +kernel
theorem dL_now_81 : decode cL_now 81 = .ok (.iload 4, 2) := by decide +kernel
theorem dL_now_83 : decode cL_now 83 = .ok (.i2l, 1) := by decide +kernel
theorem dL_now_84 : decode cL_now 84 = .ok (.aload_n 0, 1) := by decide +kernel
theorem dL_now_85 : decode cL_now 85 = .ok (.iload_n 3, 1) := by decide +kernel
theorem dL_now_86 : decode cL_now 86 = .ok (.iconst 0, 1) := by decide +kernel
theorem dL_now_87 : decode cL_now 87 = .ok (.invokestatic 124, 3) := by decide +kernel
theorem dL_now_90 : decode cL_now 90 = .ok (.lcmp, 1) := by decide +kernel
theorem dL_now_91 : decode cL_now 91 = .ok (.ifCond .ge 88, 3) := by decide +kernel
theorem dL_now_94 : decode cL_now 94 = .ok (.iconst 0, 1) := by decide +kernel
theorem dL_now_95 : decode cL_now 95 = .ok (.istore 5, 2) := by decide +kernel
theorem dL_now_97 : decode cL_now 97 = .ok (.iload 5, 2) := by decide +kernel
theorem dL_now_99 : decode cL_now 99 = .ok (.bipush 8, 2) := by decide +kernel
theorem dL_now_101 : decode cL_now 101 = .ok (.if_icmp .ge 49, 3) := by decide +kernel
theorem dL_now_104 : decode cL_now 104 = .ok (.ldc2_w 116, 3) := by decide +kernel
theorem dL_now_107 : decode cL_now 107 = .ok (.lload_n 1, 1) := by decide +kernel
theorem dL_now_108 : decode cL_now 108 = .ok (.lmul, 1) := by decide +kernel
theorem dL_now_109 : decode cL_now 109 = .ok (.aload_n 0, 1) := by decide +kernel
theorem dL_now_110 : decode cL_now 110 = .ok (.iload_n 3, 1) := by decide +kernel
theorem dL_now_111 : decode cL_now 111 = .ok (.iload 4, 2) := by decide +kernel
theorem dL_now_113 : decode cL_now 113 = .ok (.iconst 0, 1) := by decide +kernel
theorem dL_now_114 : decode cL_now 114 = .ok (.iload 5, 2) := by decide +kernel
theorem dL_now_116 : decode cL_now 116 = .ok (.invokestatic 127, 3) := by decide +kernel
theorem dL_now_119 : decode cL_now 119 = .ok (.ladd, 1) := by decide +kernel
theorem dL_now_120 : decode cL_now 120 = .ok (.ldc2_w 130, 3) := by decide +kernel
theorem dL_now_123 : decode cL_now 123 = .ok (.aload_n 0, 1) := by decide +kernel
theorem dL_now_124 : decode cL_now 124 = .ok (.iload_n 3, 1) := by decide +kernel
theorem dL_now_125 : decode cL_now 125 = .ok (.iload 4, 2) := by decide +kernel
theorem dL_now_127 : decode cL_now 127 = .ok (.iconst 1, 1) := by decide +kernel
theorem dL_now_128 : decode cL_now 128 = .ok (.iload 5, 2) := by decide +kernel
theorem dL_now_130 : decode cL_now 130 = .ok (.invokestatic 127, 3) := by decide +kernel
theorem dL_now_133 : decode cL_now 133 = .ok (.lmul, 1) := by decide +kernel
theorem dL_now_134 : decode cL_now 134 = .ok (.ladd, 1) := by decide +kernel
theorem dL_now_135 : decode cL_now 135 = .ok (.ldc2_w 132, 3) := by decide +kernel
theorem dL_now_138 : decode cL_now 138 = .ok (.ladd, 1) := by decide +kernel
theorem dL_now_139 : decode cL_now 139 = .ok (.ldc2_w 118, 3) := by decide +kernel
theorem dL_now_142 : decode cL_now 142 = .ok (.lrem, 1) := by decide +kernel
theorem dL_now_143 : decode cL_now 143 = .ok (.lstore_n 1, 1) := by decide +kernel
theorem dL_now_144 : decode cL_now 144 = .ok (.iinc 5 1, 3) := by decide +kernel
theorem dL_now_147 : decode cL_now 147 = .ok (.goto (-50), 3) := by decide +kernel
theorem dL_now_150 : decode cL_now 150 = .ok (.ldc2_w 116, 3) := by decide +kernel
theorem dL_now_153 : decode cL_now 153 = .ok (.lload_n 1, 1) := by decide +kernel
theorem dL_now_154 : decode cL_now 154 = .ok (.lmul, 1) := by decide +kernel
theorem dL_now_155 : decode cL_now 155 = .ok (.aload_n 0, 1) := by decide +kernel
theorem dL_now_156 : decode cL_now 156 = .ok (.iload_n 3, 1) := by decide +kernel
theorem dL_now_157 : decode cL_now 157 = .ok (.iload 4, 2) := by decide +kernel
theorem dL_now_159 : decode cL_now 159 = .ok (.iconst 2, 1) := by decide +kernel
theorem dL_now_160 : decode cL_now 160 = .ok (.invokestatic 134, 3) := by decide +kernel
theorem dL_now_163 : decode cL_now 163 = .ok (.ladd, 1) := by decide +kernel
theorem dL_now_164 : decode cL_now 164 = .ok (.ldc2_w 137, 3) := by decide +kernel
theorem dL_now_167 : decode cL_now 167 = .ok (.ladd, 1) := by decide +kernel
theorem dL_now_168 : decode cL_now 168 = .ok (.ldc2_w 118, 3) := by decide +kernel
theorem dL_now_171 : decode cL_now 171 = .ok (.lrem, 1) := by decide +kernel
theorem dL_now_172 : decode cL_now 172 = .ok (.lstore_n 1, 1) := by decide +kernel
theorem dL_now_173 : decode cL_now 173 = .ok (.iinc 4 1, 3) := by decide +kernel
theorem dL_now_176 : decode cL_now 176 = .ok (.goto (-95), 3) := by decide +kernel
theorem dL_now_179 : decode cL_now 179 = .ok (.iinc 3 1, 3) := by decide +kernel
theorem dL_now_182 : decode cL_now 182 = .ok (.goto (-146), 3) := by decide +kernel
theorem dL_now_185 : decode cL_now 185 = .ok (.iconst 0, 1) := by decide +kernel
theorem dL_now_186 : decode cL_now 186 = .ok (.istore_n 3, 1) := by decide +kernel
theorem dL_now_187 : decode cL_now 187 = .ok (.iload_n 3, 1) := by decide +kernel
theorem dL_now_188 : decode cL_now 188 = .ok (.i2l, 1) := by decide +kernel
theorem dL_now_189 : decode cL_now 189 = .ok (.aload_n 0, 1) := by decide +kernel
theorem dL_now_190 : decode cL_now 190 = .ok (.bipush 7, 2) := by decide +kernel
theorem dL_now_192 : decode cL_now 192 = .ok (.invokestatic 109, 3) := by decide +kernel
theorem dL_now_195 : decode cL_now 195 = .ok (.lcmp, 1) := by decide +kernel
theorem dL_now_196 : decode cL_now 196 = .ok (.ifCond .ge 61, 3) := by decide +kernel
theorem dL_now_199 : decode cL_now 199 = .ok (.iconst 0, 1) := by decide +kernel
theorem dL_now_200 : decode cL_now 200 = .ok (.istore 4, 2) := by decide +kernel
theorem dL_now_202 : decode cL_now 202 = .ok (.iload 4, 2) := by decide +kernel
theorem dL_now_204 : decode cL_now 204 = .ok (.bipush 8, 2) := by decide +kernel
theorem dL_now_206 : decode cL_now 206 = .ok (.if_icmp .ge 45, 3) := by decide +kernel
theorem dL_now_209 : decode cL_now 209 = .ok (.ldc2_w 116, 3) := by decide +kernel
theorem dL_now_212 : decode cL_now 212 = .ok (.lload_n 1, 1) := by decide +kernel
theorem dL_now_213 : decode cL_now 213 = .ok (.lmul, 1) := by decide +kernel
theorem dL_now_214 : decode cL_now 214 = .ok (.aload_n 0, 1) := by decide +kernel
theorem dL_now_215 : decode cL_now 215 = .ok (.iload_n 3, 1) := by decide +kernel
theorem dL_now_216 : decode cL_now 216 = .ok (.iconst 0, 1) := by decide +kernel
theorem dL_now_217 : decode cL_now 217 = .ok (.iload 4, 2) := by decide +kernel
theorem dL_now_219 : decode cL_now 219 = .ok (.invokestatic 139, 3) := by decide +kernel
theorem dL_now_222 : decode cL_now 222 = .ok (.ladd, 1) := by decide +kernel
theorem dL_now_223 : decode cL_now 223 = .ok (.ldc2_w 130, 3) := by decide +kernel
theorem dL_now_226 : decode cL_now 226 = .ok (.aload_n 0, 1) := by decide +kernel
theorem dL_now_227 : decode cL_now 227 = .ok (.iload_n 3, 1) := by decide +kernel
theorem dL_now_228 : decode cL_now 228 = .ok (.iconst 1, 1) := by decide +kernel
theorem dL_now_229 : decode cL_now 229 = .ok (.iload 4, 2) := by decide +kernel
theorem dL_now_231 : decode cL_now 231 = .ok (.invokestatic 139, 3) := by decide +kernel
theorem dL_now_234 : decode cL_now 234 = .ok (.lmul, 1) := by decide +kernel
theorem dL_now_235 : decode cL_now 235 = .ok (.ladd, 1) := by decide +kernel
theorem dL_now_236 : decode cL_now 236 = .ok (.ldc2_w 132, 3) := by decide +kernel
theorem dL_now_239 : decode cL_now 239 = .ok (.ladd, 1) := by decide +kernel
theorem dL_now_240 : decode cL_now 240 = .ok (.ldc2_w 118, 3) := by decide +kernel
theorem dL_now_243 : decode cL_now 243 = .ok (.lrem, 1) := by decide +kernel
theorem dL_now_244 : decode cL_now 244 = .ok (.lstore_n 1, 1) := by decide +kernel
theorem dL_now_245 : decode cL_now 245 = .ok (.iinc 4 1, 3) := by decide +kernel
theorem dL_now_248 : decode cL_now 248 = .ok (.goto (-46), 3) := by decide +kernel
theorem dL_now_251 : decode cL_now 251 = .ok (.iinc 3 1, 3) := by decide +kernel
theorem dL_now_254 : decode cL_now 254 = .ok (.goto (-67), 3) := by decide +kernel
theorem dL_now_257 : decode cL_now 257 = .ok (.lload_n 1, 1) := by decide +kernel
theorem dL_now_258 : decode cL_now 258 = .ok (.lreturn, 1) := by decide +kernel
theorem dL_alike_0 : decode cL_alike 0 = .ok (.aload_n 0, 1) := by decide +kernel
theorem dL_alike_1 : decode cL_alike 1 = .ok (.invokestatic 142, 3) := by decide +kernel
theorem dL_alike_4 : decode cL_alike 4 = .ok (.aload_n 1, 1) := by decide +kernel
theorem dL_alike_5 : decode cL_alike 5 = .ok (.invokestatic 142, 3) := by decide +kernel
theorem dL_alike_8 : decode cL_alike 8 = .ok (.lcmp, 1) := by decide +kernel
theorem dL_alike_9 : decode cL_alike 9 = .ok (.ifCond .ne 112, 3) := by decide +kernel
theorem dL_alike_12 : decode cL_alike 12 = .ok (.aload_n 0, 1) := by decide +kernel
theorem dL_alike_13 : decode cL_alike 13 = .ok (.invokevirtual 146, 3) := by decide +kernel
theorem dL_alike_16 : decode cL_alike 16 = .ok (.aload_n 1, 1) := by decide +kernel
theorem dL_alike_17 : decode cL_alike 17 = .ok (.invokevirtual 146, 3) := by decide +kernel
theorem dL_alike_20 : decode cL_alike 20 = .ok (.if_icmp .ne 101, 3) := by decide +kernel
theorem dL_alike_23 : decode cL_alike 23 = .ok (.aload_n 0, 1) := by decide +kernel
theorem dL_alike_24 : decode cL_alike 24 = .ok (.iload_n 2, 1) := by decide +kernel
theorem dL_alike_25 : decode cL_alike 25 = .ok (.bipush 9, 2) := by decide +kernel
theorem dL_alike_27 : decode cL_alike 27 = .ok (.irem, 1) := by decide +kernel
theorem dL_alike_28 : decode cL_alike 28 = .ok (.invokestatic 149, 3) := by decide +kernel
theorem dL_alike_31 : decode cL_alike 31 = .ok (.aload_n 1, 1) := by decide +kernel
theorem dL_alike_32 : decode cL_alike 32 = .ok (.iload_n 2, 1) := by decide +kernel
theorem dL_alike_33 : decode cL_alike 33 = .ok (.bipush 9, 2) := by decide +kernel
theorem dL_alike_35 : decode cL_alike 35 = .ok (.irem, 1) := by decide +kernel
theorem dL_alike_36 : decode cL_alike 36 = .ok (.invokestatic 149, 3) := by decide +kernel
theorem dL_alike_39 : decode cL_alike 39 = .ok (.lcmp, 1) := by decide +kernel
theorem dL_alike_40 : decode cL_alike 40 = .ok (.ifCond .ne 81, 3) := by decide +kernel
theorem dL_alike_43 : decode cL_alike 43 = .ok (.aload_n 0, 1) := by decide +kernel
theorem dL_alike_44 : decode cL_alike 44 = .ok (.invokevirtual 151, 3) := by decide +kernel
theorem dL_alike_47 : decode cL_alike 47 = .ok (.aload_n 1, 1) := by decide +kernel
theorem dL_alike_48 : decode cL_alike 48 = .ok (.invokevirtual 151, 3) := by decide +kernel
theorem dL_alike_51 : decode cL_alike 51 = .ok (.if_icmp .ne 70, 3) := by decide +kernel
theorem dL_alike_54 : decode cL_alike 54 = .ok (.aload_n 0, 1) := by decide +kernel
theorem dL_alike_55 : decode cL_alike 55 = .ok (.iload_n 2, 1) := by decide +kernel
theorem dL_alike_56 : decode cL_alike 56 = .ok (.bipush 40, 2) := by decide +kernel
theorem dL_alike_58 : decode cL_alike 58 = .ok (.irem, 1) := by decide +kernel
theorem dL_alike_59 : decode cL_alike 59 = .ok (.invokestatic 154, 3) := by decide +kernel
theorem dL_alike_62 : decode cL_alike 62 = .ok (.aload_n 1, 1) := by decide +kernel
theorem dL_alike_63 : decode cL_alike 63 = .ok (.iload_n 2, 1) := by decide +kernel
theorem dL_alike_64 : decode cL_alike 64 = .ok (.bipush 40, 2) := by decide +kernel
theorem dL_alike_66 : decode cL_alike 66 = .ok (.irem, 1) := by decide +kernel
theorem dL_alike_67 : decode cL_alike 67 = .ok (.invokestatic 154, 3) := by decide +kernel
theorem dL_alike_70 : decode cL_alike 70 = .ok (.lcmp, 1) := by decide +kernel
theorem dL_alike_71 : decode cL_alike 71 = .ok (.ifCond .ne 50, 3) := by decide +kernel
theorem dL_alike_74 : decode cL_alike 74 = .ok (.aload_n 0, 1) := by decide +kernel
theorem dL_alike_75 : decode cL_alike 75 = .ok (.invokevirtual 156, 3) := by decide +kernel
theorem dL_alike_78 : decode cL_alike 78 = .ok (.aload_n 1, 1) := by decide +kernel
theorem dL_alike_79 : decode cL_alike 79 = .ok (.invokevirtual 156, 3) := by decide +kernel
theorem dL_alike_82 : decode cL_alike 82 = .ok (.if_icmp .ne 39, 3) := by decide +kernel
theorem dL_alike_85 : decode cL_alike 85 = .ok (.aload_n 0, 1) := by decide +kernel
theorem dL_alike_86 : decode cL_alike 86 = .ok (.bipush 10, 2) := by decide +kernel
theorem dL_alike_88 : decode cL_alike 88 = .ok (.iload_n 2, 1) := by decide +kernel
theorem dL_alike_89 : decode cL_alike 89 = .ok (.bipush 51, 2) := by decide +kernel
theorem dL_alike_91 : decode cL_alike 91 = .ok (.irem, 1) := by decide +kernel
theorem dL_alike_92 : decode cL_alike 92 = .ok (.iadd, 1) := by decide +kernel
theorem dL_alike_93 : decode cL_alike 93 = .ok (.iload_n 2, 1) := by decide +kernel
theorem dL_alike_94 : decode cL_alike 94 = .ok (.iconst 2, 1) := by decide +kernel
theorem dL_alike_95 : decode cL_alike 95 = .ok (.irem, 1) := by decide +kernel
theorem dL_alike_96 : decode cL_alike 96 = .ok (.invokestatic 159, 3) := by decide +kernel
theorem dL_alike_99 : decode cL_alike 99 = .ok (.aload_n 1, 1) := by decide +kernel
theorem dL_alike_100 : decode cL_alike 100 = .ok (.bipush 10, 2) := by decide +kernel
theorem dL_alike_102 : decode cL_alike 102 = .ok (.iload_n 2, 1) := by decide +kernel
theorem dL_alike_103 : decode cL_alike 103 = .ok (.bipush 51, 2) := by decide +kernel
theorem dL_alike_105 : decode cL_alike 105 = .ok (.irem, 1) := by decide +kernel
theorem dL_alike_106 : decode cL_alike 106 = .ok (.iadd, 1) := by decide +kernel
theorem dL_alike_107 : decode cL_alike 107 = .ok (.iload_n 2, 1) := by decide +kernel
theorem dL_alike_108 : decode cL_alike 108 = .ok (.iconst 2, 1) := by decide +kernel
theorem dL_alike_109 : decode cL_alike 109 = .ok (.irem, 1) := by decide +kernel
theorem dL_alike_110 : decode cL_alike 110 = .ok (.invokestatic 159, 3) := by decide +kernel
theorem dL_alike_113 : decode cL_alike 113 = .ok (.lcmp, 1) := by decide +kernel
theorem dL_alike_114 : decode cL_alike 114 = .ok (.ifCond .ne 7, 3) := by decide +kernel
theorem dL_alike_117 : decode cL_alike 117 = .ok (.iconst 1, 1) := by decide +kernel
theorem dL_alike_118 : decode cL_alike 118 = .ok (.goto 4, 3) := by decide +kernel
theorem dL_alike_121 : decode cL_alike 121 = .ok (.iconst 0, 1) := by decide +kernel
theorem dL_alike_122 : decode cL_alike 122 = .ok (.istore_n 3, 1) := by decide +kernel
theorem dL_alike_123 : decode cL_alike 123 = .ok (.aload_n 0, 1) := by decide +kernel
theorem dL_alike_124 : decode cL_alike 124 = .ok (.iconst 5, 1) := by decide +kernel
theorem dL_alike_125 : decode cL_alike 125 = .ok (.invokestatic 109, 3) := by decide +kernel
theorem dL_alike_128 : decode cL_alike 128 = .ok (.l2i, 1) := by decide +kernel
theorem dL_alike_129 : decode cL_alike 129 = .ok (.istore 4, 2) := by decide +kernel
theorem dL_alike_131 : decode cL_alike 131 = .ok (.iconst 0, 1) := by decide +kernel
theorem dL_alike_132 : decode cL_alike 132 = .ok (.istore 5, 2) := by decide +kernel
theorem dL_alike_134 : decode cL_alike 134 = .ok (.iload 5, 2) := by decide +kernel
theorem dL_alike_136 : decode cL_alike 136 = .ok (.iload 4, 2) := by decide +kernel
theorem dL_alike_138 : decode cL_alike 138 = .ok (.if_icmp .gt 103, 3) := by decide +kernel
theorem dL_alike_141 : decode cL_alike 141 = .ok (.iload_n 3, 1) := by decide +kernel
theorem dL_alike_142 : decode cL_alike 142 = .ok (.ifCond .eq 99, 3) := by decide +kernel
theorem dL_alike_145 : decode cL_alike 145 = .ok (.aload_n 0, 1) := by decide +kernel
theorem dL_alike_146 : decode cL_alike 146 = .ok (.iload 5, 2) := by decide +kernel
theorem dL_alike_148 : decode cL_alike 148 = .ok (.iconst 0, 1) := by decide +kernel
theorem dL_alike_149 : decode cL_alike 149 = .ok (.invokestatic 161, 3) := by decide +kernel
theorem dL_alike_152 : decode cL_alike 152 = .ok (.aload_n 1, 1) := by decide +kernel
theorem dL_alike_153 : decode cL_alike 153 = .ok (.iload 5, 2) := by decide +kernel
theorem dL_alike_155 : decode cL_alike 155 = .ok (.iconst 0, 1) := by decide +kernel
theorem dL_alike_156 : decode cL_alike 156 = .ok (.invokestatic 161, 3) := by decide +kernel
theorem dL_alike_159 : decode cL_alike 159 = .ok (.lcmp, 1) := by decide +kernel
theorem dL_alike_160 : decode cL_alike 160 = .ok (.ifCond .ne 25, 3) := by decide +kernel
theorem dL_alike_163 : decode cL_alike 163 = .ok (.aload_n 0, 1) := by decide +kernel
theorem dL_alike_164 : decode cL_alike 164 = .ok (.iload 5, 2) := by decide +kernel
theorem dL_alike_166 : decode cL_alike 166 = .ok (.iconst 1, 1) := by decide +kernel
theorem dL_alike_167 : decode cL_alike 167 = .ok (.invokestatic 161, 3) := by decide +kernel
theorem dL_alike_170 : decode cL_alike 170 = .ok (.aload_n 1, 1) := by decide +kernel
theorem dL_alike_171 : decode cL_alike 171 = .ok (.iload 5, 2) := by decide +kernel
theorem dL_alike_173 : decode cL_alike 173 = .ok (.iconst 1, 1) := by decide +kernel
theorem dL_alike_174 : decode cL_alike 174 = .ok (.invokestatic 161, 3) := by decide +kernel
theorem dL_alike_177 : decode cL_alike 177 = .ok (.lcmp, 1) := by decide +kernel
theorem dL_alike_178 : decode cL_alike 178 = .ok (.ifCond .ne 7, 3) := by decide +kernel
theorem dL_alike_181 : decode cL_alike 181 = .ok (.iconst 1, 1) := by decide +kernel
theorem dL_alike_182 : decode cL_alike 182 = .ok (.goto 4, 3) := by decide +kernel
theorem dL_alike_185 : decode cL_alike 185 = .ok (.iconst 0, 1) := by decide +kernel
theorem dL_alike_186 : decode cL_alike 186 = .ok (.istore_n 3, 1) := by decide +kernel
theorem dL_alike_187 : decode cL_alike 187 = .ok (.iload_n 2, 1) := by decide +kernel
theorem dL_alike_188 : decode cL_alike 188 = .ok (.iconst 4, 1) := by decide +kernel
theorem dL_alike_189 : decode cL_alike 189 = .ok (.irem, 1) := by decide +kernel
theorem dL_alike_190 : decode cL_alike 190 = .ok (.istore 6, 2) := by decide +kernel
theorem dL_alike_192 : decode cL_alike 192 = .ok (.iload 6, 2) := by decide +kernel
theorem dL_alike_194 : decode cL_alike 194 = .ok (.bipush 64, 2) := by decide +kernel
theorem dL_alike_196 : decode cL_alike 196 = .ok (.if_icmp .ge 39, 3) := by decide +kernel
theorem dL_alike_199 : decode cL_alike 199 = .ok (.iload_n 3, 1) := by decide +kernel
theorem dL_alike_200 : decode cL_alike 200 = .ok (.ifCond .eq 35, 3) := by decide +kernel
theorem dL_alike_203 : decode cL_alike 203 = .ok (.aload_n 0, 1) := by decide +kernel
theorem dL_alike_204 : decode cL_alike 204 = .ok (.iload 5, 2) := by decide +kernel
theorem dL_alike_206 : decode cL_alike 206 = .ok (.iload 6, 2) := by decide +kernel
theorem dL_alike_208 : decode cL_alike 208 = .ok (.invokestatic 163, 3) := by decide +kernel
theorem dL_alike_211 : decode cL_alike 211 = .ok (.aload_n 1, 1) := by decide +kernel
theorem dL_alike_212 : decode cL_alike 212 = .ok (.iload 5, 2) := by decide +kernel
theorem dL_alike_214 : decode cL_alike 214 = .ok (.iload 6, 2) := by decide +kernel
theorem dL_alike_216 : decode cL_alike 216 = .ok (.invokestatic 163, 3) := by decide +kernel
theorem dL_alike_219 : decode cL_alike 219 = .ok (.lcmp, 1) := by decide +kernel
theorem dL_alike_220 : decode cL_alike 220 = .ok (.ifCond .ne 7, 3) := by decide +kernel
theorem dL_alike_223 : decode cL_alike 223 = .ok (.iconst 1, 1) := by decide +kernel
theorem dL_alike_224 : decode cL_alike 224 = .ok (.goto 4, 3) := by decide +kernel
theorem dL_alike_227 : decode cL_alike 227 = .ok (.iconst 0, 1) := by decide +kernel
theorem dL_alike_228 : decode cL_alike 228 = .ok (.istore_n 3, 1) := by decide +kernel
theorem dL_alike_229 : decode cL_alike 229 = .ok (.iinc 6 4, 3) := by decide +kernel
theorem dL_alike_232 : decode cL_alike 232 = .ok (.goto (-40), 3) := by decide +kernel
theorem dL_alike_235 : decode cL_alike 235 = .ok (.iinc 5 1, 3) := by decide +kernel
theorem dL_alike_238 : decode cL_alike 238 = .ok (.goto (-104), 3) := by decide +kernel
theorem dL_alike_241 : decode cL_alike 241 = .ok (.ldc2_w 165, 3) := by decide +kernel
theorem dL_alike_244 : decode cL_alike 244 = .ok (.sipush 1000, 3) := by decide +kernel
theorem dL_alike_247 : decode cL_alike 247 = .ok (.iconst 1, 1) := by decide +kernel
theorem dL_alike_248 : decode cL_alike 248 = .ok (.iload_n 2, 1) := by decide +kernel
theorem dL_alike_249 : decode cL_alike 249 = .ok (.bipush 9, 2) := by decide +kernel
theorem dL_alike_251 : decode cL_alike 251 = .ok (.irem, 1) := by decide +kernel
theorem dL_alike_252 : decode cL_alike 252 = .ok (.iadd, 1) := by decide +kernel
theorem dL_alike_253 : decode cL_alike 253 = .ok (.imul, 1) := by decide +kernel
theorem dL_alike_254 : decode cL_alike 254 = .ok (.iload_n 2, 1) := by decide +kernel
theorem dL_alike_255 : decode cL_alike 255 = .ok (.bipush 8, 2) := by decide +kernel
theorem dL_alike_257 : decode cL_alike 257 = .ok (.idiv, 1) := by decide +kernel
theorem dL_alike_258 : decode cL_alike 258 = .ok (.sipush 1000, 3) := by decide +kernel
theorem dL_alike_261 : decode cL_alike 261 = .ok (.irem, 1) := by decide +kernel
theorem dL_alike_262 : decode cL_alike 262 = .ok (.iadd, 1) := by decide +kernel
theorem dL_alike_263 : decode cL_alike 263 = .ok (.i2l, 1) := by decide +kernel
theorem dL_alike_264 : decode cL_alike 264 = .ok (.lmul, 1) := by decide +kernel
theorem dL_alike_265 : decode cL_alike 265 = .ok (.iload_n 2, 1) := by decide +kernel
theorem dL_alike_266 : decode cL_alike 266 = .ok (.sipush 10000, 3) := by decide +kernel
theorem dL_alike_269 : decode cL_alike 269 = .ok (.irem, 1) := by decide +kernel
theorem dL_alike_270 : decode cL_alike 270 = .ok (.i2l, 1) := by decide +kernel
theorem dL_alike_271 : decode cL_alike 271 = .ok (.ladd, 1) := by decide +kernel
theorem dL_alike_272 : decode cL_alike 272 = .ok (.lstore 5, 2) := by decide +kernel
theorem dL_alike_274 : decode cL_alike 274 = .ok (.iload_n 3, 1) := by decide +kernel
theorem dL_alike_275 : decode cL_alike 275 = .ok (.ifCond .eq 53, 3) := by decide +kernel
theorem dL_alike_278 : decode cL_alike 278 = .ok (.aload_n 0, 1) := by decide +kernel
theorem dL_alike_279 : decode cL_alike 279 = .ok (.iconst 2, 1) := by decide +kernel
theorem dL_alike_280 : decode cL_alike 280 = .ok (.lload 5, 2) := by decide +kernel
theorem dL_alike_282 : decode cL_alike 282 = .ok (.invokestatic 167, 3) := by decide +kernel
theorem dL_alike_285 : decode cL_alike 285 = .ok (.aload_n 1, 1) := by decide +kernel
theorem dL_alike_286 : decode cL_alike 286 = .ok (.iconst 2, 1) := by decide +kernel
theorem dL_alike_287 : decode cL_alike 287 = .ok (.lload 5, 2) := by decide +kernel
theorem dL_alike_289 : decode cL_alike 289 = .ok (.invokestatic 167, 3) := by decide +kernel
theorem dL_alike_292 : decode cL_alike 292 = .ok (.lcmp, 1) := by decide +kernel
theorem dL_alike_293 : decode cL_alike 293 = .ok (.ifCond .ne 35, 3) := by decide +kernel
theorem dL_alike_296 : decode cL_alike 296 = .ok (.aload_n 0, 1) := by decide +kernel
theorem dL_alike_297 : decode cL_alike 297 = .ok (.iload_n 2, 1) := by decide +kernel
theorem dL_alike_298 : decode cL_alike 298 = .ok (.i2l, 1) := by decide +kernel
theorem dL_alike_299 : decode cL_alike 299 = .ok (.iconst 1, 1) := by decide +kernel
theorem dL_alike_300 : decode cL_alike 300 = .ok (.iload_n 2, 1) := by decide +kernel
theorem dL_alike_301 : decode cL_alike 301 = .ok (.bipush 30, 2) := by decide +kernel
theorem dL_alike_303 : decode cL_alike 303 = .ok (.irem, 1) := by decide +kernel
theorem dL_alike_304 : decode cL_alike 304 = .ok (.iadd, 1) := by decide +kernel
theorem dL_alike_305 : decode cL_alike 305 = .ok (.invokestatic 171, 3) := by decide +kernel
theorem dL_alike_308 : decode cL_alike 308 = .ok (.aload_n 1, 1) := by decide +kernel
theorem dL_alike_309 : decode cL_alike 309 = .ok (.iload_n 2, 1) := by decide +kernel
theorem dL_alike_310 : decode cL_alike 310 = .ok (.i2l, 1) := by decide +kernel
theorem dL_alike_311 : decode cL_alike 311 = .ok (.iconst 1, 1) := by decide +kernel
theorem dL_alike_312 : decode cL_alike 312 = .ok (.iload_n 2, 1) := by decide +kernel
theorem dL_alike_313 : decode cL_alike 313 = .ok (.bipush 30, 2) := by decide +kernel
theorem dL_alike_315 : decode cL_alike 315 = .ok (.irem, 1) := by decide +kernel
theorem dL_alike_316 : decode cL_alike 316 = .ok (.iadd, 1) := by decide +kernel
theorem dL_alike_317 : decode cL_alike 317 = .ok (.invokestatic 171, 3) := by decide +kernel
theorem dL_alike_320 : decode cL_alike 320 = .ok (.lcmp, 1) := by decide +kernel
theorem dL_alike_321 : decode cL_alike 321 = .ok (.ifCond .ne 7, 3) := by decide +kernel
theorem dL_alike_324 : decode cL_alike 324 = .ok (.iconst 1, 1) := by decide +kernel
theorem dL_alike_325 : decode cL_alike 325 = .ok (.goto 4, 3) := by decide +kernel
theorem dL_alike_328 : decode cL_alike 328 = .ok (.iconst 0, 1) := by decide +kernel
theorem dL_alike_329 : decode cL_alike 329 = .ok (.ireturn, 1) := by decide +kernel
