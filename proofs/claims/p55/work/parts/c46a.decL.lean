theorem dL_fold_0 : decode cL_fold 0 = .ok (.bipush 7, 2) := by decide +kernel
theorem dL_fold_2 : decode cL_fold 2 = .ok (.istore_n 1, 1) := by decide +kernel
theorem dL_fold_3 : decode cL_fold 3 = .ok (.iconst 0, 1) := by decide +kernel
theorem dL_fold_4 : decode cL_fold 4 = .ok (.istore_n 2, 1) := by decide +kernel
theorem dL_fold_5 : decode cL_fold 5 = .ok (.iload_n 2, 1) := by decide +kernel
theorem dL_fold_6 : decode cL_fold 6 = .ok (.aload_n 0, 1) := by decide +kernel
theorem dL_fold_7 : decode cL_fold 7 = .ok (.arraylength, 1) := by decide +kernel
theorem dL_fold_8 : decode cL_fold 8 = .ok (.if_icmp .ge 35, 3) := by decide +kernel
theorem dL_fold_11 : decode cL_fold 11 = .ok (.ldc 95, 2) := by decide +kernel
theorem dL_fold_13 : decode cL_fold 13 = .ok (.iload_n 1, 1) := by decide +kernel
theorem dL_fold_14 : decode cL_fold 14 = .ok (.aload_n 0, 1) := by decide +kernel
theorem dL_fold_15 : decode cL_fold 15 = .ok (.iload_n 2, 1) := by decide +kernel
theorem dL_fold_16 : decode cL_fold 16 = .ok (.iaload, 1) := by decide +kernel
theorem dL_fold_17 : decode cL_fold 17 = .ok (.sipush 1009, 3) := by decide +kernel
theorem dL_fold_20 : decode cL_fold 20 = .ok (.iload_n 2, 1) := by decide +kernel
theorem dL_fold_21 : decode cL_fold 21 = .ok (.imul, 1) := by decide +kernel
theorem dL_fold_22 : decode cL_fold 22 = .ok (.iadd, 1) := by decide +kernel
theorem dL_fold_23 : decode cL_fold 23 = .ok (.ixor, 1) := by decide +kernel
theorem dL_fold_24 : decode cL_fold 24 = .ok (.imul, 1) := by decide +kernel
theorem dL_fold_25 : decode cL_fold 25 = .ok (.sipush 12345, 3) := by decide +kernel
theorem dL_fold_28 : decode cL_fold 28 = .ok (.iadd, 1) := by decide +kernel
theorem dL_fold_29 : decode cL_fold 29 = .ok (.istore_n 1, 1) := by decide +kernel
theorem dL_fold_30 : decode cL_fold 30 = .ok (.iload_n 1, 1) := by decide +kernel
theorem dL_fold_31 : decode cL_fold 31 = .ok (.iload_n 1, 1) := by decide +kernel
theorem dL_fold_32 : decode cL_fold 32 = .ok (.bipush 13, 2) := by decide +kernel
theorem dL_fold_34 : decode cL_fold 34 = .ok (.iushr, 1) := by decide +kernel
theorem dL_fold_35 : decode cL_fold 35 = .ok (.ixor, 1) := by decide +kernel
theorem dL_fold_36 : decode cL_fold 36 = .ok (.istore_n 1, 1) := by decide +kernel
theorem dL_fold_37 : decode cL_fold 37 = .ok (.iinc 2 1, 3) := by decide +kernel
theorem dL_fold_40 : decode cL_fold 40 = .ok (.goto (-35), 3) := by decide +kernel
theorem dL_fold_43 : decode cL_fold 43 = .ok (.iload_n 1, 1) := by decide +kernel
theorem dL_fold_44 : decode cL_fold 44 = .ok (.ireturn, 1) := by decide +kernel
theorem dL_draw_0 : decode cL_draw 0 = .ok (.aload_n 0, 1) := by decide +kernel
theorem dL_draw_1 : decode cL_draw 1 = .ok (.iconst 0, 1) := by decide +kernel
theorem dL_draw_2 : decode cL_draw 2 = .ok (.ldc 96, 2) := by decide +kernel
theorem dL_draw_4 : decode cL_draw 4 = .ok (.aload_n 0, 1) := by decide +kernel
theorem dL_draw_5 : decode cL_draw 5 = .ok (.iconst 0, 1) := by decide +kernel
theorem dL_draw_6 : decode cL_draw 6 = .ok (.iaload, 1) := by decide +kernel
theorem dL_draw_7 : decode cL_draw 7 = .ok (.imul, 1) := by decide +kernel
theorem dL_draw_8 : decode cL_draw 8 = .ok (.sipush 12345, 3) := by decide +kernel
theorem dL_draw_11 : decode cL_draw 11 = .ok (.iadd, 1) := by decide +kernel
theorem dL_draw_12 : decode cL_draw 12 = .ok (.iastore, 1) := by decide +kernel
theorem dL_draw_13 : decode cL_draw 13 = .ok (.aload_n 0, 1) := by decide +kernel
theorem dL_draw_14 : decode cL_draw 14 = .ok (.iconst 0, 1) := by decide +kernel
theorem dL_draw_15 : decode cL_draw 15 = .ok (.iaload, 1) := by decide +kernel
theorem dL_draw_16 : decode cL_draw 16 = .ok (.bipush 9, 2) := by decide +kernel
theorem dL_draw_18 : decode cL_draw 18 = .ok (.iushr, 1) := by decide +kernel
theorem dL_draw_19 : decode cL_draw 19 = .ok (.ldc 97, 2) := by decide +kernel
theorem dL_draw_21 : decode cL_draw 21 = .ok (.iand, 1) := by decide +kernel
theorem dL_draw_22 : decode cL_draw 22 = .ok (.iload_n 1, 1) := by decide +kernel
theorem dL_draw_23 : decode cL_draw 23 = .ok (.irem, 1) := by decide +kernel
theorem dL_draw_24 : decode cL_draw 24 = .ok (.ireturn, 1) := by decide +kernel
theorem dL_drawn_0 : decode cL_drawn 0 = .ok (.iconst 4, 1) := by decide +kernel
theorem dL_drawn_1 : decode cL_drawn 1 = .ok (.aload_n 1, 1) := by decide +kernel
theorem dL_drawn_2 : decode cL_drawn 2 = .ok (.iconst 3, 1) := by decide +kernel
theorem dL_drawn_3 : decode cL_drawn 3 = .ok (.invokestatic 98, 3) := by decide +kernel
theorem dL_drawn_6 : decode cL_drawn 6 = .ok (.iadd, 1) := by decide +kernel
theorem dL_drawn_7 : decode cL_drawn 7 = .ok (.istore 5, 2) := by decide +kernel
theorem dL_drawn_9 : decode cL_drawn 9 = .ok (.aload_n 2, 1) := by decide +kernel
theorem dL_drawn_10 : decode cL_drawn 10 = .ok (.bipush 6, 2) := by decide +kernel
theorem dL_drawn_12 : decode cL_drawn 12 = .ok (.iload 5, 2) := by decide +kernel
theorem dL_drawn_14 : decode cL_drawn 14 = .ok (.iastore, 1) := by decide +kernel
theorem dL_drawn_15 : decode cL_drawn 15 = .ok (.aload_n 0, 1) := by decide +kernel
theorem dL_drawn_16 : decode cL_drawn 16 = .ok (.invokestatic 104, 3) := by decide +kernel
theorem dL_drawn_19 : decode cL_drawn 19 = .ok (.ifCond .ne 41, 3) := by decide +kernel
theorem dL_drawn_22 : decode cL_drawn 22 = .ok (.aload_n 0, 1) := by decide +kernel
theorem dL_drawn_23 : decode cL_drawn 23 = .ok (.invokestatic 104, 3) := by decide +kernel
theorem dL_drawn_26 : decode cL_drawn 26 = .ok (.iconst 1, 1) := by decide +kernel
theorem dL_drawn_27 : decode cL_drawn 27 = .ok (.if_icmp .ne 33, 3) := by decide +kernel
theorem dL_drawn_30 : decode cL_drawn 30 = .ok (.aload_n 0, 1) := by decide +kernel
theorem dL_drawn_31 : decode cL_drawn 31 = .ok (.iconst 0, 1) := by decide +kernel
theorem dL_drawn_32 : decode cL_drawn 32 = .ok (.bipush 127, 2) := by decide +kernel
theorem dL_drawn_34 : decode cL_drawn 34 = .ok (.bipush 9, 2) := by decide +kernel
theorem dL_drawn_36 : decode cL_drawn 36 = .ok (.bipush 11, 2) := by decide +kernel
theorem dL_drawn_38 : decode cL_drawn 38 = .ok (.invokestatic 107, 3) := by decide +kernel
theorem dL_drawn_41 : decode cL_drawn 41 = .ok (.iconst 3, 1) := by decide +kernel
theorem dL_drawn_42 : decode cL_drawn 42 = .ok (.if_icmp .ne 18, 3) := by decide +kernel
theorem dL_drawn_45 : decode cL_drawn 45 = .ok (.aload_n 0, 1) := by decide +kernel
theorem dL_drawn_46 : decode cL_drawn 46 = .ok (.iconst 1, 1) := by decide +kernel
theorem dL_drawn_47 : decode cL_drawn 47 = .ok (.bipush 10, 2) := by decide +kernel
theorem dL_drawn_49 : decode cL_drawn 49 = .ok (.iconst 1, 1) := by decide +kernel
theorem dL_drawn_50 : decode cL_drawn 50 = .ok (.invokestatic 110, 3) := by decide +kernel
theorem dL_drawn_53 : decode cL_drawn 53 = .ok (.ifCond .ne 7, 3) := by decide +kernel
theorem dL_drawn_56 : decode cL_drawn 56 = .ok (.iconst 1, 1) := by decide +kernel
theorem dL_drawn_57 : decode cL_drawn 57 = .ok (.goto 4, 3) := by decide +kernel
theorem dL_drawn_60 : decode cL_drawn 60 = .ok (.iconst 0, 1) := by decide +kernel
theorem dL_drawn_61 : decode cL_drawn 61 = .ok (.istore 6, 2) := by decide +kernel
theorem dL_drawn_63 : decode cL_drawn 63 = .ok (.iconst 0, 1) := by decide +kernel
theorem dL_drawn_64 : decode cL_drawn 64 = .ok (.istore 7, 2) := by decide +kernel
theorem dL_drawn_66 : decode cL_drawn 66 = .ok (.iload 7, 2) := by decide +kernel
theorem dL_drawn_68 : decode cL_drawn 68 = .ok (.iload 5, 2) := by decide +kernel
theorem dL_drawn_70 : decode cL_drawn 70 = .ok (.if_icmp .ge 42, 3) := by decide +kernel
theorem dL_drawn_73 : decode cL_drawn 73 = .ok (.aload_n 2, 1) := by decide +kernel
theorem dL_drawn_74 : decode cL_drawn 74 = .ok (.iload 7, 2) := by decide +kernel
theorem dL_drawn_76 : decode cL_drawn 76 = .ok (.aload_n 1, 1) := by decide +kernel
theorem dL_drawn_77 : decode cL_drawn 77 = .ok (.bipush 6, 2) := by decide +kernel
theorem dL_drawn_79 : decode cL_drawn 79 = .ok (.invokestatic 98, 3) := by decide +kernel
theorem dL_drawn_82 : decode cL_drawn 82 = .ok (.iastore, 1) := by decide +kernel
theorem dL_drawn_83 : decode cL_drawn 83 = .ok (.iload 6, 2) := by decide +kernel
theorem dL_drawn_85 : decode cL_drawn 85 = .ok (.aload_n 0, 1) := by decide +kernel
theorem dL_drawn_86 : decode cL_drawn 86 = .ok (.aload_n 2, 1) := by decide +kernel
theorem dL_drawn_87 : decode cL_drawn 87 = .ok (.iload 7, 2) := by decide +kernel
theorem dL_drawn_89 : decode cL_drawn 89 = .ok (.iaload, 1) := by decide +kernel
theorem dL_drawn_90 : decode cL_drawn 90 = .ok (.invokestatic 113, 3) := by decide +kernel
theorem dL_drawn_93 : decode cL_drawn 93 = .ok (.iload 7, 2) := by decide +kernel
theorem dL_drawn_95 : decode cL_drawn 95 = .ok (.if_icmp .ne 7, 3) := by decide +kernel
theorem dL_drawn_98 : decode cL_drawn 98 = .ok (.iconst 1, 1) := by decide +kernel
theorem dL_drawn_99 : decode cL_drawn 99 = .ok (.goto 4, 3) := by decide +kernel
theorem dL_drawn_102 : decode cL_drawn 102 = .ok (.iconst 0, 1) := by decide +kernel
theorem dL_drawn_103 : decode cL_drawn 103 = .ok (.iand, 1) := by decide +kernel
theorem dL_drawn_104 : decode cL_drawn 104 = .ok (.istore 6, 2) := by decide +kernel
theorem dL_drawn_106 : decode cL_drawn 106 = .ok (.iinc 7 1, 3) := by decide +kernel
theorem dL_drawn_109 : decode cL_drawn 109 = .ok (.goto (-43), 3) := by decide +kernel
theorem dL_drawn_112 : decode cL_drawn 112 = .ok (.iconst 0, 1) := by decide +kernel
theorem dL_drawn_113 : decode cL_drawn 113 = .ok (.istore 7, 2) := by decide +kernel
theorem dL_drawn_115 : decode cL_drawn 115 = .ok (.iload 7, 2) := by decide +kernel
theorem dL_drawn_117 : decode cL_drawn 117 = .ok (.iload 5, 2) := by decide +kernel
theorem dL_drawn_119 : decode cL_drawn 119 = .ok (.if_icmp .ge 48, 3) := by decide +kernel
theorem dL_drawn_122 : decode cL_drawn 122 = .ok (.iconst 0, 1) := by decide +kernel
theorem dL_drawn_123 : decode cL_drawn 123 = .ok (.istore 8, 2) := by decide +kernel
theorem dL_drawn_125 : decode cL_drawn 125 = .ok (.iload 8, 2) := by decide +kernel
theorem dL_drawn_127 : decode cL_drawn 127 = .ok (.iload 5, 2) := by decide +kernel
theorem dL_drawn_129 : decode cL_drawn 129 = .ok (.if_icmp .ge 32, 3) := by decide +kernel
theorem dL_drawn_132 : decode cL_drawn 132 = .ok (.aload_n 3, 1) := by decide +kernel
theorem dL_drawn_133 : decode cL_drawn 133 = .ok (.bipush 6, 2) := by decide +kernel
theorem dL_drawn_135 : decode cL_drawn 135 = .ok (.iload 7, 2) := by decide +kernel
theorem dL_drawn_137 : decode cL_drawn 137 = .ok (.imul, 1) := by decide +kernel
theorem dL_drawn_138 : decode cL_drawn 138 = .ok (.iload 8, 2) := by decide +kernel
theorem dL_drawn_140 : decode cL_drawn 140 = .ok (.iadd, 1) := by decide +kernel
theorem dL_drawn_141 : decode cL_drawn 141 = .ok (.iload 7, 2) := by decide +kernel
theorem dL_drawn_143 : decode cL_drawn 143 = .ok (.iload 8, 2) := by decide +kernel
theorem dL_drawn_145 : decode cL_drawn 145 = .ok (.if_icmp .ne 7, 3) := by decide +kernel
theorem dL_drawn_148 : decode cL_drawn 148 = .ok (.iconst 0, 1) := by decide +kernel
theorem dL_drawn_149 : decode cL_drawn 149 = .ok (.goto 5, 3) := by decide +kernel
theorem dL_drawn_152 : decode cL_drawn 152 = .ok (.ldc 116, 2) := by decide +kernel
theorem dL_drawn_154 : decode cL_drawn 154 = .ok (.iastore, 1) := by decide +kernel
theorem dL_drawn_155 : decode cL_drawn 155 = .ok (.iinc 8 1, 3) := by decide +kernel
theorem dL_drawn_158 : decode cL_drawn 158 = .ok (.goto (-33), 3) := by decide +kernel
theorem dL_drawn_161 : decode cL_drawn 161 = .ok (.iinc 7 1, 3) := by decide +kernel
theorem dL_drawn_164 : decode cL_drawn 164 = .ok (.goto (-49), 3) := by decide +kernel
theorem dL_drawn_167 : decode cL_drawn 167 = .ok (.iconst 0, 1) := by decide +kernel
theorem dL_drawn_168 : decode cL_drawn 168 = .ok (.istore 7, 2) := by decide +kernel
theorem dL_drawn_170 : decode cL_drawn 170 = .ok (.iload 7, 2) := by decide +kernel
theorem dL_drawn_172 : decode cL_drawn 172 = .ok (.iload 5, 2) := by decide +kernel
theorem dL_drawn_174 : decode cL_drawn 174 = .ok (.if_icmp .ge 93, 3) := by decide +kernel
theorem dL_drawn_177 : decode cL_drawn 177 = .ok (.iload 7, 2) := by decide +kernel
theorem dL_drawn_179 : decode cL_drawn 179 = .ok (.iconst 1, 1) := by decide +kernel
theorem dL_drawn_180 : decode cL_drawn 180 = .ok (.iadd, 1) := by decide +kernel
theorem dL_drawn_181 : decode cL_drawn 181 = .ok (.istore 8, 2) := by decide +kernel
theorem dL_drawn_183 : decode cL_drawn 183 = .ok (.iload 8, 2) := by decide +kernel
theorem dL_drawn_185 : decode cL_drawn 185 = .ok (.iload 5, 2) := by decide +kernel
theorem dL_drawn_187 : decode cL_drawn 187 = .ok (.if_icmp .ge 74, 3) := by decide +kernel
theorem dL_drawn_190 : decode cL_drawn 190 = .ok (.aload_n 1, 1) := by decide +kernel
theorem dL_drawn_191 : decode cL_drawn 191 = .ok (.iconst 4, 1) := by decide +kernel
theorem dL_drawn_192 : decode cL_drawn 192 = .ok (.invokestatic 98, 3) := by decide +kernel
theorem dL_drawn_195 : decode cL_drawn 195 = .ok (.ifCond .ne 60, 3) := by decide +kernel
theorem dL_drawn_198 : decode cL_drawn 198 = .ok (.iconst 1, 1) := by decide +kernel
theorem dL_drawn_199 : decode cL_drawn 199 = .ok (.aload_n 1, 1) := by decide +kernel
theorem dL_drawn_200 : decode cL_drawn 200 = .ok (.bipush 20, 2) := by decide +kernel
theorem dL_drawn_202 : decode cL_drawn 202 = .ok (.invokestatic 98, 3) := by decide +kernel
theorem dL_drawn_205 : decode cL_drawn 205 = .ok (.iadd, 1) := by decide +kernel
theorem dL_drawn_206 : decode cL_drawn 206 = .ok (.istore 9, 2) := by decide +kernel
theorem dL_drawn_208 : decode cL_drawn 208 = .ok (.aload_n 3, 1) := by decide +kernel
theorem dL_drawn_209 : decode cL_drawn 209 = .ok (.bipush 6, 2) := by decide +kernel
theorem dL_drawn_211 : decode cL_drawn 211 = .ok (.iload 7, 2) := by decide +kernel
theorem dL_drawn_213 : decode cL_drawn 213 = .ok (.imul, 1) := by decide +kernel
theorem dL_drawn_214 : decode cL_drawn 214 = .ok (.iload 8, 2) := by decide +kernel
theorem dL_drawn_216 : decode cL_drawn 216 = .ok (.iadd, 1) := by decide +kernel
theorem dL_drawn_217 : decode cL_drawn 217 = .ok (.iload 9, 2) := by decide +kernel
theorem dL_drawn_219 : decode cL_drawn 219 = .ok (.iastore, 1) := by decide +kernel
theorem dL_drawn_220 : decode cL_drawn 220 = .ok (.aload_n 3, 1) := by decide +kernel
theorem dL_drawn_221 : decode cL_drawn 221 = .ok (.bipush 6, 2) := by decide +kernel
theorem dL_drawn_223 : decode cL_drawn 223 = .ok (.iload 8, 2) := by decide +kernel
theorem dL_drawn_225 : decode cL_drawn 225 = .ok (.imul, 1) := by decide +kernel
theorem dL_drawn_226 : decode cL_drawn 226 = .ok (.iload 7, 2) := by decide +kernel
theorem dL_drawn_228 : decode cL_drawn 228 = .ok (.iadd, 1) := by decide +kernel
theorem dL_drawn_229 : decode cL_drawn 229 = .ok (.iload 9, 2) := by decide +kernel
theorem dL_drawn_231 : decode cL_drawn 231 = .ok (.iastore, 1) := by decide +kernel
theorem dL_drawn_232 : decode cL_drawn 232 = .ok (.iload 6, 2) := by decide +kernel
theorem dL_drawn_234 : decode cL_drawn 234 = .ok (.aload_n 0, 1) := by decide +kernel
theorem dL_drawn_235 : decode cL_drawn 235 = .ok (.iload 7, 2) := by decide +kernel
theorem dL_drawn_237 : decode cL_drawn 237 = .ok (.iload 8, 2) := by decide +kernel
theorem dL_drawn_239 : decode cL_drawn 239 = .ok (.iload 9, 2) := by decide +kernel
theorem dL_drawn_241 : decode cL_drawn 241 = .ok (.invokestatic 117, 3) := by decide +kernel
theorem dL_drawn_244 : decode cL_drawn 244 = .ok (.ifCond .ne 7, 3) := by decide +kernel
theorem dL_drawn_247 : decode cL_drawn 247 = .ok (.iconst 1, 1) := by decide +kernel
theorem dL_drawn_248 : decode cL_drawn 248 = .ok (.goto 4, 3) := by decide +kernel
theorem dL_drawn_251 : decode cL_drawn 251 = .ok (.iconst 0, 1) := by decide +kernel
theorem dL_drawn_252 : decode cL_drawn 252 = .ok (.iand, 1) := by decide +kernel
theorem dL_drawn_253 : decode cL_drawn 253 = .ok (.istore 6, 2) := by decide +kernel
theorem dL_drawn_255 : decode cL_drawn 255 = .ok (.iinc 8 1, 3) := by decide +kernel
theorem dL_drawn_258 : decode cL_drawn 258 = .ok (.goto (-75), 3) := by decide +kernel
theorem dL_drawn_261 : decode cL_drawn 261 = .ok (.iinc 7 1, 3) := by decide +kernel
theorem dL_drawn_264 : decode cL_drawn 264 = .ok (.goto (-94), 3) := by decide +kernel
theorem dL_drawn_267 : decode cL_drawn 267 = .ok (.iconst 3, 1) := by decide +kernel
theorem dL_drawn_268 : decode cL_drawn 268 = .ok (.aload_n 1, 1) := by decide +kernel
theorem dL_drawn_269 : decode cL_drawn 269 = .ok (.bipush 7, 2) := by decide +kernel
theorem dL_drawn_271 : decode cL_drawn 271 = .ok (.invokestatic 98, 3) := by decide +kernel
theorem dL_drawn_274 : decode cL_drawn 274 = .ok (.iadd, 1) := by decide +kernel
theorem dL_drawn_275 : decode cL_drawn 275 = .ok (.istore 7, 2) := by decide +kernel
theorem dL_drawn_277 : decode cL_drawn 277 = .ok (.aload 4, 2) := by decide +kernel
theorem dL_drawn_279 : decode cL_drawn 279 = .ok (.iconst 0, 1) := by decide +kernel
theorem dL_drawn_280 : decode cL_drawn 280 = .ok (.iload 7, 2) := by decide +kernel
theorem dL_drawn_282 : decode cL_drawn 282 = .ok (.iastore, 1) := by decide +kernel
theorem dL_drawn_283 : decode cL_drawn 283 = .ok (.iconst 0, 1) := by decide +kernel
theorem dL_drawn_284 : decode cL_drawn 284 = .ok (.istore 8, 2) := by decide +kernel
theorem dL_drawn_286 : decode cL_drawn 286 = .ok (.iload 8, 2) := by decide +kernel
theorem dL_drawn_288 : decode cL_drawn 288 = .ok (.iload 7, 2) := by decide +kernel
theorem dL_drawn_290 : decode cL_drawn 290 = .ok (.if_icmp .ge 254, 3) := by decide +kernel
theorem dL_drawn_293 : decode cL_drawn 293 = .ok (.iconst 1, 1) := by decide +kernel
theorem dL_drawn_294 : decode cL_drawn 294 = .ok (.bipush 14, 2) := by decide +kernel
theorem dL_drawn_296 : decode cL_drawn 296 = .ok (.iload 8, 2) := by decide +kernel
theorem dL_drawn_298 : decode cL_drawn 298 = .ok (.imul, 1) := by decide +kernel
theorem dL_drawn_299 : decode cL_drawn 299 = .ok (.iadd, 1) := by decide +kernel
theorem dL_drawn_300 : decode cL_drawn 300 = .ok (.istore 9, 2) := by decide +kernel
theorem dL_drawn_302 : decode cL_drawn 302 = .ok (.aload 4, 2) := by decide +kernel
theorem dL_drawn_304 : decode cL_drawn 304 = .ok (.iload 9, 2) := by decide +kernel
theorem dL_drawn_306 : decode cL_drawn 306 = .ok (.aload_n 1, 1) := by decide +kernel
theorem dL_drawn_307 : decode cL_drawn 307 = .ok (.iconst 3, 1) := by decide +kernel
theorem dL_drawn_308 : decode cL_drawn 308 = .ok (.invokestatic 98, 3) := by decide +kernel
theorem dL_drawn_311 : decode cL_drawn 311 = .ok (.ifCond .ne 7, 3) := by decide +kernel
theorem dL_drawn_314 : decode cL_drawn 314 = .ok (.iconst 1, 1) := by decide +kernel
theorem dL_drawn_315 : decode cL_drawn 315 = .ok (.goto 4, 3) := by decide +kernel
theorem dL_drawn_318 : decode cL_drawn 318 = .ok (.iconst 0, 1) := by decide +kernel
theorem dL_drawn_319 : decode cL_drawn 319 = .ok (.iastore, 1) := by decide +kernel
theorem dL_drawn_320 : decode cL_drawn 320 = .ok (.aload 4, 2) := by decide +kernel
theorem dL_drawn_322 : decode cL_drawn 322 = .ok (.iload 9, 2) := by decide +kernel
theorem dL_drawn_324 : decode cL_drawn 324 = .ok (.iconst 1, 1) := by decide +kernel
theorem dL_drawn_325 : decode cL_drawn 325 = .ok (.iadd, 1) := by decide +kernel
theorem dL_drawn_326 : decode cL_drawn 326 = .ok (.iconst 2, 1) := by decide +kernel
theorem dL_drawn_327 : decode cL_drawn 327 = .ok (.aload_n 1, 1) := by decide +kernel
theorem dL_drawn_328 : decode cL_drawn 328 = .ok (.iconst 3, 1) := by decide +kernel
theorem dL_drawn_329 : decode cL_drawn 329 = .ok (.invokestatic 98, 3) := by decide +kernel
theorem dL_drawn_332 : decode cL_drawn 332 = .ok (.iadd, 1) := by decide +kernel
theorem dL_drawn_333 : decode cL_drawn 333 = .ok (.iastore, 1) := by decide +kernel
theorem dL_drawn_334 : decode cL_drawn 334 = .ok (.sipush 430, 3) := by decide +kernel
theorem dL_drawn_337 : decode cL_drawn 337 = .ok (.aload_n 1, 1) := by decide +kernel
theorem dL_drawn_338 : decode cL_drawn 338 = .ok (.sipush 130, 3) := by decide +kernel
theorem dL_drawn_341 : decode cL_drawn 341 = .ok (.invokestatic 98, 3) := by decide +kernel
theorem dL_drawn_344 : decode cL_drawn 344 = .ok (.iadd, 1) := by decide +kernel
theorem dL_drawn_345 : decode cL_drawn 345 = .ok (.istore 10, 2) := by decide +kernel
theorem dL_drawn_347 : decode cL_drawn 347 = .ok (.aload_n 1, 1) := by decide +kernel
theorem dL_drawn_348 : decode cL_drawn 348 = .ok (.iload 5, 2) := by decide +kernel
theorem dL_drawn_350 : decode cL_drawn 350 = .ok (.invokestatic 98, 3) := by decide +kernel
theorem dL_drawn_353 : decode cL_drawn 353 = .ok (.istore 11, 2) := by decide +kernel
theorem dL_drawn_355 : decode cL_drawn 355 = .ok (.iconst 0, 1) := by decide +kernel
theorem dL_drawn_356 : decode cL_drawn 356 = .ok (.istore 12, 2) := by decide +kernel
theorem dL_drawn_358 : decode cL_drawn 358 = .ok (.iload 12, 2) := by decide +kernel
theorem dL_drawn_360 : decode cL_drawn 360 = .ok (.aload 4, 2) := by decide +kernel
theorem dL_drawn_362 : decode cL_drawn 362 = .ok (.iload 9, 2) := by decide +kernel
theorem dL_drawn_364 : decode cL_drawn 364 = .ok (.iconst 1, 1) := by decide +kernel
theorem dL_drawn_365 : decode cL_drawn 365 = .ok (.iadd, 1) := by decide +kernel
theorem dL_drawn_366 : decode cL_drawn 366 = .ok (.iaload, 1) := by decide +kernel
theorem dL_drawn_367 : decode cL_drawn 367 = .ok (.if_icmp .ge 171, 3) := by decide +kernel
theorem dL_drawn_370 : decode cL_drawn 370 = .ok (.aload 4, 2) := by decide +kernel
theorem dL_drawn_372 : decode cL_drawn 372 = .ok (.iload 9, 2) := by decide +kernel
theorem dL_drawn_374 : decode cL_drawn 374 = .ok (.iconst 2, 1) := by decide +kernel
theorem dL_drawn_375 : decode cL_drawn 375 = .ok (.iadd, 1) := by decide +kernel
theorem dL_drawn_376 : decode cL_drawn 376 = .ok (.iconst 3, 1) := by decide +kernel
theorem dL_drawn_377 : decode cL_drawn 377 = .ok (.iload 12, 2) := by decide +kernel
theorem dL_drawn_379 : decode cL_drawn 379 = .ok (.imul, 1) := by decide +kernel
theorem dL_drawn_380 : decode cL_drawn 380 = .ok (.iadd, 1) := by decide +kernel
theorem dL_drawn_381 : decode cL_drawn 381 = .ok (.iload 11, 2) := by decide +kernel
theorem dL_drawn_383 : decode cL_drawn 383 = .ok (.iastore, 1) := by decide +kernel
theorem dL_drawn_384 : decode cL_drawn 384 = .ok (.aload 4, 2) := by decide +kernel
theorem dL_drawn_386 : decode cL_drawn 386 = .ok (.iload 9, 2) := by decide +kernel
theorem dL_drawn_388 : decode cL_drawn 388 = .ok (.iconst 3, 1) := by decide +kernel
theorem dL_drawn_389 : decode cL_drawn 389 = .ok (.iadd, 1) := by decide +kernel
theorem dL_drawn_390 : decode cL_drawn 390 = .ok (.iconst 3, 1) := by decide +kernel
theorem dL_drawn_391 : decode cL_drawn 391 = .ok (.iload 12, 2) := by decide +kernel
theorem dL_drawn_393 : decode cL_drawn 393 = .ok (.imul, 1) := by decide +kernel
theorem dL_drawn_394 : decode cL_drawn 394 = .ok (.iadd, 1) := by decide +kernel
theorem dL_drawn_395 : decode cL_drawn 395 = .ok (.iload 10, 2) := by decide +kernel
theorem dL_drawn_397 : decode cL_drawn 397 = .ok (.iastore, 1) := by decide +kernel
theorem dL_drawn_398 : decode cL_drawn 398 = .ok (.iload 10, 2) := by decide +kernel
theorem dL_drawn_400 : decode cL_drawn 400 = .ok (.iload 12, 2) := by decide +kernel
theorem dL_drawn_402 : decode cL_drawn 402 = .ok (.ifCond .ne 7, 3) := by decide +kernel
theorem dL_drawn_405 : decode cL_drawn 405 = .ok (.iconst 0, 1) := by decide +kernel
theorem dL_drawn_406 : decode cL_drawn 406 = .ok (.goto 8, 3) := by decide +kernel
theorem dL_drawn_409 : decode cL_drawn 409 = .ok (.aload_n 1, 1) := by decide +kernel
theorem dL_drawn_410 : decode cL_drawn 410 = .ok (.iconst 4, 1) := by decide +kernel
theorem dL_drawn_411 : decode cL_drawn 411 = .ok (.invokestatic 98, 3) := by decide +kernel
theorem dL_drawn_414 : decode cL_drawn 414 = .ok (.iadd, 1) := by decide +kernel
theorem dL_drawn_415 : decode cL_drawn 415 = .ok (.istore 10, 2) := by decide +kernel
theorem dL_drawn_417 : decode cL_drawn 417 = .ok (.aload 4, 2) := by decide +kernel
theorem dL_drawn_419 : decode cL_drawn 419 = .ok (.iload 9, 2) := by decide +kernel
theorem dL_drawn_421 : decode cL_drawn 421 = .ok (.iconst 4, 1) := by decide +kernel
theorem dL_drawn_422 : decode cL_drawn 422 = .ok (.iadd, 1) := by decide +kernel
theorem dL_drawn_423 : decode cL_drawn 423 = .ok (.iconst 3, 1) := by decide +kernel
theorem dL_drawn_424 : decode cL_drawn 424 = .ok (.iload 12, 2) := by decide +kernel
theorem dL_drawn_426 : decode cL_drawn 426 = .ok (.imul, 1) := by decide +kernel
theorem dL_drawn_427 : decode cL_drawn 427 = .ok (.iadd, 1) := by decide +kernel
theorem dL_drawn_428 : decode cL_drawn 428 = .ok (.iload 10, 2) := by decide +kernel
theorem dL_drawn_430 : decode cL_drawn 430 = .ok (.iastore, 1) := by decide +kernel
theorem dL_drawn_431 : decode cL_drawn 431 = .ok (.iload 6, 2) := by decide +kernel
theorem dL_drawn_433 : decode cL_drawn 433 = .ok (.iload 12, 2) := by decide +kernel
theorem dL_drawn_435 : decode cL_drawn 435 = .ok (.ifCond .ne 29, 3) := by decide +kernel
theorem dL_drawn_438 : decode cL_drawn 438 = .ok (.aload_n 0, 1) := by decide +kernel
theorem dL_drawn_439 : decode cL_drawn 439 = .ok (.aload 4, 2) := by decide +kernel
theorem dL_drawn_441 : decode cL_drawn 441 = .ok (.iload 9, 2) := by decide +kernel
theorem dL_drawn_443 : decode cL_drawn 443 = .ok (.iaload, 1) := by decide +kernel
theorem dL_drawn_444 : decode cL_drawn 444 = .ok (.iload 11, 2) := by decide +kernel
theorem dL_drawn_446 : decode cL_drawn 446 = .ok (.iload 10, 2) := by decide +kernel
theorem dL_drawn_448 : decode cL_drawn 448 = .ok (.invokestatic 120, 3) := by decide +kernel
theorem dL_drawn_451 : decode cL_drawn 451 = .ok (.iload 8, 2) := by decide +kernel
theorem dL_drawn_453 : decode cL_drawn 453 = .ok (.if_icmp .ne 7, 3) := by decide +kernel
theorem dL_drawn_456 : decode cL_drawn 456 = .ok (.iconst 1, 1) := by decide +kernel
theorem dL_drawn_457 : decode cL_drawn 457 = .ok (.goto 41, 3) := by decide +kernel
theorem dL_drawn_460 : decode cL_drawn 460 = .ok (.iconst 0, 1) := by decide +kernel
theorem dL_drawn_461 : decode cL_drawn 461 = .ok (.goto 37, 3) := by decide +kernel
theorem dL_drawn_464 : decode cL_drawn 464 = .ok (.aload_n 0, 1) := by decide +kernel
theorem dL_drawn_465 : decode cL_drawn 465 = .ok (.iload 8, 2) := by decide +kernel
theorem dL_drawn_467 : decode cL_drawn 467 = .ok (.iload 11, 2) := by decide +kernel
theorem dL_drawn_469 : decode cL_drawn 469 = .ok (.aload 4, 2) := by decide +kernel
theorem dL_drawn_471 : decode cL_drawn 471 = .ok (.iload 9, 2) := by decide +kernel
theorem dL_drawn_473 : decode cL_drawn 473 = .ok (.iconst 3, 1) := by decide +kernel
theorem dL_drawn_474 : decode cL_drawn 474 = .ok (.iadd, 1) := by decide +kernel
theorem dL_drawn_475 : decode cL_drawn 475 = .ok (.iconst 3, 1) := by decide +kernel
theorem dL_drawn_476 : decode cL_drawn 476 = .ok (.iload 12, 2) := by decide +kernel
theorem dL_drawn_478 : decode cL_drawn 478 = .ok (.imul, 1) := by decide +kernel
theorem dL_drawn_479 : decode cL_drawn 479 = .ok (.iadd, 1) := by decide +kernel
theorem dL_drawn_480 : decode cL_drawn 480 = .ok (.iaload, 1) := by decide +kernel
theorem dL_drawn_481 : decode cL_drawn 481 = .ok (.iload 10, 2) := by decide +kernel
theorem dL_drawn_483 : decode cL_drawn 483 = .ok (.invokestatic 122, 3) := by decide +kernel
theorem dL_drawn_486 : decode cL_drawn 486 = .ok (.iload 12, 2) := by decide +kernel
theorem dL_drawn_488 : decode cL_drawn 488 = .ok (.iconst 1, 1) := by decide +kernel
theorem dL_drawn_489 : decode cL_drawn 489 = .ok (.iadd, 1) := by decide +kernel
theorem dL_drawn_490 : decode cL_drawn 490 = .ok (.if_icmp .ne 7, 3) := by decide +kernel
theorem dL_drawn_493 : decode cL_drawn 493 = .ok (.iconst 1, 1) := by decide +kernel
theorem dL_drawn_494 : decode cL_drawn 494 = .ok (.goto 4, 3) := by decide +kernel
theorem dL_drawn_497 : decode cL_drawn 497 = .ok (.iconst 0, 1) := by decide +kernel
theorem dL_drawn_498 : decode cL_drawn 498 = .ok (.iand, 1) := by decide +kernel
theorem dL_drawn_499 : decode cL_drawn 499 = .ok (.istore 6, 2) := by decide +kernel
theorem dL_drawn_501 : decode cL_drawn 501 = .ok (.iload 10, 2) := by decide +kernel
theorem dL_drawn_503 : decode cL_drawn 503 = .ok (.iconst 3, 1) := by decide +kernel
theorem dL_drawn_504 : decode cL_drawn 504 = .ok (.aload_n 1, 1) := by decide +kernel
theorem dL_drawn_505 : decode cL_drawn 505 = .ok (.bipush 25, 2) := by decide +kernel
theorem dL_drawn_507 : decode cL_drawn 507 = .ok (.invokestatic 98, 3) := by decide +kernel
theorem dL_drawn_510 : decode cL_drawn 510 = .ok (.iadd, 1) := by decide +kernel
theorem dL_drawn_511 : decode cL_drawn 511 = .ok (.iadd, 1) := by decide +kernel
theorem dL_drawn_512 : decode cL_drawn 512 = .ok (.istore 10, 2) := by decide +kernel
theorem dL_drawn_514 : decode cL_drawn 514 = .ok (.iload 11, 2) := by decide +kernel
theorem dL_drawn_516 : decode cL_drawn 516 = .ok (.iconst 1, 1) := by decide +kernel
theorem dL_drawn_517 : decode cL_drawn 517 = .ok (.iadd, 1) := by decide +kernel
theorem dL_drawn_518 : decode cL_drawn 518 = .ok (.aload_n 1, 1) := by decide +kernel
theorem dL_drawn_519 : decode cL_drawn 519 = .ok (.iload 5, 2) := by decide +kernel
theorem dL_drawn_521 : decode cL_drawn 521 = .ok (.iconst 1, 1) := by decide +kernel
theorem dL_drawn_522 : decode cL_drawn 522 = .ok (.isub, 1) := by decide +kernel
theorem dL_drawn_523 : decode cL_drawn 523 = .ok (.invokestatic 98, 3) := by decide +kernel
theorem dL_drawn_526 : decode cL_drawn 526 = .ok (.iadd, 1) := by decide +kernel
theorem dL_drawn_527 : decode cL_drawn 527 = .ok (.iload 5, 2) := by decide +kernel
theorem dL_drawn_529 : decode cL_drawn 529 = .ok (.irem, 1) := by decide +kernel
theorem dL_drawn_530 : decode cL_drawn 530 = .ok (.istore 11, 2) := by decide +kernel
theorem dL_drawn_532 : decode cL_drawn 532 = .ok (.iinc 12 1, 3) := by decide +kernel
theorem dL_drawn_535 : decode cL_drawn 535 = .ok (.goto (-177), 3) := by decide +kernel
theorem dL_drawn_538 : decode cL_drawn 538 = .ok (.iinc 8 1, 3) := by decide +kernel
theorem dL_drawn_541 : decode cL_drawn 541 = .ok (.goto (-255), 3) := by decide +kernel
theorem dL_drawn_544 : decode cL_drawn 544 = .ok (.iload 6, 2) := by decide +kernel
theorem dL_drawn_546 : decode cL_drawn 546 = .ok (.ireturn, 1) := by decide +kernel
theorem dL_close_0 : decode cL_close 0 = .ok (.iconst 0, 1) := by decide +kernel
theorem dL_close_1 : decode cL_close 1 = .ok (.istore_n 2, 1) := by decide +kernel
theorem dL_close_2 : decode cL_close 2 = .ok (.iload_n 2, 1) := by decide +kernel
theorem dL_close_3 : decode cL_close 3 = .ok (.iload_n 1, 1) := by decide +kernel
theorem dL_close_4 : decode cL_close 4 = .ok (.if_icmp .ge 94, 3) := by decide +kernel
theorem dL_close_7 : decode cL_close 7 = .ok (.iconst 0, 1) := by decide +kernel
theorem dL_close_8 : decode cL_close 8 = .ok (.istore_n 3, 1) := by decide +kernel
theorem dL_close_9 : decode cL_close 9 = .ok (.iload_n 3, 1) := by decide +kernel
theorem dL_close_10 : decode cL_close 10 = .ok (.iload_n 1, 1) := by decide +kernel
theorem dL_close_11 : decode cL_close 11 = .ok (.if_icmp .ge 81, 3) := by decide +kernel
theorem dL_close_14 : decode cL_close 14 = .ok (.iconst 0, 1) := by decide +kernel
theorem dL_close_15 : decode cL_close 15 = .ok (.istore 4, 2) := by decide +kernel
theorem dL_close_17 : decode cL_close 17 = .ok (.iload 4, 2) := by decide +kernel
theorem dL_close_19 : decode cL_close 19 = .ok (.iload_n 1, 1) := by decide +kernel
theorem dL_close_20 : decode cL_close 20 = .ok (.if_icmp .ge 66, 3) := by decide +kernel
theorem dL_close_23 : decode cL_close 23 = .ok (.aload_n 0, 1) := by decide +kernel
theorem dL_close_24 : decode cL_close 24 = .ok (.bipush 6, 2) := by decide +kernel
theorem dL_close_26 : decode cL_close 26 = .ok (.iload_n 3, 1) := by decide +kernel
theorem dL_close_27 : decode cL_close 27 = .ok (.imul, 1) := by decide +kernel
theorem dL_close_28 : decode cL_close 28 = .ok (.iload_n 2, 1) := by decide +kernel
theorem dL_close_29 : decode cL_close 29 = .ok (.iadd, 1) := by decide +kernel
theorem dL_close_30 : decode cL_close 30 = .ok (.iaload, 1) := by decide +kernel
theorem dL_close_31 : decode cL_close 31 = .ok (.aload_n 0, 1) := by decide +kernel
theorem dL_close_32 : decode cL_close 32 = .ok (.bipush 6, 2) := by decide +kernel
theorem dL_close_34 : decode cL_close 34 = .ok (.iload_n 2, 1) := by decide +kernel
theorem dL_close_35 : decode cL_close 35 = .ok (.imul, 1) := by decide +kernel
theorem dL_close_36 : decode cL_close 36 = .ok (.iload 4, 2) := by decide +kernel
theorem dL_close_38 : decode cL_close 38 = .ok (.iadd, 1) := by decide +kernel
theorem dL_close_39 : decode cL_close 39 = .ok (.iaload, 1) := by decide +kernel
theorem dL_close_40 : decode cL_close 40 = .ok (.iadd, 1) := by decide +kernel
theorem dL_close_41 : decode cL_close 41 = .ok (.istore 5, 2) := by decide +kernel
theorem dL_close_43 : decode cL_close 43 = .ok (.aload_n 0, 1) := by decide +kernel
theorem dL_close_44 : decode cL_close 44 = .ok (.bipush 6, 2) := by decide +kernel
theorem dL_close_46 : decode cL_close 46 = .ok (.iload_n 3, 1) := by decide +kernel
theorem dL_close_47 : decode cL_close 47 = .ok (.imul, 1) := by decide +kernel
theorem dL_close_48 : decode cL_close 48 = .ok (.iload 4, 2) := by decide +kernel
theorem dL_close_50 : decode cL_close 50 = .ok (.iadd, 1) := by decide +kernel
theorem dL_close_51 : decode cL_close 51 = .ok (.iload 5, 2) := by decide +kernel
theorem dL_close_53 : decode cL_close 53 = .ok (.aload_n 0, 1) := by decide +kernel
theorem dL_close_54 : decode cL_close 54 = .ok (.bipush 6, 2) := by decide +kernel
theorem dL_close_56 : decode cL_close 56 = .ok (.iload_n 3, 1) := by decide +kernel
theorem dL_close_57 : decode cL_close 57 = .ok (.imul, 1) := by decide +kernel
theorem dL_close_58 : decode cL_close 58 = .ok (.iload 4, 2) := by decide +kernel
theorem dL_close_60 : decode cL_close 60 = .ok (.iadd, 1) := by decide +kernel
theorem dL_close_61 : decode cL_close 61 = .ok (.iaload, 1) := by decide +kernel
theorem dL_close_62 : decode cL_close 62 = .ok (.if_icmp .ge 8, 3) := by decide +kernel
theorem dL_close_65 : decode cL_close 65 = .ok (.iload 5, 2) := by decide +kernel
theorem dL_close_67 : decode cL_close 67 = .ok (.goto 12, 3) := by decide +kernel
theorem dL_close_70 : decode cL_close 70 = .ok (.aload_n 0, 1) := by decide +kernel
theorem dL_close_71 : decode cL_close 71 = .ok (.bipush 6, 2) := by decide +kernel
theorem dL_close_73 : decode cL_close 73 = .ok (.iload_n 3, 1) := by decide +kernel
theorem dL_close_74 : decode cL_close 74 = .ok (.imul, 1) := by decide +kernel
theorem dL_close_75 : decode cL_close 75 = .ok (.iload 4, 2) := by decide +kernel
theorem dL_close_77 : decode cL_close 77 = .ok (.iadd, 1) := by decide +kernel
theorem dL_close_78 : decode cL_close 78 = .ok (.iaload, 1) := by decide +kernel
theorem dL_close_79 : decode cL_close 79 = .ok (.iastore, 1) := by decide +kernel
theorem dL_close_80 : decode cL_close 80 = .ok (.iinc 4 1, 3) := by decide +kernel
theorem dL_close_83 : decode cL_close 83 = .ok (.goto (-66), 3) := by decide +kernel
theorem dL_close_86 : decode cL_close 86 = .ok (.iinc 3 1, 3) := by decide +kernel
theorem dL_close_89 : decode cL_close 89 = .ok (.goto (-80), 3) := by decide +kernel
theorem dL_close_92 : decode cL_close 92 = .ok (.iinc 2 1, 3) := by decide +kernel
theorem dL_close_95 : decode cL_close 95 = .ok (.goto (-93), 3) := by decide +kernel
theorem dL_close_98 : decode cL_close 98 = .ok (.return_, 1) := by decide +kernel
theorem dL_reach_0 : decode cL_reach 0 = .ok (.aload_n 3, 1) := by decide +kernel
theorem dL_reach_1 : decode cL_reach 1 = .ok (.bipush 6, 2) := by decide +kernel
theorem dL_reach_3 : decode cL_reach 3 = .ok (.iaload, 1) := by decide +kernel
theorem dL_reach_4 : decode cL_reach 4 = .ok (.istore 8, 2) := by decide +kernel
theorem dL_reach_6 : decode cL_reach 6 = .ok (.iconst 0, 1) := by decide +kernel
theorem dL_reach_7 : decode cL_reach 7 = .ok (.istore 9, 2) := by decide +kernel
theorem dL_reach_9 : decode cL_reach 9 = .ok (.iload 9, 2) := by decide +kernel
theorem dL_reach_11 : decode cL_reach 11 = .ok (.iload 8, 2) := by decide +kernel
theorem dL_reach_13 : decode cL_reach 13 = .ok (.if_icmp .ge 33, 3) := by decide +kernel
theorem dL_reach_16 : decode cL_reach 16 = .ok (.aload 6, 2) := by decide +kernel
theorem dL_reach_18 : decode cL_reach 18 = .ok (.iload 9, 2) := by decide +kernel
theorem dL_reach_20 : decode cL_reach 20 = .ok (.iload_n 1, 1) := by decide +kernel
theorem dL_reach_21 : decode cL_reach 21 = .ok (.aload 4, 2) := by decide +kernel
theorem dL_reach_23 : decode cL_reach 23 = .ok (.bipush 6, 2) := by decide +kernel
theorem dL_reach_25 : decode cL_reach 25 = .ok (.iload_n 0, 1) := by decide +kernel
theorem dL_reach_26 : decode cL_reach 26 = .ok (.imul, 1) := by decide +kernel
theorem dL_reach_27 : decode cL_reach 27 = .ok (.iload 9, 2) := by decide +kernel
theorem dL_reach_29 : decode cL_reach 29 = .ok (.iadd, 1) := by decide +kernel
theorem dL_reach_30 : decode cL_reach 30 = .ok (.iaload, 1) := by decide +kernel
theorem dL_reach_31 : decode cL_reach 31 = .ok (.iadd, 1) := by decide +kernel
theorem dL_reach_32 : decode cL_reach 32 = .ok (.iastore, 1) := by decide +kernel
theorem dL_reach_33 : decode cL_reach 33 = .ok (.aload 7, 2) := by decide +kernel
theorem dL_reach_35 : decode cL_reach 35 = .ok (.iload 9, 2) := by decide +kernel
theorem dL_reach_37 : decode cL_reach 37 = .ok (.ldc 116, 2) := by decide +kernel
theorem dL_reach_39 : decode cL_reach 39 = .ok (.iastore, 1) := by decide +kernel
theorem dL_reach_40 : decode cL_reach 40 = .ok (.iinc 9 1, 3) := by decide +kernel
theorem dL_reach_43 : decode cL_reach 43 = .ok (.goto (-34), 3) := by decide +kernel
theorem dL_reach_46 : decode cL_reach 46 = .ok (.iconst 1, 1) := by decide +kernel
theorem dL_reach_47 : decode cL_reach 47 = .ok (.istore 9, 2) := by decide +kernel
theorem dL_reach_49 : decode cL_reach 49 = .ok (.iload 9, 2) := by decide +kernel
theorem dL_reach_51 : decode cL_reach 51 = .ok (.ifCond .eq 280, 3) := by decide +kernel
theorem dL_reach_54 : decode cL_reach 54 = .ok (.iconst 0, 1) := by decide +kernel
theorem dL_reach_55 : decode cL_reach 55 = .ok (.istore 9, 2) := by decide +kernel
theorem dL_reach_57 : decode cL_reach 57 = .ok (.iconst 0, 1) := by decide +kernel
theorem dL_reach_58 : decode cL_reach 58 = .ok (.istore 10, 2) := by decide +kernel
theorem dL_reach_60 : decode cL_reach 60 = .ok (.iload 10, 2) := by decide +kernel
theorem dL_reach_62 : decode cL_reach 62 = .ok (.iconst 3, 1) := by decide +kernel
theorem dL_reach_63 : decode cL_reach 63 = .ok (.aload 5, 2) := by decide +kernel
theorem dL_reach_65 : decode cL_reach 65 = .ok (.iconst 0, 1) := by decide +kernel
theorem dL_reach_66 : decode cL_reach 66 = .ok (.iaload, 1) := by decide +kernel
theorem dL_reach_67 : decode cL_reach 67 = .ok (.imul, 1) := by decide +kernel
theorem dL_reach_68 : decode cL_reach 68 = .ok (.if_icmp .ge 260, 3) := by decide +kernel
theorem dL_reach_71 : decode cL_reach 71 = .ok (.iconst 1, 1) := by decide +kernel
theorem dL_reach_72 : decode cL_reach 72 = .ok (.bipush 14, 2) := by decide +kernel
theorem dL_reach_74 : decode cL_reach 74 = .ok (.iload 10, 2) := by decide +kernel
theorem dL_reach_76 : decode cL_reach 76 = .ok (.iconst 3, 1) := by decide +kernel
theorem dL_reach_77 : decode cL_reach 77 = .ok (.idiv, 1) := by decide +kernel
theorem dL_reach_78 : decode cL_reach 78 = .ok (.imul, 1) := by decide +kernel
theorem dL_reach_79 : decode cL_reach 79 = .ok (.iadd, 1) := by decide +kernel
theorem dL_reach_80 : decode cL_reach 80 = .ok (.istore 11, 2) := by decide +kernel
theorem dL_reach_82 : decode cL_reach 82 = .ok (.sipush 1440, 3) := by decide +kernel
theorem dL_reach_85 : decode cL_reach 85 = .ok (.iload 10, 2) := by decide +kernel
theorem dL_reach_87 : decode cL_reach 87 = .ok (.iconst 3, 1) := by decide +kernel
theorem dL_reach_88 : decode cL_reach 88 = .ok (.irem, 1) := by decide +kernel
theorem dL_reach_89 : decode cL_reach 89 = .ok (.iconst 1, 1) := by decide +kernel
theorem dL_reach_90 : decode cL_reach 90 = .ok (.isub, 1) := by decide +kernel
theorem dL_reach_91 : decode cL_reach 91 = .ok (.imul, 1) := by decide +kernel
theorem dL_reach_92 : decode cL_reach 92 = .ok (.istore 12, 2) := by decide +kernel
theorem dL_reach_94 : decode cL_reach 94 = .ok (.iconst 0, 1) := by decide +kernel
theorem dL_reach_95 : decode cL_reach 95 = .ok (.istore 13, 2) := by decide +kernel
theorem dL_reach_97 : decode cL_reach 97 = .ok (.iconst 0, 1) := by decide +kernel
theorem dL_reach_98 : decode cL_reach 98 = .ok (.istore 14, 2) := by decide +kernel
theorem dL_reach_100 : decode cL_reach 100 = .ok (.aload 5, 2) := by decide +kernel
theorem dL_reach_102 : decode cL_reach 102 = .ok (.iload 11, 2) := by decide +kernel
theorem dL_reach_104 : decode cL_reach 104 = .ok (.iaload, 1) := by decide +kernel
theorem dL_reach_105 : decode cL_reach 105 = .ok (.ifCond .eq 8, 3) := by decide +kernel
theorem dL_reach_108 : decode cL_reach 108 = .ok (.iload 12, 2) := by decide +kernel
theorem dL_reach_110 : decode cL_reach 110 = .ok (.ifCond .ne 212, 3) := by decide +kernel
theorem dL_reach_113 : decode cL_reach 113 = .ok (.iload 14, 2) := by decide +kernel
theorem dL_reach_115 : decode cL_reach 115 = .ok (.aload 5, 2) := by decide +kernel
theorem dL_reach_117 : decode cL_reach 117 = .ok (.iload 11, 2) := by decide +kernel
theorem dL_reach_119 : decode cL_reach 119 = .ok (.iconst 1, 1) := by decide +kernel
theorem dL_reach_120 : decode cL_reach 120 = .ok (.iadd, 1) := by decide +kernel
theorem dL_reach_121 : decode cL_reach 121 = .ok (.iaload, 1) := by decide +kernel
theorem dL_reach_122 : decode cL_reach 122 = .ok (.if_icmp .ge 200, 3) := by decide +kernel
theorem dL_reach_125 : decode cL_reach 125 = .ok (.aload 5, 2) := by decide +kernel
theorem dL_reach_127 : decode cL_reach 127 = .ok (.iload 11, 2) := by decide +kernel
theorem dL_reach_129 : decode cL_reach 129 = .ok (.iconst 2, 1) := by decide +kernel
theorem dL_reach_130 : decode cL_reach 130 = .ok (.iadd, 1) := by decide +kernel
theorem dL_reach_131 : decode cL_reach 131 = .ok (.iconst 3, 1) := by decide +kernel
theorem dL_reach_132 : decode cL_reach 132 = .ok (.iload 14, 2) := by decide +kernel
theorem dL_reach_134 : decode cL_reach 134 = .ok (.imul, 1) := by decide +kernel
theorem dL_reach_135 : decode cL_reach 135 = .ok (.iadd, 1) := by decide +kernel
theorem dL_reach_136 : decode cL_reach 136 = .ok (.iaload, 1) := by decide +kernel
theorem dL_reach_137 : decode cL_reach 137 = .ok (.istore 15, 2) := by decide +kernel
theorem dL_reach_139 : decode cL_reach 139 = .ok (.aload 5, 2) := by decide +kernel
theorem dL_reach_141 : decode cL_reach 141 = .ok (.iload 11, 2) := by decide +kernel
theorem dL_reach_143 : decode cL_reach 143 = .ok (.iconst 3, 1) := by decide +kernel
theorem dL_reach_144 : decode cL_reach 144 = .ok (.iadd, 1) := by decide +kernel
theorem dL_reach_145 : decode cL_reach 145 = .ok (.iconst 3, 1) := by decide +kernel
theorem dL_reach_146 : decode cL_reach 146 = .ok (.iload 14, 2) := by decide +kernel
theorem dL_reach_148 : decode cL_reach 148 = .ok (.imul, 1) := by decide +kernel
theorem dL_reach_149 : decode cL_reach 149 = .ok (.iadd, 1) := by decide +kernel
theorem dL_reach_150 : decode cL_reach 150 = .ok (.iaload, 1) := by decide +kernel
theorem dL_reach_151 : decode cL_reach 151 = .ok (.iload 12, 2) := by decide +kernel
theorem dL_reach_153 : decode cL_reach 153 = .ok (.iadd, 1) := by decide +kernel
theorem dL_reach_154 : decode cL_reach 154 = .ok (.istore 16, 2) := by decide +kernel
theorem dL_reach_156 : decode cL_reach 156 = .ok (.aload 5, 2) := by decide +kernel
theorem dL_reach_158 : decode cL_reach 158 = .ok (.iload 11, 2) := by decide +kernel
theorem dL_reach_160 : decode cL_reach 160 = .ok (.iconst 4, 1) := by decide +kernel
theorem dL_reach_161 : decode cL_reach 161 = .ok (.iadd, 1) := by decide +kernel
theorem dL_reach_162 : decode cL_reach 162 = .ok (.iconst 3, 1) := by decide +kernel
theorem dL_reach_163 : decode cL_reach 163 = .ok (.iload 14, 2) := by decide +kernel
theorem dL_reach_165 : decode cL_reach 165 = .ok (.imul, 1) := by decide +kernel
theorem dL_reach_166 : decode cL_reach 166 = .ok (.iadd, 1) := by decide +kernel
theorem dL_reach_167 : decode cL_reach 167 = .ok (.iaload, 1) := by decide +kernel
theorem dL_reach_168 : decode cL_reach 168 = .ok (.iload 12, 2) := by decide +kernel
theorem dL_reach_170 : decode cL_reach 170 = .ok (.iadd, 1) := by decide +kernel
theorem dL_reach_171 : decode cL_reach 171 = .ok (.istore 17, 2) := by decide +kernel
theorem dL_reach_173 : decode cL_reach 173 = .ok (.iload 13, 2) := by decide +kernel
theorem dL_reach_175 : decode cL_reach 175 = .ok (.ifCond .eq 93, 3) := by decide +kernel
theorem dL_reach_178 : decode cL_reach 178 = .ok (.iload 15, 2) := by decide +kernel
theorem dL_reach_180 : decode cL_reach 180 = .ok (.iload_n 2, 1) := by decide +kernel
theorem dL_reach_181 : decode cL_reach 181 = .ok (.if_icmp .eq 87, 3) := by decide +kernel
theorem dL_reach_184 : decode cL_reach 184 = .ok (.iload 16, 2) := by decide +kernel
theorem dL_reach_186 : decode cL_reach 186 = .ok (.aload 7, 2) := by decide +kernel
theorem dL_reach_188 : decode cL_reach 188 = .ok (.iload 15, 2) := by decide +kernel
theorem dL_reach_190 : decode cL_reach 190 = .ok (.iaload, 1) := by decide +kernel
theorem dL_reach_191 : decode cL_reach 191 = .ok (.if_icmp .ge 77, 3) := by decide +kernel
theorem dL_reach_194 : decode cL_reach 194 = .ok (.aload 7, 2) := by decide +kernel
theorem dL_reach_196 : decode cL_reach 196 = .ok (.iload 15, 2) := by decide +kernel
theorem dL_reach_198 : decode cL_reach 198 = .ok (.iload 16, 2) := by decide +kernel
theorem dL_reach_200 : decode cL_reach 200 = .ok (.iastore, 1) := by decide +kernel
theorem dL_reach_201 : decode cL_reach 201 = .ok (.iconst 1, 1) := by decide +kernel
theorem dL_reach_202 : decode cL_reach 202 = .ok (.istore 9, 2) := by decide +kernel
theorem dL_reach_204 : decode cL_reach 204 = .ok (.iconst 0, 1) := by decide +kernel
theorem dL_reach_205 : decode cL_reach 205 = .ok (.istore 18, 2) := by decide +kernel
theorem dL_reach_207 : decode cL_reach 207 = .ok (.iload 18, 2) := by decide +kernel
theorem dL_reach_209 : decode cL_reach 209 = .ok (.iload 8, 2) := by decide +kernel
theorem dL_reach_211 : decode cL_reach 211 = .ok (.if_icmp .ge 57, 3) := by decide +kernel
theorem dL_reach_214 : decode cL_reach 214 = .ok (.iload 16, 2) := by decide +kernel
theorem dL_reach_216 : decode cL_reach 216 = .ok (.aload 4, 2) := by decide +kernel
theorem dL_reach_218 : decode cL_reach 218 = .ok (.bipush 6, 2) := by decide +kernel
theorem dL_reach_220 : decode cL_reach 220 = .ok (.iload 15, 2) := by decide +kernel
theorem dL_reach_222 : decode cL_reach 222 = .ok (.imul, 1) := by decide +kernel
theorem dL_reach_223 : decode cL_reach 223 = .ok (.iload 18, 2) := by decide +kernel
theorem dL_reach_225 : decode cL_reach 225 = .ok (.iadd, 1) := by decide +kernel
theorem dL_reach_226 : decode cL_reach 226 = .ok (.iaload, 1) := by decide +kernel
theorem dL_reach_227 : decode cL_reach 227 = .ok (.iadd, 1) := by decide +kernel
theorem dL_reach_228 : decode cL_reach 228 = .ok (.istore 19, 2) := by decide +kernel
theorem dL_reach_230 : decode cL_reach 230 = .ok (.aload 6, 2) := by decide +kernel
theorem dL_reach_232 : decode cL_reach 232 = .ok (.iload 18, 2) := by decide +kernel
theorem dL_reach_234 : decode cL_reach 234 = .ok (.iload 18, 2) := by decide +kernel
theorem dL_reach_236 : decode cL_reach 236 = .ok (.iload 15, 2) := by decide +kernel
theorem dL_reach_238 : decode cL_reach 238 = .ok (.if_icmp .eq 18, 3) := by decide +kernel
theorem dL_reach_241 : decode cL_reach 241 = .ok (.iload 19, 2) := by decide +kernel
theorem dL_reach_243 : decode cL_reach 243 = .ok (.aload 6, 2) := by decide +kernel
theorem dL_reach_245 : decode cL_reach 245 = .ok (.iload 18, 2) := by decide +kernel
theorem dL_reach_247 : decode cL_reach 247 = .ok (.iaload, 1) := by decide +kernel
theorem dL_reach_248 : decode cL_reach 248 = .ok (.if_icmp .ge 8, 3) := by decide +kernel
theorem dL_reach_251 : decode cL_reach 251 = .ok (.iload 19, 2) := by decide +kernel
theorem dL_reach_253 : decode cL_reach 253 = .ok (.goto 8, 3) := by decide +kernel
theorem dL_reach_256 : decode cL_reach 256 = .ok (.aload 6, 2) := by decide +kernel
theorem dL_reach_258 : decode cL_reach 258 = .ok (.iload 18, 2) := by decide +kernel
theorem dL_reach_260 : decode cL_reach 260 = .ok (.iaload, 1) := by decide +kernel
theorem dL_reach_261 : decode cL_reach 261 = .ok (.iastore, 1) := by decide +kernel
theorem dL_reach_262 : decode cL_reach 262 = .ok (.iinc 18 1, 3) := by decide +kernel
theorem dL_reach_265 : decode cL_reach 265 = .ok (.goto (-58), 3) := by decide +kernel
theorem dL_reach_268 : decode cL_reach 268 = .ok (.iload 13, 2) := by decide +kernel
theorem dL_reach_270 : decode cL_reach 270 = .ok (.ifCond .ne 39, 3) := by decide +kernel
theorem dL_reach_273 : decode cL_reach 273 = .ok (.iload 17, 2) := by decide +kernel
theorem dL_reach_275 : decode cL_reach 275 = .ok (.ifCond .lt 38, 3) := by decide +kernel
theorem dL_reach_278 : decode cL_reach 278 = .ok (.iload 15, 2) := by decide +kernel
theorem dL_reach_280 : decode cL_reach 280 = .ok (.iload_n 2, 1) := by decide +kernel
theorem dL_reach_281 : decode cL_reach 281 = .ok (.if_icmp .eq 32, 3) := by decide +kernel
theorem dL_reach_284 : decode cL_reach 284 = .ok (.aload 6, 2) := by decide +kernel
theorem dL_reach_286 : decode cL_reach 286 = .ok (.iload 15, 2) := by decide +kernel
theorem dL_reach_288 : decode cL_reach 288 = .ok (.iaload, 1) := by decide +kernel
theorem dL_reach_289 : decode cL_reach 289 = .ok (.iload 17, 2) := by decide +kernel
theorem dL_reach_291 : decode cL_reach 291 = .ok (.if_icmp .le 18, 3) := by decide +kernel
theorem dL_reach_294 : decode cL_reach 294 = .ok (.aload 7, 2) := by decide +kernel
theorem dL_reach_296 : decode cL_reach 296 = .ok (.iload 15, 2) := by decide +kernel
theorem dL_reach_298 : decode cL_reach 298 = .ok (.iaload, 1) := by decide +kernel
theorem dL_reach_299 : decode cL_reach 299 = .ok (.aload_n 3, 1) := by decide +kernel
theorem dL_reach_300 : decode cL_reach 300 = .ok (.iload 15, 2) := by decide +kernel
theorem dL_reach_302 : decode cL_reach 302 = .ok (.iaload, 1) := by decide +kernel
theorem dL_reach_303 : decode cL_reach 303 = .ok (.iadd, 1) := by decide +kernel
theorem dL_reach_304 : decode cL_reach 304 = .ok (.iload 17, 2) := by decide +kernel
theorem dL_reach_306 : decode cL_reach 306 = .ok (.if_icmp .gt 7, 3) := by decide +kernel
theorem dL_reach_309 : decode cL_reach 309 = .ok (.iconst 1, 1) := by decide +kernel
theorem dL_reach_310 : decode cL_reach 310 = .ok (.goto 4, 3) := by decide +kernel
theorem dL_reach_313 : decode cL_reach 313 = .ok (.iconst 0, 1) := by decide +kernel
theorem dL_reach_314 : decode cL_reach 314 = .ok (.istore 13, 2) := by decide +kernel
theorem dL_reach_316 : decode cL_reach 316 = .ok (.iinc 14 1, 3) := by decide +kernel
theorem dL_reach_319 : decode cL_reach 319 = .ok (.goto (-219), 3) := by decide +kernel
theorem dL_reach_322 : decode cL_reach 322 = .ok (.iinc 10 1, 3) := by decide +kernel
theorem dL_reach_325 : decode cL_reach 325 = .ok (.goto (-265), 3) := by decide +kernel
theorem dL_reach_328 : decode cL_reach 328 = .ok (.goto (-279), 3) := by decide +kernel
theorem dL_reach_331 : decode cL_reach 331 = .ok (.return_, 1) := by decide +kernel
theorem dL_least_0 : decode cL_least 0 = .ok (.iload_n 0, 1) := by decide +kernel
theorem dL_least_1 : decode cL_least 1 = .ok (.iload_n 1, 1) := by decide +kernel
theorem dL_least_2 : decode cL_least 2 = .ok (.if_icmp .ge 7, 3) := by decide +kernel
theorem dL_least_5 : decode cL_least 5 = .ok (.iload_n 0, 1) := by decide +kernel
theorem dL_least_6 : decode cL_least 6 = .ok (.goto 4, 3) := by decide +kernel
theorem dL_least_9 : decode cL_least 9 = .ok (.iload_n 1, 1) := by decide +kernel
theorem dL_least_10 : decode cL_least 10 = .ok (.ireturn, 1) := by decide +kernel
theorem dL_along_0 : decode cL_along 0 = .ok (.iload_n 2, 1) := by decide +kernel
theorem dL_along_1 : decode cL_along 1 = .ok (.istore 8, 2) := by decide +kernel
theorem dL_along_3 : decode cL_along 3 = .ok (.iload 4, 2) := by decide +kernel
