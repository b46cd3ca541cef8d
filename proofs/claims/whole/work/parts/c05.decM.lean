theorem dX12_init_0 : decode cX12_init 0 = .ok (.aload_n 0, 1) := by decide +kernel
theorem dX12_init_1 : decode cX12_init 1 = .ok (.invokespecial 1, 3) := by decide +kernel
theorem dX12_init_4 : decode cX12_init 4 = .ok (.aload_n 0, 1) := by decide +kernel
theorem dX12_init_5 : decode cX12_init 5 = .ok (.bipush 12, 2) := by decide +kernel
theorem dX12_init_7 : decode cX12_init 7 = .ok (.newarray .int, 2) := by decide +kernel
theorem dX12_init_9 : decode cX12_init 9 = .ok (.putfield 9, 3) := by decide +kernel
theorem dX12_init_12 : decode cX12_init 12 = .ok (.aload_n 0, 1) := by decide +kernel
theorem dX12_init_13 : decode cX12_init 13 = .ok (.sipush 144, 3) := by decide +kernel
theorem dX12_init_16 : decode cX12_init 16 = .ok (.newarray .int, 2) := by decide +kernel
theorem dX12_init_18 : decode cX12_init 18 = .ok (.putfield 13, 3) := by decide +kernel
theorem dX12_init_21 : decode cX12_init 21 = .ok (.aload_n 0, 1) := by decide +kernel
theorem dX12_init_22 : decode cX12_init 22 = .ok (.sipush 144, 3) := by decide +kernel
theorem dX12_init_25 : decode cX12_init 25 = .ok (.newarray .int, 2) := by decide +kernel
theorem dX12_init_27 : decode cX12_init 27 = .ok (.putfield 16, 3) := by decide +kernel
theorem dX12_init_30 : decode cX12_init 30 = .ok (.aload_n 0, 1) := by decide +kernel
theorem dX12_init_31 : decode cX12_init 31 = .ok (.iconst (-1), 1) := by decide +kernel
theorem dX12_init_32 : decode cX12_init 32 = .ok (.putfield 19, 3) := by decide +kernel
theorem dX12_init_35 : decode cX12_init 35 = .ok (.aload_n 0, 1) := by decide +kernel
theorem dX12_init_36 : decode cX12_init 36 = .ok (.sipush 168, 3) := by decide +kernel
theorem dX12_init_39 : decode cX12_init 39 = .ok (.newarray .boolean, 2) := by decide +kernel
theorem dX12_init_41 : decode cX12_init 41 = .ok (.putfield 23, 3) := by decide +kernel
theorem dX12_init_44 : decode cX12_init 44 = .ok (.aload_n 0, 1) := by decide +kernel
theorem dX12_init_45 : decode cX12_init 45 = .ok (.bipush 24, 2) := by decide +kernel
theorem dX12_init_47 : decode cX12_init 47 = .ok (.newarray .int, 2) := by decide +kernel
theorem dX12_init_49 : decode cX12_init 49 = .ok (.putfield 27, 3) := by decide +kernel
theorem dX12_init_52 : decode cX12_init 52 = .ok (.aload_n 0, 1) := by decide +kernel
theorem dX12_init_53 : decode cX12_init 53 = .ok (.bipush 24, 2) := by decide +kernel
theorem dX12_init_55 : decode cX12_init 55 = .ok (.newarray .int, 2) := by decide +kernel
theorem dX12_init_57 : decode cX12_init 57 = .ok (.putfield 30, 3) := by decide +kernel
theorem dX12_init_60 : decode cX12_init 60 = .ok (.aload_n 0, 1) := by decide +kernel
theorem dX12_init_61 : decode cX12_init 61 = .ok (.sipush 192, 3) := by decide +kernel
theorem dX12_init_64 : decode cX12_init 64 = .ok (.newarray .int, 2) := by decide +kernel
theorem dX12_init_66 : decode cX12_init 66 = .ok (.putfield 33, 3) := by decide +kernel
theorem dX12_init_69 : decode cX12_init 69 = .ok (.aload_n 0, 1) := by decide +kernel
theorem dX12_init_70 : decode cX12_init 70 = .ok (.sipush 192, 3) := by decide +kernel
theorem dX12_init_73 : decode cX12_init 73 = .ok (.newarray .int, 2) := by decide +kernel
theorem dX12_init_75 : decode cX12_init 75 = .ok (.putfield 36, 3) := by decide +kernel
theorem dX12_init_78 : decode cX12_init 78 = .ok (.aload_n 0, 1) := by decide +kernel
theorem dX12_init_79 : decode cX12_init 79 = .ok (.sipush 192, 3) := by decide +kernel
theorem dX12_init_82 : decode cX12_init 82 = .ok (.newarray .int, 2) := by decide +kernel
theorem dX12_init_84 : decode cX12_init 84 = .ok (.putfield 39, 3) := by decide +kernel
theorem dX12_init_87 : decode cX12_init 87 = .ok (.aload_n 0, 1) := by decide +kernel
theorem dX12_init_88 : decode cX12_init 88 = .ok (.bipush 12, 2) := by decide +kernel
theorem dX12_init_90 : decode cX12_init 90 = .ok (.newarray .int, 2) := by decide +kernel
theorem dX12_init_92 : decode cX12_init 92 = .ok (.putfield 42, 3) := by decide +kernel
theorem dX12_init_95 : decode cX12_init 95 = .ok (.aload_n 0, 1) := by decide +kernel
theorem dX12_init_96 : decode cX12_init 96 = .ok (.bipush 12, 2) := by decide +kernel
theorem dX12_init_98 : decode cX12_init 98 = .ok (.newarray .int, 2) := by decide +kernel
theorem dX12_init_100 : decode cX12_init 100 = .ok (.putfield 45, 3) := by decide +kernel
theorem dX12_init_103 : decode cX12_init 103 = .ok (.aload_n 0, 1) := by decide +kernel
theorem dX12_init_104 : decode cX12_init 104 = .ok (.bipush 12, 2) := by decide +kernel
theorem dX12_init_106 : decode cX12_init 106 = .ok (.newarray .int, 2) := by decide +kernel
theorem dX12_init_108 : decode cX12_init 108 = .ok (.putfield 48, 3) := by decide +kernel
theorem dX12_init_111 : decode cX12_init 111 = .ok (.aload_n 0, 1) := by decide +kernel
theorem dX12_init_112 : decode cX12_init 112 = .ok (.bipush 12, 2) := by decide +kernel
theorem dX12_init_114 : decode cX12_init 114 = .ok (.newarray .int, 2) := by decide +kernel
theorem dX12_init_116 : decode cX12_init 116 = .ok (.putfield 51, 3) := by decide +kernel
theorem dX12_init_119 : decode cX12_init 119 = .ok (.aload_n 0, 1) := by decide +kernel
theorem dX12_init_120 : decode cX12_init 120 = .ok (.bipush 80, 2) := by decide +kernel
theorem dX12_init_122 : decode cX12_init 122 = .ok (.newarray .int, 2) := by decide +kernel
theorem dX12_init_124 : decode cX12_init 124 = .ok (.putfield 54, 3) := by decide +kernel
theorem dX12_init_127 : decode cX12_init 127 = .ok (.aload_n 0, 1) := by decide +kernel
theorem dX12_init_128 : decode cX12_init 128 = .ok (.iconst (-1), 1) := by decide +kernel
theorem dX12_init_129 : decode cX12_init 129 = .ok (.putfield 57, 3) := by decide +kernel
theorem dX12_init_132 : decode cX12_init 132 = .ok (.aload_n 0, 1) := by decide +kernel
theorem dX12_init_133 : decode cX12_init 133 = .ok (.bipush 12, 2) := by decide +kernel
theorem dX12_init_135 : decode cX12_init 135 = .ok (.newarray .int, 2) := by decide +kernel
theorem dX12_init_137 : decode cX12_init 137 = .ok (.putfield 60, 3) := by decide +kernel
theorem dX12_init_140 : decode cX12_init 140 = .ok (.aload_n 0, 1) := by decide +kernel
theorem dX12_init_141 : decode cX12_init 141 = .ok (.bipush 12, 2) := by decide +kernel
theorem dX12_init_143 : decode cX12_init 143 = .ok (.newarray .int, 2) := by decide +kernel
theorem dX12_init_145 : decode cX12_init 145 = .ok (.putfield 63, 3) := by decide +kernel
theorem dX12_init_148 : decode cX12_init 148 = .ok (.aload_n 0, 1) := by decide +kernel
theorem dX12_init_149 : decode cX12_init 149 = .ok (.sipush 888, 3) := by decide +kernel
theorem dX12_init_152 : decode cX12_init 152 = .ok (.newarray .int, 2) := by decide +kernel
theorem dX12_init_154 : decode cX12_init 154 = .ok (.putfield 66, 3) := by decide +kernel
theorem dX12_init_157 : decode cX12_init 157 = .ok (.aload_n 0, 1) := by decide +kernel
theorem dX12_init_158 : decode cX12_init 158 = .ok (.sipush 888, 3) := by decide +kernel
theorem dX12_init_161 : decode cX12_init 161 = .ok (.newarray .int, 2) := by decide +kernel
theorem dX12_init_163 : decode cX12_init 163 = .ok (.putfield 69, 3) := by decide +kernel
theorem dX12_init_166 : decode cX12_init 166 = .ok (.aload_n 0, 1) := by decide +kernel
theorem dX12_init_167 : decode cX12_init 167 = .ok (.iconst (-1), 1) := by decide +kernel
theorem dX12_init_168 : decode cX12_init 168 = .ok (.putfield 72, 3) := by decide +kernel
theorem dX12_init_171 : decode cX12_init 171 = .ok (.aload_n 0, 1) := by decide +kernel
theorem dX12_init_172 : decode cX12_init 172 = .ok (.bipush 74, 2) := by decide +kernel
theorem dX12_init_174 : decode cX12_init 174 = .ok (.newarray .int, 2) := by decide +kernel
theorem dX12_init_176 : decode cX12_init 176 = .ok (.putfield 75, 3) := by decide +kernel
theorem dX12_init_179 : decode cX12_init 179 = .ok (.aload_n 0, 1) := by decide +kernel
theorem dX12_init_180 : decode cX12_init 180 = .ok (.bipush 74, 2) := by decide +kernel
theorem dX12_init_182 : decode cX12_init 182 = .ok (.newarray .int, 2) := by decide +kernel
theorem dX12_init_184 : decode cX12_init 184 = .ok (.putfield 78, 3) := by decide +kernel
theorem dX12_init_187 : decode cX12_init 187 = .ok (.aload_n 0, 1) := by decide +kernel
theorem dX12_init_188 : decode cX12_init 188 = .ok (.bipush 74, 2) := by decide +kernel
theorem dX12_init_190 : decode cX12_init 190 = .ok (.newarray .int, 2) := by decide +kernel
theorem dX12_init_192 : decode cX12_init 192 = .ok (.putfield 81, 3) := by decide +kernel
theorem dX12_init_195 : decode cX12_init 195 = .ok (.aload_n 0, 1) := by decide +kernel
theorem dX12_init_196 : decode cX12_init 196 = .ok (.sipush 600, 3) := by decide +kernel
theorem dX12_init_199 : decode cX12_init 199 = .ok (.newarray .int, 2) := by decide +kernel
theorem dX12_init_201 : decode cX12_init 201 = .ok (.putfield 84, 3) := by decide +kernel
theorem dX12_init_204 : decode cX12_init 204 = .ok (.aload_n 0, 1) := by decide +kernel
theorem dX12_init_205 : decode cX12_init 205 = .ok (.sipush 600, 3) := by decide +kernel
theorem dX12_init_208 : decode cX12_init 208 = .ok (.newarray .int, 2) := by decide +kernel
theorem dX12_init_210 : decode cX12_init 210 = .ok (.putfield 87, 3) := by decide +kernel
theorem dX12_init_213 : decode cX12_init 213 = .ok (.aload_n 0, 1) := by decide +kernel
theorem dX12_init_214 : decode cX12_init 214 = .ok (.bipush 6, 2) := by decide +kernel
theorem dX12_init_216 : decode cX12_init 216 = .ok (.newarray .int, 2) := by decide +kernel
theorem dX12_init_218 : decode cX12_init 218 = .ok (.putfield 90, 3) := by decide +kernel
theorem dX12_init_221 : decode cX12_init 221 = .ok (.aload_n 0, 1) := by decide +kernel
theorem dX12_init_222 : decode cX12_init 222 = .ok (.bipush 6, 2) := by decide +kernel
theorem dX12_init_224 : decode cX12_init 224 = .ok (.newarray .int, 2) := by decide +kernel
theorem dX12_init_226 : decode cX12_init 226 = .ok (.putfield 93, 3) := by decide +kernel
theorem dX12_init_229 : decode cX12_init 229 = .ok (.aload_n 0, 1) := by decide +kernel
theorem dX12_init_230 : decode cX12_init 230 = .ok (.bipush 6, 2) := by decide +kernel
theorem dX12_init_232 : decode cX12_init 232 = .ok (.newarray .int, 2) := by decide +kernel
theorem dX12_init_234 : decode cX12_init 234 = .ok (.putfield 96, 3) := by decide +kernel
theorem dX12_init_237 : decode cX12_init 237 = .ok (.aload_n 0, 1) := by decide +kernel
theorem dX12_init_238 : decode cX12_init 238 = .ok (.bipush 6, 2) := by decide +kernel
theorem dX12_init_240 : decode cX12_init 240 = .ok (.newarray .int, 2) := by decide +kernel
theorem dX12_init_242 : decode cX12_init 242 = .ok (.putfield 99, 3) := by decide +kernel
theorem dX12_init_245 : decode cX12_init 245 = .ok (.aload_n 0, 1) := by decide +kernel
theorem dX12_init_246 : decode cX12_init 246 = .ok (.bipush 6, 2) := by decide +kernel
theorem dX12_init_248 : decode cX12_init 248 = .ok (.newarray .int, 2) := by decide +kernel
theorem dX12_init_250 : decode cX12_init 250 = .ok (.putfield 102, 3) := by decide +kernel
theorem dX12_init_253 : decode cX12_init 253 = .ok (.aload_n 0, 1) := by decide +kernel
theorem dX12_init_254 : decode cX12_init 254 = .ok (.sipush 192, 3) := by decide +kernel
theorem dX12_init_257 : decode cX12_init 257 = .ok (.newarray .int, 2) := by decide +kernel
theorem dX12_init_259 : decode cX12_init 259 = .ok (.putfield 105, 3) := by decide +kernel
theorem dX12_init_262 : decode cX12_init 262 = .ok (.aload_n 0, 1) := by decide +kernel
theorem dX12_init_263 : decode cX12_init 263 = .ok (.sipush 144, 3) := by decide +kernel
theorem dX12_init_266 : decode cX12_init 266 = .ok (.newarray .int, 2) := by decide +kernel
theorem dX12_init_268 : decode cX12_init 268 = .ok (.putfield 108, 3) := by decide +kernel
theorem dX12_init_271 : decode cX12_init 271 = .ok (.aload_n 0, 1) := by decide +kernel
theorem dX12_init_272 : decode cX12_init 272 = .ok (.bipush 32, 2) := by decide +kernel
theorem dX12_init_274 : decode cX12_init 274 = .ok (.newarray .int, 2) := by decide +kernel
theorem dX12_init_276 : decode cX12_init 276 = .ok (.putfield 111, 3) := by decide +kernel
theorem dX12_init_279 : decode cX12_init 279 = .ok (.aload_n 0, 1) := by decide +kernel
theorem dX12_init_280 : decode cX12_init 280 = .ok (.bipush 24, 2) := by decide +kernel
theorem dX12_init_282 : decode cX12_init 282 = .ok (.newarray .int, 2) := by decide +kernel
theorem dX12_init_284 : decode cX12_init 284 = .ok (.putfield 114, 3) := by decide +kernel
theorem dX12_init_287 : decode cX12_init 287 = .ok (.aload_n 0, 1) := by decide +kernel
theorem dX12_init_288 : decode cX12_init 288 = .ok (.bipush 24, 2) := by decide +kernel
theorem dX12_init_290 : decode cX12_init 290 = .ok (.newarray .int, 2) := by decide +kernel
theorem dX12_init_292 : decode cX12_init 292 = .ok (.putfield 117, 3) := by decide +kernel
theorem dX12_init_295 : decode cX12_init 295 = .ok (.return_, 1) := by decide +kernel
theorem dX12_thrown_0 : decode cX12_thrown 0 = .ok (.aload_n 0, 1) := by decide +kernel
theorem dX12_thrown_1 : decode cX12_thrown 1 = .ok (.getfield 120, 3) := by decide +kernel
theorem dX12_thrown_4 : decode cX12_thrown 4 = .ok (.ireturn, 1) := by decide +kernel
theorem dX12_isThrown_0 : decode cX12_isThrown 0 = .ok (.aload_n 0, 1) := by decide +kernel
theorem dX12_isThrown_1 : decode cX12_isThrown 1 = .ok (.iload_n 1, 1) := by decide +kernel
theorem dX12_isThrown_2 : decode cX12_isThrown 2 = .ok (.ifCond .eq 7, 3) := by decide +kernel
theorem dX12_isThrown_5 : decode cX12_isThrown 5 = .ok (.iload_n 2, 1) := by decide +kernel
theorem dX12_isThrown_6 : decode cX12_isThrown 6 = .ok (.goto 4, 3) := by decide +kernel
theorem dX12_isThrown_9 : decode cX12_isThrown 9 = .ok (.iconst 0, 1) := by decide +kernel
theorem dX12_isThrown_10 : decode cX12_isThrown 10 = .ok (.putfield 120, 3) := by decide +kernel
theorem dX12_isThrown_13 : decode cX12_isThrown 13 = .ok (.iload_n 1, 1) := by decide +kernel
theorem dX12_isThrown_14 : decode cX12_isThrown 14 = .ok (.ireturn, 1) := by decide +kernel
theorem dX12_isIn_0 : decode cX12_isIn 0 = .ok (.iload_n 0, 1) := by decide +kernel
theorem dX12_isIn_1 : decode cX12_isIn 1 = .ok (.iload_n 1, 1) := by decide +kernel
theorem dX12_isIn_2 : decode cX12_isIn 2 = .ok (.if_icmp .lt 12, 3) := by decide +kernel
theorem dX12_isIn_5 : decode cX12_isIn 5 = .ok (.iload_n 0, 1) := by decide +kernel
theorem dX12_isIn_6 : decode cX12_isIn 6 = .ok (.iload_n 2, 1) := by decide +kernel
theorem dX12_isIn_7 : decode cX12_isIn 7 = .ok (.if_icmp .gt 7, 3) := by decide +kernel
theorem dX12_isIn_10 : decode cX12_isIn 10 = .ok (.iconst 1, 1) := by decide +kernel
theorem dX12_isIn_11 : decode cX12_isIn 11 = .ok (.goto 4, 3) := by decide +kernel
theorem dX12_isIn_14 : decode cX12_isIn 14 = .ok (.iconst 0, 1) := by decide +kernel
theorem dX12_isIn_15 : decode cX12_isIn 15 = .ok (.ireturn, 1) := by decide +kernel
theorem dX12_isNoStop_0 : decode cX12_isNoStop 0 = .ok (.aload_n 0, 1) := by decide +kernel
theorem dX12_isNoStop_1 : decode cX12_isNoStop 1 = .ok (.iload_n 1, 1) := by decide +kernel
theorem dX12_isNoStop_2 : decode cX12_isNoStop 2 = .ok (.iconst 0, 1) := by decide +kernel
theorem dX12_isNoStop_3 : decode cX12_isNoStop 3 = .ok (.aload_n 0, 1) := by decide +kernel
theorem dX12_isNoStop_4 : decode cX12_isNoStop 4 = .ok (.getfield 123, 3) := by decide +kernel
theorem dX12_isNoStop_7 : decode cX12_isNoStop 7 = .ok (.iconst 1, 1) := by decide +kernel
theorem dX12_isNoStop_8 : decode cX12_isNoStop 8 = .ok (.isub, 1) := by decide +kernel
theorem dX12_isNoStop_9 : decode cX12_isNoStop 9 = .ok (.invokestatic 126, 3) := by decide +kernel
theorem dX12_isNoStop_12 : decode cX12_isNoStop 12 = .ok (.ifCond .ne 7, 3) := by decide +kernel
theorem dX12_isNoStop_15 : decode cX12_isNoStop 15 = .ok (.iconst 1, 1) := by decide +kernel
theorem dX12_isNoStop_16 : decode cX12_isNoStop 16 = .ok (.goto 4, 3) := by decide +kernel
theorem dX12_isNoStop_19 : decode cX12_isNoStop 19 = .ok (.iconst 0, 1) := by decide +kernel
theorem dX12_isNoStop_20 : decode cX12_isNoStop 20 = .ok (.iconst 1, 1) := by decide +kernel
theorem dX12_isNoStop_21 : decode cX12_isNoStop 21 = .ok (.invokevirtual 130, 3) := by decide +kernel
theorem dX12_isNoStop_24 : decode cX12_isNoStop 24 = .ok (.ireturn, 1) := by decide +kernel
theorem dX12_isNoDay_0 : decode cX12_isNoDay 0 = .ok (.aload_n 0, 1) := by decide +kernel
theorem dX12_isNoDay_1 : decode cX12_isNoDay 1 = .ok (.iload_n 1, 1) := by decide +kernel
theorem dX12_isNoDay_2 : decode cX12_isNoDay 2 = .ok (.iconst 0, 1) := by decide +kernel
theorem dX12_isNoDay_3 : decode cX12_isNoDay 3 = .ok (.bipush 27, 2) := by decide +kernel
theorem dX12_isNoDay_5 : decode cX12_isNoDay 5 = .ok (.invokestatic 126, 3) := by decide +kernel
theorem dX12_isNoDay_8 : decode cX12_isNoDay 8 = .ok (.ifCond .ne 7, 3) := by decide +kernel
theorem dX12_isNoDay_11 : decode cX12_isNoDay 11 = .ok (.iconst 1, 1) := by decide +kernel
theorem dX12_isNoDay_12 : decode cX12_isNoDay 12 = .ok (.goto 4, 3) := by decide +kernel
theorem dX12_isNoDay_15 : decode cX12_isNoDay 15 = .ok (.iconst 0, 1) := by decide +kernel
theorem dX12_isNoDay_16 : decode cX12_isNoDay 16 = .ok (.iload_n 2, 1) := by decide +kernel
theorem dX12_isNoDay_17 : decode cX12_isNoDay 17 = .ok (.invokevirtual 130, 3) := by decide +kernel
theorem dX12_isNoDay_20 : decode cX12_isNoDay 20 = .ok (.ireturn, 1) := by decide +kernel
theorem dX12_isNoService_0 : decode cX12_isNoService 0 = .ok (.aload_n 0, 1) := by decide +kernel
theorem dX12_isNoService_1 : decode cX12_isNoService 1 = .ok (.iload_n 1, 1) := by decide +kernel
theorem dX12_isNoService_2 : decode cX12_isNoService 2 = .ok (.iconst 0, 1) := by decide +kernel
theorem dX12_isNoService_3 : decode cX12_isNoService 3 = .ok (.aload_n 0, 1) := by decide +kernel
theorem dX12_isNoService_4 : decode cX12_isNoService 4 = .ok (.getfield 134, 3) := by decide +kernel
theorem dX12_isNoService_7 : decode cX12_isNoService 7 = .ok (.iconst 1, 1) := by decide +kernel
theorem dX12_isNoService_8 : decode cX12_isNoService 8 = .ok (.isub, 1) := by decide +kernel
theorem dX12_isNoService_9 : decode cX12_isNoService 9 = .ok (.invokestatic 126, 3) := by decide +kernel
theorem dX12_isNoService_12 : decode cX12_isNoService 12 = .ok (.ifCond .ne 7, 3) := by decide +kernel
theorem dX12_isNoService_15 : decode cX12_isNoService 15 = .ok (.iconst 1, 1) := by decide +kernel
theorem dX12_isNoService_16 : decode cX12_isNoService 16 = .ok (.goto 4, 3) := by decide +kernel
theorem dX12_isNoService_19 : decode cX12_isNoService 19 = .ok (.iconst 0, 1) := by decide +kernel
theorem dX12_isNoService_20 : decode cX12_isNoService 20 = .ok (.iconst 1, 1) := by decide +kernel
theorem dX12_isNoService_21 : decode cX12_isNoService 21 = .ok (.invokevirtual 130, 3) := by decide +kernel
theorem dX12_isNoService_24 : decode cX12_isNoService 24 = .ok (.ireturn, 1) := by decide +kernel
theorem dX12_isNoTrip_0 : decode cX12_isNoTrip 0 = .ok (.aload_n 0, 1) := by decide +kernel
theorem dX12_isNoTrip_1 : decode cX12_isNoTrip 1 = .ok (.iload_n 1, 1) := by decide +kernel
theorem dX12_isNoTrip_2 : decode cX12_isNoTrip 2 = .ok (.iconst 0, 1) := by decide +kernel
theorem dX12_isNoTrip_3 : decode cX12_isNoTrip 3 = .ok (.aload_n 0, 1) := by decide +kernel
theorem dX12_isNoTrip_4 : decode cX12_isNoTrip 4 = .ok (.getfield 137, 3) := by decide +kernel
theorem dX12_isNoTrip_7 : decode cX12_isNoTrip 7 = .ok (.iconst 1, 1) := by decide +kernel
theorem dX12_isNoTrip_8 : decode cX12_isNoTrip 8 = .ok (.isub, 1) := by decide +kernel
theorem dX12_isNoTrip_9 : decode cX12_isNoTrip 9 = .ok (.invokestatic 126, 3) := by decide +kernel
theorem dX12_isNoTrip_12 : decode cX12_isNoTrip 12 = .ok (.ifCond .ne 7, 3) := by decide +kernel
theorem dX12_isNoTrip_15 : decode cX12_isNoTrip 15 = .ok (.iconst 1, 1) := by decide +kernel
theorem dX12_isNoTrip_16 : decode cX12_isNoTrip 16 = .ok (.goto 4, 3) := by decide +kernel
theorem dX12_isNoTrip_19 : decode cX12_isNoTrip 19 = .ok (.iconst 0, 1) := by decide +kernel
theorem dX12_isNoTrip_20 : decode cX12_isNoTrip 20 = .ok (.iconst 1, 1) := by decide +kernel
theorem dX12_isNoTrip_21 : decode cX12_isNoTrip 21 = .ok (.invokevirtual 130, 3) := by decide +kernel
theorem dX12_isNoTrip_24 : decode cX12_isNoTrip 24 = .ok (.ireturn, 1) := by decide +kernel
theorem dX12_isNoCall_0 : decode cX12_isNoCall 0 = .ok (.aload_n 0, 1) := by decide +kernel
theorem dX12_isNoCall_1 : decode cX12_isNoCall 1 = .ok (.iload_n 1, 1) := by decide +kernel
theorem dX12_isNoCall_2 : decode cX12_isNoCall 2 = .ok (.invokevirtual 140, 3) := by decide +kernel
theorem dX12_isNoCall_5 : decode cX12_isNoCall 5 = .ok (.ifCond .ne 32, 3) := by decide +kernel
theorem dX12_isNoCall_8 : decode cX12_isNoCall 8 = .ok (.aload_n 0, 1) := by decide +kernel
theorem dX12_isNoCall_9 : decode cX12_isNoCall 9 = .ok (.iload_n 2, 1) := by decide +kernel
theorem dX12_isNoCall_10 : decode cX12_isNoCall 10 = .ok (.iconst 0, 1) := by decide +kernel
theorem dX12_isNoCall_11 : decode cX12_isNoCall 11 = .ok (.aload_n 0, 1) := by decide +kernel
theorem dX12_isNoCall_12 : decode cX12_isNoCall 12 = .ok (.getfield 30, 3) := by decide +kernel
theorem dX12_isNoCall_15 : decode cX12_isNoCall 15 = .ok (.iload_n 1, 1) := by decide +kernel
theorem dX12_isNoCall_16 : decode cX12_isNoCall 16 = .ok (.iaload, 1) := by decide +kernel
theorem dX12_isNoCall_17 : decode cX12_isNoCall 17 = .ok (.iconst 1, 1) := by decide +kernel
theorem dX12_isNoCall_18 : decode cX12_isNoCall 18 = .ok (.isub, 1) := by decide +kernel
theorem dX12_isNoCall_19 : decode cX12_isNoCall 19 = .ok (.invokestatic 126, 3) := by decide +kernel
theorem dX12_isNoCall_22 : decode cX12_isNoCall 22 = .ok (.ifCond .ne 7, 3) := by decide +kernel
theorem dX12_isNoCall_25 : decode cX12_isNoCall 25 = .ok (.iconst 1, 1) := by decide +kernel
theorem dX12_isNoCall_26 : decode cX12_isNoCall 26 = .ok (.goto 4, 3) := by decide +kernel
theorem dX12_isNoCall_29 : decode cX12_isNoCall 29 = .ok (.iconst 0, 1) := by decide +kernel
theorem dX12_isNoCall_30 : decode cX12_isNoCall 30 = .ok (.iconst 1, 1) := by decide +kernel
theorem dX12_isNoCall_31 : decode cX12_isNoCall 31 = .ok (.invokevirtual 130, 3) := by decide +kernel
theorem dX12_isNoCall_34 : decode cX12_isNoCall 34 = .ok (.ifCond .eq 7, 3) := by decide +kernel
theorem dX12_isNoCall_37 : decode cX12_isNoCall 37 = .ok (.iconst 1, 1) := by decide +kernel
theorem dX12_isNoCall_38 : decode cX12_isNoCall 38 = .ok (.goto 4, 3) := by decide +kernel
theorem dX12_isNoCall_41 : decode cX12_isNoCall 41 = .ok (.iconst 0, 1) := by decide +kernel
theorem dX12_isNoCall_42 : decode cX12_isNoCall 42 = .ok (.ireturn, 1) := by decide +kernel
theorem dX12_stop_0 : decode cX12_stop 0 = .ok (.aload_n 0, 1) := by decide +kernel
theorem dX12_stop_1 : decode cX12_stop 1 = .ok (.iload_n 1, 1) := by decide +kernel
theorem dX12_stop_2 : decode cX12_stop 2 = .ok (.iconst 0, 1) := by decide +kernel
theorem dX12_stop_3 : decode cX12_stop 3 = .ok (.bipush 30, 2) := by decide +kernel
theorem dX12_stop_5 : decode cX12_stop 5 = .ok (.invokestatic 126, 3) := by decide +kernel
theorem dX12_stop_8 : decode cX12_stop 8 = .ok (.ifCond .ne 7, 3) := by decide +kernel
theorem dX12_stop_11 : decode cX12_stop 11 = .ok (.iconst 1, 1) := by decide +kernel
theorem dX12_stop_12 : decode cX12_stop 12 = .ok (.goto 4, 3) := by decide +kernel
theorem dX12_stop_15 : decode cX12_stop 15 = .ok (.iconst 0, 1) := by decide +kernel
theorem dX12_stop_16 : decode cX12_stop 16 = .ok (.iconst 1, 1) := by decide +kernel
theorem dX12_stop_17 : decode cX12_stop 17 = .ok (.invokevirtual 130, 3) := by decide +kernel
theorem dX12_stop_20 : decode cX12_stop 20 = .ok (.ifCond .ne 25, 3) := by decide +kernel
theorem dX12_stop_23 : decode cX12_stop 23 = .ok (.aload_n 0, 1) := by decide +kernel
theorem dX12_stop_24 : decode cX12_stop 24 = .ok (.aload_n 0, 1) := by decide +kernel
theorem dX12_stop_25 : decode cX12_stop 25 = .ok (.getfield 123, 3) := by decide +kernel
theorem dX12_stop_28 : decode cX12_stop 28 = .ok (.bipush 12, 2) := by decide +kernel
theorem dX12_stop_30 : decode cX12_stop 30 = .ok (.if_icmp .ne 7, 3) := by decide +kernel
theorem dX12_stop_33 : decode cX12_stop 33 = .ok (.iconst 1, 1) := by decide +kernel
theorem dX12_stop_34 : decode cX12_stop 34 = .ok (.goto 4, 3) := by decide +kernel
theorem dX12_stop_37 : decode cX12_stop 37 = .ok (.iconst 0, 1) := by decide +kernel
theorem dX12_stop_38 : decode cX12_stop 38 = .ok (.iconst 2, 1) := by decide +kernel
theorem dX12_stop_39 : decode cX12_stop 39 = .ok (.invokevirtual 130, 3) := by decide +kernel
theorem dX12_stop_42 : decode cX12_stop 42 = .ok (.ifCond .eq 5, 3) := by decide +kernel
theorem dX12_stop_45 : decode cX12_stop 45 = .ok (.iconst 0, 1) := by decide +kernel
theorem dX12_stop_46 : decode cX12_stop 46 = .ok (.ireturn, 1) := by decide +kernel
theorem dX12_stop_47 : decode cX12_stop 47 = .ok (.aload_n 0, 1) := by decide +kernel
theorem dX12_stop_48 : decode cX12_stop 48 = .ok (.getfield 9, 3) := by decide +kernel
theorem dX12_stop_51 : decode cX12_stop 51 = .ok (.aload_n 0, 1) := by decide +kernel
theorem dX12_stop_52 : decode cX12_stop 52 = .ok (.getfield 123, 3) := by decide +kernel
theorem dX12_stop_55 : decode cX12_stop 55 = .ok (.iload_n 1, 1) := by decide +kernel
theorem dX12_stop_56 : decode cX12_stop 56 = .ok (.iastore, 1) := by decide +kernel
theorem dX12_stop_57 : decode cX12_stop 57 = .ok (.aload_n 0, 1) := by decide +kernel
theorem dX12_stop_58 : decode cX12_stop 58 = .ok (.dup, 1) := by decide +kernel
theorem dX12_stop_59 : decode cX12_stop 59 = .ok (.getfield 123, 3) := by decide +kernel
theorem dX12_stop_62 : decode cX12_stop 62 = .ok (.iconst 1, 1) := by decide +kernel
theorem dX12_stop_63 : decode cX12_stop 63 = .ok (.iadd, 1) := by decide +kernel
theorem dX12_stop_64 : decode cX12_stop 64 = .ok (.putfield 123, 3) := by decide +kernel
theorem dX12_stop_67 : decode cX12_stop 67 = .ok (.aload_n 0, 1) := by decide +kernel
theorem dX12_stop_68 : decode cX12_stop 68 = .ok (.invokevirtual 144, 3) := by decide +kernel
theorem dX12_stop_71 : decode cX12_stop 71 = .ok (.aload_n 0, 1) := by decide +kernel
theorem dX12_stop_72 : decode cX12_stop 72 = .ok (.getfield 123, 3) := by decide +kernel
theorem dX12_stop_75 : decode cX12_stop 75 = .ok (.iconst 1, 1) := by decide +kernel
theorem dX12_stop_76 : decode cX12_stop 76 = .ok (.isub, 1) := by decide +kernel
theorem dX12_stop_77 : decode cX12_stop 77 = .ok (.ireturn, 1) := by decide +kernel
theorem dX12_setChange_0 : decode cX12_setChange 0 = .ok (.aload_n 0, 1) := by decide +kernel
theorem dX12_setChange_1 : decode cX12_setChange 1 = .ok (.iload_n 1, 1) := by decide +kernel
theorem dX12_setChange_2 : decode cX12_setChange 2 = .ok (.invokevirtual 147, 3) := by decide +kernel
theorem dX12_setChange_5 : decode cX12_setChange 5 = .ok (.ifCond .ne 26, 3) := by decide +kernel
theorem dX12_setChange_8 : decode cX12_setChange 8 = .ok (.aload_n 0, 1) := by decide +kernel
theorem dX12_setChange_9 : decode cX12_setChange 9 = .ok (.iload_n 2, 1) := by decide +kernel
theorem dX12_setChange_10 : decode cX12_setChange 10 = .ok (.iconst 0, 1) := by decide +kernel
theorem dX12_setChange_11 : decode cX12_setChange 11 = .ok (.bipush 30, 2) := by decide +kernel
theorem dX12_setChange_13 : decode cX12_setChange 13 = .ok (.invokestatic 126, 3) := by decide +kernel
theorem dX12_setChange_16 : decode cX12_setChange 16 = .ok (.ifCond .ne 7, 3) := by decide +kernel
theorem dX12_setChange_19 : decode cX12_setChange 19 = .ok (.iconst 1, 1) := by decide +kernel
theorem dX12_setChange_20 : decode cX12_setChange 20 = .ok (.goto 4, 3) := by decide +kernel
theorem dX12_setChange_23 : decode cX12_setChange 23 = .ok (.iconst 0, 1) := by decide +kernel
theorem dX12_setChange_24 : decode cX12_setChange 24 = .ok (.iconst 2, 1) := by decide +kernel
theorem dX12_setChange_25 : decode cX12_setChange 25 = .ok (.invokevirtual 130, 3) := by decide +kernel
theorem dX12_setChange_28 : decode cX12_setChange 28 = .ok (.ifCond .eq 5, 3) := by decide +kernel
theorem dX12_setChange_31 : decode cX12_setChange 31 = .ok (.iconst 0, 1) := by decide +kernel
theorem dX12_setChange_32 : decode cX12_setChange 32 = .ok (.ireturn, 1) := by decide +kernel
theorem dX12_setChange_33 : decode cX12_setChange 33 = .ok (.aload_n 0, 1) := by decide +kernel
theorem dX12_setChange_34 : decode cX12_setChange 34 = .ok (.getfield 9, 3) := by decide +kernel
theorem dX12_setChange_37 : decode cX12_setChange 37 = .ok (.iload_n 1, 1) := by decide +kernel
theorem dX12_setChange_38 : decode cX12_setChange 38 = .ok (.iaload, 1) := by decide +kernel
theorem dX12_setChange_39 : decode cX12_setChange 39 = .ok (.istore_n 3, 1) := by decide +kernel
theorem dX12_setChange_40 : decode cX12_setChange 40 = .ok (.aload_n 0, 1) := by decide +kernel
theorem dX12_setChange_41 : decode cX12_setChange 41 = .ok (.getfield 9, 3) := by decide +kernel
theorem dX12_setChange_44 : decode cX12_setChange 44 = .ok (.iload_n 1, 1) := by decide +kernel
theorem dX12_setChange_45 : decode cX12_setChange 45 = .ok (.iload_n 2, 1) := by decide +kernel
theorem dX12_setChange_46 : decode cX12_setChange 46 = .ok (.iastore, 1) := by decide +kernel
theorem dX12_setChange_47 : decode cX12_setChange 47 = .ok (.iload_n 3, 1) := by decide +kernel
theorem dX12_setChange_48 : decode cX12_setChange 48 = .ok (.ireturn, 1) := by decide +kernel
theorem dX12_walk_0 : decode cX12_walk 0 = .ok (.aload_n 0, 1) := by decide +kernel
theorem dX12_walk_1 : decode cX12_walk 1 = .ok (.iload_n 1, 1) := by decide +kernel
theorem dX12_walk_2 : decode cX12_walk 2 = .ok (.invokevirtual 147, 3) := by decide +kernel
theorem dX12_walk_5 : decode cX12_walk 5 = .ok (.ifCond .ne 39, 3) := by decide +kernel
theorem dX12_walk_8 : decode cX12_walk 8 = .ok (.aload_n 0, 1) := by decide +kernel
theorem dX12_walk_9 : decode cX12_walk 9 = .ok (.iload_n 2, 1) := by decide +kernel
theorem dX12_walk_10 : decode cX12_walk 10 = .ok (.invokevirtual 147, 3) := by decide +kernel
theorem dX12_walk_13 : decode cX12_walk 13 = .ok (.ifCond .ne 31, 3) := by decide +kernel
theorem dX12_walk_16 : decode cX12_walk 16 = .ok (.aload_n 0, 1) := by decide +kernel
theorem dX12_walk_17 : decode cX12_walk 17 = .ok (.iload_n 1, 1) := by decide +kernel
theorem dX12_walk_18 : decode cX12_walk 18 = .ok (.iload_n 2, 1) := by decide +kernel
theorem dX12_walk_19 : decode cX12_walk 19 = .ok (.if_icmp .eq 13, 3) := by decide +kernel
theorem dX12_walk_22 : decode cX12_walk 22 = .ok (.iload_n 3, 1) := by decide +kernel
theorem dX12_walk_23 : decode cX12_walk 23 = .ok (.iconst 0, 1) := by decide +kernel
theorem dX12_walk_24 : decode cX12_walk 24 = .ok (.bipush 60, 2) := by decide +kernel
theorem dX12_walk_26 : decode cX12_walk 26 = .ok (.invokestatic 126, 3) := by decide +kernel
theorem dX12_walk_29 : decode cX12_walk 29 = .ok (.ifCond .ne 7, 3) := by decide +kernel
theorem dX12_walk_32 : decode cX12_walk 32 = .ok (.iconst 1, 1) := by decide +kernel
theorem dX12_walk_33 : decode cX12_walk 33 = .ok (.goto 4, 3) := by decide +kernel
theorem dX12_walk_36 : decode cX12_walk 36 = .ok (.iconst 0, 1) := by decide +kernel
theorem dX12_walk_37 : decode cX12_walk 37 = .ok (.iconst 2, 1) := by decide +kernel
theorem dX12_walk_38 : decode cX12_walk 38 = .ok (.invokevirtual 130, 3) := by decide +kernel
theorem dX12_walk_41 : decode cX12_walk 41 = .ok (.ifCond .eq 5, 3) := by decide +kernel
theorem dX12_walk_44 : decode cX12_walk 44 = .ok (.iconst 0, 1) := by decide +kernel
theorem dX12_walk_45 : decode cX12_walk 45 = .ok (.ireturn, 1) := by decide +kernel
theorem dX12_walk_46 : decode cX12_walk 46 = .ok (.aload_n 0, 1) := by decide +kernel
theorem dX12_walk_47 : decode cX12_walk 47 = .ok (.getfield 13, 3) := by decide +kernel
theorem dX12_walk_50 : decode cX12_walk 50 = .ok (.bipush 12, 2) := by decide +kernel
theorem dX12_walk_52 : decode cX12_walk 52 = .ok (.iload_n 1, 1) := by decide +kernel
theorem dX12_walk_53 : decode cX12_walk 53 = .ok (.imul, 1) := by decide +kernel
theorem dX12_walk_54 : decode cX12_walk 54 = .ok (.iload_n 2, 1) := by decide +kernel
theorem dX12_walk_55 : decode cX12_walk 55 = .ok (.iadd, 1) := by decide +kernel
theorem dX12_walk_56 : decode cX12_walk 56 = .ok (.iaload, 1) := by decide +kernel
theorem dX12_walk_57 : decode cX12_walk 57 = .ok (.istore 4, 2) := by decide +kernel
theorem dX12_walk_59 : decode cX12_walk 59 = .ok (.aload_n 0, 1) := by decide +kernel
theorem dX12_walk_60 : decode cX12_walk 60 = .ok (.getfield 13, 3) := by decide +kernel
theorem dX12_walk_63 : decode cX12_walk 63 = .ok (.bipush 12, 2) := by decide +kernel
theorem dX12_walk_65 : decode cX12_walk 65 = .ok (.iload_n 1, 1) := by decide +kernel
theorem dX12_walk_66 : decode cX12_walk 66 = .ok (.imul, 1) := by decide +kernel
theorem dX12_walk_67 : decode cX12_walk 67 = .ok (.iload_n 2, 1) := by decide +kernel
theorem dX12_walk_68 : decode cX12_walk 68 = .ok (.iadd, 1) := by decide +kernel
theorem dX12_walk_69 : decode cX12_walk 69 = .ok (.iload_n 3, 1) := by decide +kernel
theorem dX12_walk_70 : decode cX12_walk 70 = .ok (.iastore, 1) := by decide +kernel
theorem dX12_walk_71 : decode cX12_walk 71 = .ok (.aload_n 0, 1) := by decide +kernel
theorem dX12_walk_72 : decode cX12_walk 72 = .ok (.getfield 13, 3) := by decide +kernel
theorem dX12_walk_75 : decode cX12_walk 75 = .ok (.bipush 12, 2) := by decide +kernel
theorem dX12_walk_77 : decode cX12_walk 77 = .ok (.iload_n 2, 1) := by decide +kernel
theorem dX12_walk_78 : decode cX12_walk 78 = .ok (.imul, 1) := by decide +kernel
theorem dX12_walk_79 : decode cX12_walk 79 = .ok (.iload_n 1, 1) := by decide +kernel
theorem dX12_walk_80 : decode cX12_walk 80 = .ok (.iadd, 1) := by decide +kernel
theorem dX12_walk_81 : decode cX12_walk 81 = .ok (.iload_n 3, 1) := by decide +kernel
theorem dX12_walk_82 : decode cX12_walk 82 = .ok (.iastore, 1) := by decide +kernel
theorem dX12_walk_83 : decode cX12_walk 83 = .ok (.aload_n 0, 1) := by decide +kernel
theorem dX12_walk_84 : decode cX12_walk 84 = .ok (.invokevirtual 144, 3) := by decide +kernel
theorem dX12_walk_87 : decode cX12_walk 87 = .ok (.iload 4, 2) := by decide +kernel
theorem dX12_walk_89 : decode cX12_walk 89 = .ok (.ireturn, 1) := by decide +kernel
theorem dX12_walks_0 : decode cX12_walks 0 = .ok (.iconst 0, 1) := by decide +kernel
theorem dX12_walks_1 : decode cX12_walks 1 = .ok (.istore_n 1, 1) := by decide +kernel
theorem dX12_walks_2 : decode cX12_walks 2 = .ok (.iload_n 1, 1) := by decide +kernel
theorem dX12_walks_3 : decode cX12_walks 3 = .ok (.aload_n 0, 1) := by decide +kernel
theorem dX12_walks_4 : decode cX12_walks 4 = .ok (.getfield 123, 3) := by decide +kernel
theorem dX12_walks_7 : decode cX12_walks 7 = .ok (.if_icmp .ge 83, 3) := by decide +kernel
theorem dX12_walks_10 : decode cX12_walks 10 = .ok (.iconst 0, 1) := by decide +kernel
theorem dX12_walks_11 : decode cX12_walks 11 = .ok (.istore_n 2, 1) := by decide +kernel
theorem dX12_walks_12 : decode cX12_walks 12 = .ok (.iload_n 2, 1) := by decide +kernel
theorem dX12_walks_13 : decode cX12_walks 13 = .ok (.aload_n 0, 1) := by decide +kernel
theorem dX12_walks_14 : decode cX12_walks 14 = .ok (.getfield 123, 3) := by decide +kernel
theorem dX12_walks_17 : decode cX12_walks 17 = .ok (.if_icmp .ge 67, 3) := by decide +kernel
theorem dX12_walks_20 : decode cX12_walks 20 = .ok (.aload_n 0, 1) := by decide +kernel
theorem dX12_walks_21 : decode cX12_walks 21 = .ok (.getfield 13, 3) := by decide +kernel
theorem dX12_walks_24 : decode cX12_walks 24 = .ok (.bipush 12, 2) := by decide +kernel
theorem dX12_walks_26 : decode cX12_walks 26 = .ok (.iload_n 1, 1) := by decide +kernel
theorem dX12_walks_27 : decode cX12_walks 27 = .ok (.imul, 1) := by decide +kernel
theorem dX12_walks_28 : decode cX12_walks 28 = .ok (.iload_n 2, 1) := by decide +kernel
theorem dX12_walks_29 : decode cX12_walks 29 = .ok (.iadd, 1) := by decide +kernel
theorem dX12_walks_30 : decode cX12_walks 30 = .ok (.iaload, 1) := by decide +kernel
theorem dX12_walks_31 : decode cX12_walks 31 = .ok (.istore_n 3, 1) := by decide +kernel
theorem dX12_walks_32 : decode cX12_walks 32 = .ok (.aload_n 0, 1) := by decide +kernel
theorem dX12_walks_33 : decode cX12_walks 33 = .ok (.getfield 16, 3) := by decide +kernel
theorem dX12_walks_36 : decode cX12_walks 36 = .ok (.bipush 12, 2) := by decide +kernel
theorem dX12_walks_38 : decode cX12_walks 38 = .ok (.iload_n 1, 1) := by decide +kernel
theorem dX12_walks_39 : decode cX12_walks 39 = .ok (.imul, 1) := by decide +kernel
theorem dX12_walks_40 : decode cX12_walks 40 = .ok (.iload_n 2, 1) := by decide +kernel
theorem dX12_walks_41 : decode cX12_walks 41 = .ok (.iadd, 1) := by decide +kernel
theorem dX12_walks_42 : decode cX12_walks 42 = .ok (.iload_n 1, 1) := by decide +kernel
theorem dX12_walks_43 : decode cX12_walks 43 = .ok (.iload_n 2, 1) := by decide +kernel
theorem dX12_walks_44 : decode cX12_walks 44 = .ok (.if_icmp .ne 7, 3) := by decide +kernel
theorem dX12_walks_47 : decode cX12_walks 47 = .ok (.iconst 0, 1) := by decide +kernel
theorem dX12_walks_48 : decode cX12_walks 48 = .ok (.goto 29, 3) := by decide +kernel
theorem dX12_walks_51 : decode cX12_walks 51 = .ok (.iload_n 3, 1) := by decide +kernel
theorem dX12_walks_52 : decode cX12_walks 52 = .ok (.ifCond .eq 19, 3) := by decide +kernel
theorem dX12_walks_55 : decode cX12_walks 55 = .ok (.iload_n 1, 1) := by decide +kernel
theorem dX12_walks_56 : decode cX12_walks 56 = .ok (.aload_n 0, 1) := by decide +kernel
theorem dX12_walks_57 : decode cX12_walks 57 = .ok (.getfield 19, 3) := by decide +kernel
theorem dX12_walks_60 : decode cX12_walks 60 = .ok (.if_icmp .eq 11, 3) := by decide +kernel
theorem dX12_walks_63 : decode cX12_walks 63 = .ok (.iload_n 2, 1) := by decide +kernel
theorem dX12_walks_64 : decode cX12_walks 64 = .ok (.aload_n 0, 1) := by decide +kernel
theorem dX12_walks_65 : decode cX12_walks 65 = .ok (.getfield 19, 3) := by decide +kernel
theorem dX12_walks_68 : decode cX12_walks 68 = .ok (.if_icmp .ne 8, 3) := by decide +kernel
theorem dX12_walks_71 : decode cX12_walks 71 = .ok (.ldc 150, 2) := by decide +kernel
theorem dX12_walks_73 : decode cX12_walks 73 = .ok (.goto 4, 3) := by decide +kernel
theorem dX12_walks_76 : decode cX12_walks 76 = .ok (.iload_n 3, 1) := by decide +kernel
theorem dX12_walks_77 : decode cX12_walks 77 = .ok (.iastore, 1) := by decide +kernel
theorem dX12_walks_78 : decode cX12_walks 78 = .ok (.iinc 2 1, 3) := by decide +kernel
theorem dX12_walks_81 : decode cX12_walks 81 = .ok (.goto (-69), 3) := by decide +kernel
theorem dX12_walks_84 : decode cX12_walks 84 = .ok (.iinc 1 1, 3) := by decide +kernel
theorem dX12_walks_87 : decode cX12_walks 87 = .ok (.goto (-85), 3) := by decide +kernel
theorem dX12_walks_90 : decode cX12_walks 90 = .ok (.iconst 0, 1) := by decide +kernel
theorem dX12_walks_91 : decode cX12_walks 91 = .ok (.istore_n 1, 1) := by decide +kernel
theorem dX12_walks_92 : decode cX12_walks 92 = .ok (.iload_n 1, 1) := by decide +kernel
theorem dX12_walks_93 : decode cX12_walks 93 = .ok (.aload_n 0, 1) := by decide +kernel
theorem dX12_walks_94 : decode cX12_walks 94 = .ok (.getfield 123, 3) := by decide +kernel
theorem dX12_walks_97 : decode cX12_walks 97 = .ok (.if_icmp .ge 95, 3) := by decide +kernel
theorem dX12_walks_100 : decode cX12_walks 100 = .ok (.iconst 0, 1) := by decide +kernel
theorem dX12_walks_101 : decode cX12_walks 101 = .ok (.istore_n 2, 1) := by decide +kernel
theorem dX12_walks_102 : decode cX12_walks 102 = .ok (.iload_n 2, 1) := by decide +kernel
theorem dX12_walks_103 : decode cX12_walks 103 = .ok (.aload_n 0, 1) := by decide +kernel
theorem dX12_walks_104 : decode cX12_walks 104 = .ok (.getfield 123, 3) := by decide +kernel
theorem dX12_walks_107 : decode cX12_walks 107 = .ok (.if_icmp .ge 79, 3) := by decide +kernel
theorem dX12_walks_110 : decode cX12_walks 110 = .ok (.iconst 0, 1) := by decide +kernel
theorem dX12_walks_111 : decode cX12_walks 111 = .ok (.istore_n 3, 1) := by decide +kernel
theorem dX12_walks_112 : decode cX12_walks 112 = .ok (.iload_n 3, 1) := by decide +kernel
theorem dX12_walks_113 : decode cX12_walks 113 = .ok (.aload_n 0, 1) := by decide +kernel
theorem dX12_walks_114 : decode cX12_walks 114 = .ok (.getfield 123, 3) := by decide +kernel
theorem dX12_walks_117 : decode cX12_walks 117 = .ok (.if_icmp .ge 63, 3) := by decide +kernel
theorem dX12_walks_120 : decode cX12_walks 120 = .ok (.aload_n 0, 1) := by decide +kernel
theorem dX12_walks_121 : decode cX12_walks 121 = .ok (.getfield 16, 3) := by decide +kernel
theorem dX12_walks_124 : decode cX12_walks 124 = .ok (.bipush 12, 2) := by decide +kernel
theorem dX12_walks_126 : decode cX12_walks 126 = .ok (.iload_n 2, 1) := by decide +kernel
theorem dX12_walks_127 : decode cX12_walks 127 = .ok (.imul, 1) := by decide +kernel
theorem dX12_walks_128 : decode cX12_walks 128 = .ok (.iload_n 1, 1) := by decide +kernel
theorem dX12_walks_129 : decode cX12_walks 129 = .ok (.iadd, 1) := by decide +kernel
theorem dX12_walks_130 : decode cX12_walks 130 = .ok (.iaload, 1) := by decide +kernel
theorem dX12_walks_131 : decode cX12_walks 131 = .ok (.aload_n 0, 1) := by decide +kernel
theorem dX12_walks_132 : decode cX12_walks 132 = .ok (.getfield 16, 3) := by decide +kernel
theorem dX12_walks_135 : decode cX12_walks 135 = .ok (.bipush 12, 2) := by decide +kernel
theorem dX12_walks_137 : decode cX12_walks 137 = .ok (.iload_n 1, 1) := by decide +kernel
theorem dX12_walks_138 : decode cX12_walks 138 = .ok (.imul, 1) := by decide +kernel
theorem dX12_walks_139 : decode cX12_walks 139 = .ok (.iload_n 3, 1) := by decide +kernel
theorem dX12_walks_140 : decode cX12_walks 140 = .ok (.iadd, 1) := by decide +kernel
theorem dX12_walks_141 : decode cX12_walks 141 = .ok (.iaload, 1) := by decide +kernel
theorem dX12_walks_142 : decode cX12_walks 142 = .ok (.iadd, 1) := by decide +kernel
theorem dX12_walks_143 : decode cX12_walks 143 = .ok (.istore 4, 2) := by decide +kernel
theorem dX12_walks_145 : decode cX12_walks 145 = .ok (.iload 4, 2) := by decide +kernel
theorem dX12_walks_147 : decode cX12_walks 147 = .ok (.aload_n 0, 1) := by decide +kernel
theorem dX12_walks_148 : decode cX12_walks 148 = .ok (.getfield 16, 3) := by decide +kernel
theorem dX12_walks_151 : decode cX12_walks 151 = .ok (.bipush 12, 2) := by decide +kernel
theorem dX12_walks_153 : decode cX12_walks 153 = .ok (.iload_n 2, 1) := by decide +kernel
theorem dX12_walks_154 : decode cX12_walks 154 = .ok (.imul, 1) := by decide +kernel
theorem dX12_walks_155 : decode cX12_walks 155 = .ok (.iload_n 3, 1) := by decide +kernel
theorem dX12_walks_156 : decode cX12_walks 156 = .ok (.iadd, 1) := by decide +kernel
theorem dX12_walks_157 : decode cX12_walks 157 = .ok (.iaload, 1) := by decide +kernel
theorem dX12_walks_158 : decode cX12_walks 158 = .ok (.if_icmp .ge 16, 3) := by decide +kernel
theorem dX12_walks_161 : decode cX12_walks 161 = .ok (.aload_n 0, 1) := by decide +kernel
theorem dX12_walks_162 : decode cX12_walks 162 = .ok (.getfield 16, 3) := by decide +kernel
theorem dX12_walks_165 : decode cX12_walks 165 = .ok (.bipush 12, 2) := by decide +kernel
theorem dX12_walks_167 : decode cX12_walks 167 = .ok (.iload_n 2, 1) := by decide +kernel
theorem dX12_walks_168 : decode cX12_walks 168 = .ok (.imul, 1) := by decide +kernel
theorem dX12_walks_169 : decode cX12_walks 169 = .ok (.iload_n 3, 1) := by decide +kernel
theorem dX12_walks_170 : decode cX12_walks 170 = .ok (.iadd, 1) := by decide +kernel
theorem dX12_walks_171 : decode cX12_walks 171 = .ok (.iload 4, 2) := by decide +kernel
theorem dX12_walks_173 : decode cX12_walks 173 = .ok (.iastore, 1) := by decide +kernel
theorem dX12_walks_174 : decode cX12_walks 174 = .ok (.iinc 3 1, 3) := by decide +kernel
theorem dX12_walks_177 : decode cX12_walks 177 = .ok (.goto (-65), 3) := by decide +kernel
theorem dX12_walks_180 : decode cX12_walks 180 = .ok (.iinc 2 1, 3) := by decide +kernel
theorem dX12_walks_183 : decode cX12_walks 183 = .ok (.goto (-81), 3) := by decide +kernel
theorem dX12_walks_186 : decode cX12_walks 186 = .ok (.iinc 1 1, 3) := by decide +kernel
theorem dX12_walks_189 : decode cX12_walks 189 = .ok (.goto (-97), 3) := by decide +kernel
theorem dX12_walks_192 : decode cX12_walks 192 = .ok (.return_, 1) := by decide +kernel
theorem dX12_walkTime_0 : decode cX12_walkTime 0 = .ok (.aload_n 0, 1) := by decide +kernel
theorem dX12_walkTime_1 : decode cX12_walkTime 1 = .ok (.iload_n 1, 1) := by decide +kernel
theorem dX12_walkTime_2 : decode cX12_walkTime 2 = .ok (.invokevirtual 147, 3) := by decide +kernel
theorem dX12_walkTime_5 : decode cX12_walkTime 5 = .ok (.ifCond .ne 40, 3) := by decide +kernel
theorem dX12_walkTime_8 : decode cX12_walkTime 8 = .ok (.aload_n 0, 1) := by decide +kernel
theorem dX12_walkTime_9 : decode cX12_walkTime 9 = .ok (.iload_n 2, 1) := by decide +kernel
theorem dX12_walkTime_10 : decode cX12_walkTime 10 = .ok (.invokevirtual 147, 3) := by decide +kernel
theorem dX12_walkTime_13 : decode cX12_walkTime 13 = .ok (.ifCond .ne 32, 3) := by decide +kernel
theorem dX12_walkTime_16 : decode cX12_walkTime 16 = .ok (.aload_n 0, 1) := by decide +kernel
theorem dX12_walkTime_17 : decode cX12_walkTime 17 = .ok (.aload_n 0, 1) := by decide +kernel
theorem dX12_walkTime_18 : decode cX12_walkTime 18 = .ok (.getfield 16, 3) := by decide +kernel
theorem dX12_walkTime_21 : decode cX12_walkTime 21 = .ok (.bipush 12, 2) := by decide +kernel
theorem dX12_walkTime_23 : decode cX12_walkTime 23 = .ok (.iload_n 1, 1) := by decide +kernel
theorem dX12_walkTime_24 : decode cX12_walkTime 24 = .ok (.imul, 1) := by decide +kernel
theorem dX12_walkTime_25 : decode cX12_walkTime 25 = .ok (.iload_n 2, 1) := by decide +kernel
theorem dX12_walkTime_26 : decode cX12_walkTime 26 = .ok (.iadd, 1) := by decide +kernel
theorem dX12_walkTime_27 : decode cX12_walkTime 27 = .ok (.iaload, 1) := by decide +kernel
theorem dX12_walkTime_28 : decode cX12_walkTime 28 = .ok (.ldc 150, 2) := by decide +kernel
theorem dX12_walkTime_30 : decode cX12_walkTime 30 = .ok (.if_icmp .lt 7, 3) := by decide +kernel
theorem dX12_walkTime_33 : decode cX12_walkTime 33 = .ok (.iconst 1, 1) := by decide +kernel
theorem dX12_walkTime_34 : decode cX12_walkTime 34 = .ok (.goto 4, 3) := by decide +kernel
theorem dX12_walkTime_37 : decode cX12_walkTime 37 = .ok (.iconst 0, 1) := by decide +kernel
theorem dX12_walkTime_38 : decode cX12_walkTime 38 = .ok (.iconst 2, 1) := by decide +kernel
theorem dX12_walkTime_39 : decode cX12_walkTime 39 = .ok (.invokevirtual 130, 3) := by decide +kernel
theorem dX12_walkTime_42 : decode cX12_walkTime 42 = .ok (.ifCond .eq 5, 3) := by decide +kernel
theorem dX12_walkTime_45 : decode cX12_walkTime 45 = .ok (.iconst 0, 1) := by decide +kernel
theorem dX12_walkTime_46 : decode cX12_walkTime 46 = .ok (.ireturn, 1) := by decide +kernel
theorem dX12_walkTime_47 : decode cX12_walkTime 47 = .ok (.aload_n 0, 1) := by decide +kernel
theorem dX12_walkTime_48 : decode cX12_walkTime 48 = .ok (.getfield 16, 3) := by decide +kernel
theorem dX12_walkTime_51 : decode cX12_walkTime 51 = .ok (.bipush 12, 2) := by decide +kernel
theorem dX12_walkTime_53 : decode cX12_walkTime 53 = .ok (.iload_n 1, 1) := by decide +kernel
theorem dX12_walkTime_54 : decode cX12_walkTime 54 = .ok (.imul, 1) := by decide +kernel
theorem dX12_walkTime_55 : decode cX12_walkTime 55 = .ok (.iload_n 2, 1) := by decide +kernel
theorem dX12_walkTime_56 : decode cX12_walkTime 56 = .ok (.iadd, 1) := by decide +kernel
theorem dX12_walkTime_57 : decode cX12_walkTime 57 = .ok (.iaload, 1) := by decide +kernel
theorem dX12_walkTime_58 : decode cX12_walkTime 58 = .ok (.ireturn, 1) := by decide +kernel
theorem dX12_service_0 : decode cX12_service 0 = .ok (.aload_n 0, 1) := by decide +kernel
theorem dX12_service_1 : decode cX12_service 1 = .ok (.aload_n 0, 1) := by decide +kernel
theorem dX12_service_2 : decode cX12_service 2 = .ok (.getfield 134, 3) := by decide +kernel
theorem dX12_service_5 : decode cX12_service 5 = .ok (.bipush 6, 2) := by decide +kernel
theorem dX12_service_7 : decode cX12_service 7 = .ok (.if_icmp .ne 7, 3) := by decide +kernel
theorem dX12_service_10 : decode cX12_service 10 = .ok (.iconst 1, 1) := by decide +kernel
theorem dX12_service_11 : decode cX12_service 11 = .ok (.goto 4, 3) := by decide +kernel
theorem dX12_service_14 : decode cX12_service 14 = .ok (.iconst 0, 1) := by decide +kernel
theorem dX12_service_15 : decode cX12_service 15 = .ok (.iconst 1, 1) := by decide +kernel
theorem dX12_service_16 : decode cX12_service 16 = .ok (.invokevirtual 130, 3) := by decide +kernel
theorem dX12_service_19 : decode cX12_service 19 = .ok (.ifCond .eq 5, 3) := by decide +kernel
theorem dX12_service_22 : decode cX12_service 22 = .ok (.iconst 0, 1) := by decide +kernel
theorem dX12_service_23 : decode cX12_service 23 = .ok (.ireturn, 1) := by decide +kernel
theorem dX12_service_24 : decode cX12_service 24 = .ok (.aload_n 0, 1) := by decide +kernel
theorem dX12_service_25 : decode cX12_service 25 = .ok (.dup, 1) := by decide +kernel
theorem dX12_service_26 : decode cX12_service 26 = .ok (.getfield 134, 3) := by decide +kernel
theorem dX12_service_29 : decode cX12_service 29 = .ok (.iconst 1, 1) := by decide +kernel
theorem dX12_service_30 : decode cX12_service 30 = .ok (.iadd, 1) := by decide +kernel
theorem dX12_service_31 : decode cX12_service 31 = .ok (.putfield 134, 3) := by decide +kernel
theorem dX12_service_34 : decode cX12_service 34 = .ok (.aload_n 0, 1) := by decide +kernel
theorem dX12_service_35 : decode cX12_service 35 = .ok (.getfield 134, 3) := by decide +kernel
theorem dX12_service_38 : decode cX12_service 38 = .ok (.iconst 1, 1) := by decide +kernel
theorem dX12_service_39 : decode cX12_service 39 = .ok (.isub, 1) := by decide +kernel
theorem dX12_service_40 : decode cX12_service 40 = .ok (.ireturn, 1) := by decide +kernel
theorem dX12_week_0 : decode cX12_week 0 = .ok (.aload_n 0, 1) := by decide +kernel
theorem dX12_week_1 : decode cX12_week 1 = .ok (.iload_n 1, 1) := by decide +kernel
theorem dX12_week_2 : decode cX12_week 2 = .ok (.invokevirtual 151, 3) := by decide +kernel
theorem dX12_week_5 : decode cX12_week 5 = .ok (.ifCond .ne 53, 3) := by decide +kernel
theorem dX12_week_8 : decode cX12_week 8 = .ok (.aload_n 0, 1) := by decide +kernel
theorem dX12_week_9 : decode cX12_week 9 = .ok (.iload_n 2, 1) := by decide +kernel
theorem dX12_week_10 : decode cX12_week 10 = .ok (.iconst 0, 1) := by decide +kernel
theorem dX12_week_11 : decode cX12_week 11 = .ok (.bipush 127, 2) := by decide +kernel
theorem dX12_week_13 : decode cX12_week 13 = .ok (.invokestatic 126, 3) := by decide +kernel
theorem dX12_week_16 : decode cX12_week 16 = .ok (.ifCond .eq 30, 3) := by decide +kernel
theorem dX12_week_19 : decode cX12_week 19 = .ok (.iload_n 3, 1) := by decide +kernel
theorem dX12_week_20 : decode cX12_week 20 = .ok (.iconst 0, 1) := by decide +kernel
theorem dX12_week_21 : decode cX12_week 21 = .ok (.bipush 27, 2) := by decide +kernel
theorem dX12_week_23 : decode cX12_week 23 = .ok (.invokestatic 126, 3) := by decide +kernel
theorem dX12_week_26 : decode cX12_week 26 = .ok (.ifCond .eq 20, 3) := by decide +kernel
theorem dX12_week_29 : decode cX12_week 29 = .ok (.iload 4, 2) := by decide +kernel
theorem dX12_week_31 : decode cX12_week 31 = .ok (.iconst 0, 1) := by decide +kernel
theorem dX12_week_32 : decode cX12_week 32 = .ok (.bipush 27, 2) := by decide +kernel
theorem dX12_week_34 : decode cX12_week 34 = .ok (.invokestatic 126, 3) := by decide +kernel
theorem dX12_week_37 : decode cX12_week 37 = .ok (.ifCond .eq 9, 3) := by decide +kernel
theorem dX12_week_40 : decode cX12_week 40 = .ok (.iload 4, 2) := by decide +kernel
theorem dX12_week_42 : decode cX12_week 42 = .ok (.iload_n 3, 1) := by decide +kernel
theorem dX12_week_43 : decode cX12_week 43 = .ok (.if_icmp .ge 7, 3) := by decide +kernel
theorem dX12_week_46 : decode cX12_week 46 = .ok (.iconst 1, 1) := by decide +kernel
theorem dX12_week_47 : decode cX12_week 47 = .ok (.goto 4, 3) := by decide +kernel
theorem dX12_week_50 : decode cX12_week 50 = .ok (.iconst 0, 1) := by decide +kernel
theorem dX12_week_51 : decode cX12_week 51 = .ok (.iconst 2, 1) := by decide +kernel
theorem dX12_week_52 : decode cX12_week 52 = .ok (.invokevirtual 130, 3) := by decide +kernel
theorem dX12_week_55 : decode cX12_week 55 = .ok (.ifCond .eq 5, 3) := by decide +kernel
theorem dX12_week_58 : decode cX12_week 58 = .ok (.iconst 0, 1) := by decide +kernel
theorem dX12_week_59 : decode cX12_week 59 = .ok (.ireturn, 1) := by decide +kernel
theorem dX12_week_60 : decode cX12_week 60 = .ok (.iload_n 3, 1) := by decide +kernel
theorem dX12_week_61 : decode cX12_week 61 = .ok (.istore 5, 2) := by decide +kernel
theorem dX12_week_63 : decode cX12_week 63 = .ok (.iload 5, 2) := by decide +kernel
theorem dX12_week_65 : decode cX12_week 65 = .ok (.iload 4, 2) := by decide +kernel
theorem dX12_week_67 : decode cX12_week 67 = .ok (.if_icmp .gt 35, 3) := by decide +kernel
theorem dX12_week_70 : decode cX12_week 70 = .ok (.iload_n 2, 1) := by decide +kernel
theorem dX12_week_71 : decode cX12_week 71 = .ok (.iload 5, 2) := by decide +kernel
theorem dX12_week_73 : decode cX12_week 73 = .ok (.bipush 7, 2) := by decide +kernel
theorem dX12_week_75 : decode cX12_week 75 = .ok (.irem, 1) := by decide +kernel
theorem dX12_week_76 : decode cX12_week 76 = .ok (.ishr, 1) := by decide +kernel
theorem dX12_week_77 : decode cX12_week 77 = .ok (.iconst 1, 1) := by decide +kernel
theorem dX12_week_78 : decode cX12_week 78 = .ok (.iand, 1) := by decide +kernel
theorem dX12_week_79 : decode cX12_week 79 = .ok (.iconst 1, 1) := by decide +kernel
theorem dX12_week_80 : decode cX12_week 80 = .ok (.if_icmp .ne 16, 3) := by decide +kernel
theorem dX12_week_83 : decode cX12_week 83 = .ok (.aload_n 0, 1) := by decide +kernel
theorem dX12_week_84 : decode cX12_week 84 = .ok (.getfield 23, 3) := by decide +kernel
theorem dX12_week_87 : decode cX12_week 87 = .ok (.bipush 28, 2) := by decide +kernel
theorem dX12_week_89 : decode cX12_week 89 = .ok (.iload_n 1, 1) := by decide +kernel
theorem dX12_week_90 : decode cX12_week 90 = .ok (.imul, 1) := by decide +kernel
theorem dX12_week_91 : decode cX12_week 91 = .ok (.iload 5, 2) := by decide +kernel
theorem dX12_week_93 : decode cX12_week 93 = .ok (.iadd, 1) := by decide +kernel
theorem dX12_week_94 : decode cX12_week 94 = .ok (.iconst 1, 1) := by decide +kernel
theorem dX12_week_95 : decode cX12_week 95 = .ok (.bastore, 1) := by decide +kernel
theorem dX12_week_96 : decode cX12_week 96 = .ok (.iinc 5 1, 3) := by decide +kernel
theorem dX12_week_99 : decode cX12_week 99 = .ok (.goto (-36), 3) := by decide +kernel
theorem dX12_week_102 : decode cX12_week 102 = .ok (.iconst 0, 1) := by decide +kernel
theorem dX12_week_103 : decode cX12_week 103 = .ok (.istore 5, 2) := by decide +kernel
theorem dX12_week_105 : decode cX12_week 105 = .ok (.iconst 0, 1) := by decide +kernel
theorem dX12_week_106 : decode cX12_week 106 = .ok (.istore 6, 2) := by decide +kernel
theorem dX12_week_108 : decode cX12_week 108 = .ok (.iload 6, 2) := by decide +kernel
theorem dX12_week_110 : decode cX12_week 110 = .ok (.bipush 28, 2) := by decide +kernel
theorem dX12_week_112 : decode cX12_week 112 = .ok (.if_icmp .ge 34, 3) := by decide +kernel
theorem dX12_week_115 : decode cX12_week 115 = .ok (.iload 5, 2) := by decide +kernel
theorem dX12_week_117 : decode cX12_week 117 = .ok (.aload_n 0, 1) := by decide +kernel
theorem dX12_week_118 : decode cX12_week 118 = .ok (.getfield 23, 3) := by decide +kernel
theorem dX12_week_121 : decode cX12_week 121 = .ok (.bipush 28, 2) := by decide +kernel
theorem dX12_week_123 : decode cX12_week 123 = .ok (.iload_n 1, 1) := by decide +kernel
theorem dX12_week_124 : decode cX12_week 124 = .ok (.imul, 1) := by decide +kernel
theorem dX12_week_125 : decode cX12_week 125 = .ok (.iload 6, 2) := by decide +kernel
theorem dX12_week_127 : decode cX12_week 127 = .ok (.iadd, 1) := by decide +kernel
theorem dX12_week_128 : decode cX12_week 128 = .ok (.baload, 1) := by decide +kernel
theorem dX12_week_129 : decode cX12_week 129 = .ok (.ifCond .eq 7, 3) := by decide +kernel
theorem dX12_week_132 : decode cX12_week 132 = .ok (.iconst 1, 1) := by decide +kernel
theorem dX12_week_133 : decode cX12_week 133 = .ok (.goto 4, 3) := by decide +kernel
theorem dX12_week_136 : decode cX12_week 136 = .ok (.iconst 0, 1) := by decide +kernel
theorem dX12_week_137 : decode cX12_week 137 = .ok (.iadd, 1) := by decide +kernel
theorem dX12_week_138 : decode cX12_week 138 = .ok (.istore 5, 2) := by decide +kernel
theorem dX12_week_140 : decode cX12_week 140 = .ok (.iinc 6 1, 3) := by decide +kernel
theorem dX12_week_143 : decode cX12_week 143 = .ok (.goto (-35), 3) := by decide +kernel
theorem dX12_week_146 : decode cX12_week 146 = .ok (.iload 5, 2) := by decide +kernel
theorem dX12_week_148 : decode cX12_week 148 = .ok (.ireturn, 1) := by decide +kernel
theorem dX12_putDay_0 : decode cX12_putDay 0 = .ok (.aload_n 0, 1) := by decide +kernel
theorem dX12_putDay_1 : decode cX12_putDay 1 = .ok (.iload_n 1, 1) := by decide +kernel
theorem dX12_putDay_2 : decode cX12_putDay 2 = .ok (.invokevirtual 151, 3) := by decide +kernel
theorem dX12_putDay_5 : decode cX12_putDay 5 = .ok (.ifCond .ne 12, 3) := by decide +kernel
theorem dX12_putDay_8 : decode cX12_putDay 8 = .ok (.aload_n 0, 1) := by decide +kernel
theorem dX12_putDay_9 : decode cX12_putDay 9 = .ok (.iload_n 2, 1) := by decide +kernel
theorem dX12_putDay_10 : decode cX12_putDay 10 = .ok (.iconst 2, 1) := by decide +kernel
theorem dX12_putDay_11 : decode cX12_putDay 11 = .ok (.invokevirtual 154, 3) := by decide +kernel
theorem dX12_putDay_14 : decode cX12_putDay 14 = .ok (.ifCond .eq 5, 3) := by decide +kernel
theorem dX12_putDay_17 : decode cX12_putDay 17 = .ok (.iconst 0, 1) := by decide +kernel
theorem dX12_putDay_18 : decode cX12_putDay 18 = .ok (.ireturn, 1) := by decide +kernel
theorem dX12_putDay_19 : decode cX12_putDay 19 = .ok (.aload_n 0, 1) := by decide +kernel
theorem dX12_putDay_20 : decode cX12_putDay 20 = .ok (.getfield 23, 3) := by decide +kernel
theorem dX12_putDay_23 : decode cX12_putDay 23 = .ok (.bipush 28, 2) := by decide +kernel
theorem dX12_putDay_25 : decode cX12_putDay 25 = .ok (.iload_n 1, 1) := by decide +kernel
theorem dX12_putDay_26 : decode cX12_putDay 26 = .ok (.imul, 1) := by decide +kernel
theorem dX12_putDay_27 : decode cX12_putDay 27 = .ok (.iload_n 2, 1) := by decide +kernel
theorem dX12_putDay_28 : decode cX12_putDay 28 = .ok (.iadd, 1) := by decide +kernel
theorem dX12_putDay_29 : decode cX12_putDay 29 = .ok (.baload, 1) := by decide +kernel
theorem dX12_putDay_30 : decode cX12_putDay 30 = .ok (.istore 4, 2) := by decide +kernel
theorem dX12_putDay_32 : decode cX12_putDay 32 = .ok (.aload_n 0, 1) := by decide +kernel
theorem dX12_putDay_33 : decode cX12_putDay 33 = .ok (.getfield 23, 3) := by decide +kernel
theorem dX12_putDay_36 : decode cX12_putDay 36 = .ok (.bipush 28, 2) := by decide +kernel
theorem dX12_putDay_38 : decode cX12_putDay 38 = .ok (.iload_n 1, 1) := by decide +kernel
theorem dX12_putDay_39 : decode cX12_putDay 39 = .ok (.imul, 1) := by decide +kernel
theorem dX12_putDay_40 : decode cX12_putDay 40 = .ok (.iload_n 2, 1) := by decide +kernel
theorem dX12_putDay_41 : decode cX12_putDay 41 = .ok (.iadd, 1) := by decide +kernel
theorem dX12_putDay_42 : decode cX12_putDay 42 = .ok (.iload_n 3, 1) := by decide +kernel
theorem dX12_putDay_43 : decode cX12_putDay 43 = .ok (.bastore, 1) := by decide +kernel
theorem dX12_putDay_44 : decode cX12_putDay 44 = .ok (.iload 4, 2) := by decide +kernel
theorem dX12_putDay_46 : decode cX12_putDay 46 = .ok (.ireturn, 1) := by decide +kernel
theorem dX12_runsOn_0 : decode cX12_runsOn 0 = .ok (.aload_n 0, 1) := by decide +kernel
theorem dX12_runsOn_1 : decode cX12_runsOn 1 = .ok (.iload_n 1, 1) := by decide +kernel
theorem dX12_runsOn_2 : decode cX12_runsOn 2 = .ok (.invokevirtual 151, 3) := by decide +kernel
theorem dX12_runsOn_5 : decode cX12_runsOn 5 = .ok (.ifCond .ne 30, 3) := by decide +kernel
theorem dX12_runsOn_8 : decode cX12_runsOn 8 = .ok (.aload_n 0, 1) := by decide +kernel
theorem dX12_runsOn_9 : decode cX12_runsOn 9 = .ok (.iload_n 2, 1) := by decide +kernel
theorem dX12_runsOn_10 : decode cX12_runsOn 10 = .ok (.iconst 2, 1) := by decide +kernel
theorem dX12_runsOn_11 : decode cX12_runsOn 11 = .ok (.invokevirtual 154, 3) := by decide +kernel
theorem dX12_runsOn_14 : decode cX12_runsOn 14 = .ok (.ifCond .ne 21, 3) := by decide +kernel
theorem dX12_runsOn_17 : decode cX12_runsOn 17 = .ok (.aload_n 0, 1) := by decide +kernel
theorem dX12_runsOn_18 : decode cX12_runsOn 18 = .ok (.getfield 23, 3) := by decide +kernel
theorem dX12_runsOn_21 : decode cX12_runsOn 21 = .ok (.bipush 28, 2) := by decide +kernel
theorem dX12_runsOn_23 : decode cX12_runsOn 23 = .ok (.iload_n 1, 1) := by decide +kernel
theorem dX12_runsOn_24 : decode cX12_runsOn 24 = .ok (.imul, 1) := by decide +kernel
theorem dX12_runsOn_25 : decode cX12_runsOn 25 = .ok (.iload_n 2, 1) := by decide +kernel
theorem dX12_runsOn_26 : decode cX12_runsOn 26 = .ok (.iadd, 1) := by decide +kernel
theorem dX12_runsOn_27 : decode cX12_runsOn 27 = .ok (.baload, 1) := by decide +kernel
theorem dX12_runsOn_28 : decode cX12_runsOn 28 = .ok (.ifCond .eq 7, 3) := by decide +kernel
theorem dX12_runsOn_31 : decode cX12_runsOn 31 = .ok (.iconst 1, 1) := by decide +kernel
theorem dX12_runsOn_32 : decode cX12_runsOn 32 = .ok (.goto 4, 3) := by decide +kernel
theorem dX12_runsOn_35 : decode cX12_runsOn 35 = .ok (.iconst 0, 1) := by decide +kernel
theorem dX12_runsOn_36 : decode cX12_runsOn 36 = .ok (.ireturn, 1) := by decide +kernel
theorem dX12_nextDay_0 : decode cX12_nextDay 0 = .ok (.aload_n 0, 1) := by decide +kernel
theorem dX12_nextDay_1 : decode cX12_nextDay 1 = .ok (.iload_n 1, 1) := by decide +kernel
theorem dX12_nextDay_2 : decode cX12_nextDay 2 = .ok (.invokevirtual 151, 3) := by decide +kernel
theorem dX12_nextDay_5 : decode cX12_nextDay 5 = .ok (.ifCond .ne 12, 3) := by decide +kernel
theorem dX12_nextDay_8 : decode cX12_nextDay 8 = .ok (.aload_n 0, 1) := by decide +kernel
theorem dX12_nextDay_9 : decode cX12_nextDay 9 = .ok (.iload_n 2, 1) := by decide +kernel
theorem dX12_nextDay_10 : decode cX12_nextDay 10 = .ok (.iconst 2, 1) := by decide +kernel
theorem dX12_nextDay_11 : decode cX12_nextDay 11 = .ok (.invokevirtual 154, 3) := by decide +kernel
theorem dX12_nextDay_14 : decode cX12_nextDay 14 = .ok (.ifCond .eq 5, 3) := by decide +kernel
theorem dX12_nextDay_17 : decode cX12_nextDay 17 = .ok (.iconst 0, 1) := by decide +kernel
theorem dX12_nextDay_18 : decode cX12_nextDay 18 = .ok (.ireturn, 1) := by decide +kernel
theorem dX12_nextDay_19 : decode cX12_nextDay 19 = .ok (.iload_n 2, 1) := by decide +kernel
theorem dX12_nextDay_20 : decode cX12_nextDay 20 = .ok (.istore_n 3, 1) := by decide +kernel
theorem dX12_nextDay_21 : decode cX12_nextDay 21 = .ok (.iload_n 3, 1) := by decide +kernel
theorem dX12_nextDay_22 : decode cX12_nextDay 22 = .ok (.bipush 28, 2) := by decide +kernel
theorem dX12_nextDay_24 : decode cX12_nextDay 24 = .ok (.if_icmp .ge 23, 3) := by decide +kernel
theorem dX12_nextDay_27 : decode cX12_nextDay 27 = .ok (.aload_n 0, 1) := by decide +kernel
theorem dX12_nextDay_28 : decode cX12_nextDay 28 = .ok (.getfield 23, 3) := by decide +kernel
theorem dX12_nextDay_31 : decode cX12_nextDay 31 = .ok (.bipush 28, 2) := by decide +kernel
theorem dX12_nextDay_33 : decode cX12_nextDay 33 = .ok (.iload_n 1, 1) := by decide +kernel
theorem dX12_nextDay_34 : decode cX12_nextDay 34 = .ok (.imul, 1) := by decide +kernel
theorem dX12_nextDay_35 : decode cX12_nextDay 35 = .ok (.iload_n 3, 1) := by decide +kernel
theorem dX12_nextDay_36 : decode cX12_nextDay 36 = .ok (.iadd, 1) := by decide +kernel
theorem dX12_nextDay_37 : decode cX12_nextDay 37 = .ok (.baload, 1) := by decide +kernel
theorem dX12_nextDay_38 : decode cX12_nextDay 38 = .ok (.ifCond .ne 9, 3) := by decide +kernel
theorem dX12_nextDay_41 : decode cX12_nextDay 41 = .ok (.iinc 3 1, 3) := by decide +kernel
theorem dX12_nextDay_44 : decode cX12_nextDay 44 = .ok (.goto (-23), 3) := by decide +kernel
theorem dX12_nextDay_47 : decode cX12_nextDay 47 = .ok (.aload_n 0, 1) := by decide +kernel
theorem dX12_nextDay_48 : decode cX12_nextDay 48 = .ok (.iload_n 3, 1) := by decide +kernel
theorem dX12_nextDay_49 : decode cX12_nextDay 49 = .ok (.bipush 28, 2) := by decide +kernel
theorem dX12_nextDay_51 : decode cX12_nextDay 51 = .ok (.if_icmp .ne 7, 3) := by decide +kernel
theorem dX12_nextDay_54 : decode cX12_nextDay 54 = .ok (.iconst 1, 1) := by decide +kernel
theorem dX12_nextDay_55 : decode cX12_nextDay 55 = .ok (.goto 4, 3) := by decide +kernel
theorem dX12_nextDay_58 : decode cX12_nextDay 58 = .ok (.iconst 0, 1) := by decide +kernel
theorem dX12_nextDay_59 : decode cX12_nextDay 59 = .ok (.iconst 3, 1) := by decide +kernel
theorem dX12_nextDay_60 : decode cX12_nextDay 60 = .ok (.invokevirtual 130, 3) := by decide +kernel
theorem dX12_nextDay_63 : decode cX12_nextDay 63 = .ok (.ifCond .eq 7, 3) := by decide +kernel
theorem dX12_nextDay_66 : decode cX12_nextDay 66 = .ok (.iconst 0, 1) := by decide +kernel
theorem dX12_nextDay_67 : decode cX12_nextDay 67 = .ok (.goto 4, 3) := by decide +kernel
theorem dX12_nextDay_70 : decode cX12_nextDay 70 = .ok (.iload_n 3, 1) := by decide +kernel
theorem dX12_nextDay_71 : decode cX12_nextDay 71 = .ok (.ireturn, 1) := by decide +kernel
theorem dX12_trip_0 : decode cX12_trip 0 = .ok (.aload_n 0, 1) := by decide +kernel
theorem dX12_trip_1 : decode cX12_trip 1 = .ok (.iload_n 1, 1) := by decide +kernel
theorem dX12_trip_2 : decode cX12_trip 2 = .ok (.invokevirtual 151, 3) := by decide +kernel
theorem dX12_trip_5 : decode cX12_trip 5 = .ok (.ifCond .ne 57, 3) := by decide +kernel
theorem dX12_trip_8 : decode cX12_trip 8 = .ok (.aload_n 0, 1) := by decide +kernel
theorem dX12_trip_9 : decode cX12_trip 9 = .ok (.iload_n 2, 1) := by decide +kernel
theorem dX12_trip_10 : decode cX12_trip 10 = .ok (.invokevirtual 147, 3) := by decide +kernel
theorem dX12_trip_13 : decode cX12_trip 13 = .ok (.ifCond .ne 49, 3) := by decide +kernel
theorem dX12_trip_16 : decode cX12_trip 16 = .ok (.aload_n 0, 1) := by decide +kernel
theorem dX12_trip_17 : decode cX12_trip 17 = .ok (.iload_n 3, 1) := by decide +kernel
theorem dX12_trip_18 : decode cX12_trip 18 = .ok (.iconst 0, 1) := by decide +kernel
theorem dX12_trip_19 : decode cX12_trip 19 = .ok (.sipush 2879, 3) := by decide +kernel
theorem dX12_trip_22 : decode cX12_trip 22 = .ok (.invokestatic 126, 3) := by decide +kernel
theorem dX12_trip_25 : decode cX12_trip 25 = .ok (.ifCond .ne 7, 3) := by decide +kernel
theorem dX12_trip_28 : decode cX12_trip 28 = .ok (.iconst 1, 1) := by decide +kernel
theorem dX12_trip_29 : decode cX12_trip 29 = .ok (.goto 4, 3) := by decide +kernel
theorem dX12_trip_32 : decode cX12_trip 32 = .ok (.iconst 0, 1) := by decide +kernel
theorem dX12_trip_33 : decode cX12_trip 33 = .ok (.iconst 2, 1) := by decide +kernel
theorem dX12_trip_34 : decode cX12_trip 34 = .ok (.invokevirtual 130, 3) := by decide +kernel
theorem dX12_trip_37 : decode cX12_trip 37 = .ok (.ifCond .ne 25, 3) := by decide +kernel
theorem dX12_trip_40 : decode cX12_trip 40 = .ok (.aload_n 0, 1) := by decide +kernel
theorem dX12_trip_41 : decode cX12_trip 41 = .ok (.aload_n 0, 1) := by decide +kernel
theorem dX12_trip_42 : decode cX12_trip 42 = .ok (.getfield 137, 3) := by decide +kernel
theorem dX12_trip_45 : decode cX12_trip 45 = .ok (.bipush 24, 2) := by decide +kernel
theorem dX12_trip_47 : decode cX12_trip 47 = .ok (.if_icmp .ne 7, 3) := by decide +kernel
theorem dX12_trip_50 : decode cX12_trip 50 = .ok (.iconst 1, 1) := by decide +kernel
theorem dX12_trip_51 : decode cX12_trip 51 = .ok (.goto 4, 3) := by decide +kernel
theorem dX12_trip_54 : decode cX12_trip 54 = .ok (.iconst 0, 1) := by decide +kernel
theorem dX12_trip_55 : decode cX12_trip 55 = .ok (.iconst 3, 1) := by decide +kernel
theorem dX12_trip_56 : decode cX12_trip 56 = .ok (.invokevirtual 130, 3) := by decide +kernel
theorem dX12_trip_59 : decode cX12_trip 59 = .ok (.ifCond .eq 5, 3) := by decide +kernel
theorem dX12_trip_62 : decode cX12_trip 62 = .ok (.iconst 0, 1) := by decide +kernel
theorem dX12_trip_63 : decode cX12_trip 63 = .ok (.ireturn, 1) := by decide +kernel
theorem dX12_trip_64 : decode cX12_trip 64 = .ok (.aload_n 0, 1) := by decide +kernel
theorem dX12_trip_65 : decode cX12_trip 65 = .ok (.iload_n 1, 1) := by decide +kernel
theorem dX12_trip_66 : decode cX12_trip 66 = .ok (.iload_n 2, 1) := by decide +kernel
theorem dX12_trip_67 : decode cX12_trip 67 = .ok (.iload_n 3, 1) := by decide +kernel
theorem dX12_trip_68 : decode cX12_trip 68 = .ok (.invokevirtual 158, 3) := by decide +kernel
theorem dX12_trip_71 : decode cX12_trip 71 = .ok (.ireturn, 1) := by decide +kernel
theorem dX12_added_0 : decode cX12_added 0 = .ok (.aload_n 0, 1) := by decide +kernel
theorem dX12_added_1 : decode cX12_added 1 = .ok (.getfield 27, 3) := by decide +kernel
theorem dX12_added_4 : decode cX12_added 4 = .ok (.aload_n 0, 1) := by decide +kernel
theorem dX12_added_5 : decode cX12_added 5 = .ok (.getfield 137, 3) := by decide +kernel
theorem dX12_added_8 : decode cX12_added 8 = .ok (.iload_n 1, 1) := by decide +kernel
theorem dX12_added_9 : decode cX12_added 9 = .ok (.iastore, 1) := by decide +kernel
theorem dX12_added_10 : decode cX12_added 10 = .ok (.aload_n 0, 1) := by decide +kernel
theorem dX12_added_11 : decode cX12_added 11 = .ok (.getfield 30, 3) := by decide +kernel
theorem dX12_added_14 : decode cX12_added 14 = .ok (.aload_n 0, 1) := by decide +kernel
theorem dX12_added_15 : decode cX12_added 15 = .ok (.getfield 137, 3) := by decide +kernel
theorem dX12_added_18 : decode cX12_added 18 = .ok (.iconst 1, 1) := by decide +kernel
theorem dX12_added_19 : decode cX12_added 19 = .ok (.iastore, 1) := by decide +kernel
theorem dX12_added_20 : decode cX12_added 20 = .ok (.aload_n 0, 1) := by decide +kernel
theorem dX12_added_21 : decode cX12_added 21 = .ok (.getfield 33, 3) := by decide +kernel
theorem dX12_added_24 : decode cX12_added 24 = .ok (.bipush 8, 2) := by decide +kernel
theorem dX12_added_26 : decode cX12_added 26 = .ok (.aload_n 0, 1) := by decide +kernel
theorem dX12_added_27 : decode cX12_added 27 = .ok (.getfield 137, 3) := by decide +kernel
theorem dX12_added_30 : decode cX12_added 30 = .ok (.imul, 1) := by decide +kernel
theorem dX12_added_31 : decode cX12_added 31 = .ok (.iload_n 2, 1) := by decide +kernel
theorem dX12_added_32 : decode cX12_added 32 = .ok (.iastore, 1) := by decide +kernel
theorem dX12_added_33 : decode cX12_added 33 = .ok (.aload_n 0, 1) := by decide +kernel
theorem dX12_added_34 : decode cX12_added 34 = .ok (.getfield 36, 3) := by decide +kernel
theorem dX12_added_37 : decode cX12_added 37 = .ok (.bipush 8, 2) := by decide +kernel
theorem dX12_added_39 : decode cX12_added 39 = .ok (.aload_n 0, 1) := by decide +kernel
theorem dX12_added_40 : decode cX12_added 40 = .ok (.getfield 137, 3) := by decide +kernel
theorem dX12_added_43 : decode cX12_added 43 = .ok (.imul, 1) := by decide +kernel
theorem dX12_added_44 : decode cX12_added 44 = .ok (.iload_n 3, 1) := by decide +kernel
theorem dX12_added_45 : decode cX12_added 45 = .ok (.iastore, 1) := by decide +kernel
theorem dX12_added_46 : decode cX12_added 46 = .ok (.aload_n 0, 1) := by decide +kernel
theorem dX12_added_47 : decode cX12_added 47 = .ok (.getfield 39, 3) := by decide +kernel
theorem dX12_added_50 : decode cX12_added 50 = .ok (.bipush 8, 2) := by decide +kernel
theorem dX12_added_52 : decode cX12_added 52 = .ok (.aload_n 0, 1) := by decide +kernel
theorem dX12_added_53 : decode cX12_added 53 = .ok (.getfield 137, 3) := by decide +kernel
theorem dX12_added_56 : decode cX12_added 56 = .ok (.imul, 1) := by decide +kernel
theorem dX12_added_57 : decode cX12_added 57 = .ok (.iload_n 3, 1) := by decide +kernel
theorem dX12_added_58 : decode cX12_added 58 = .ok (.iastore, 1) := by decide +kernel
theorem dX12_added_59 : decode cX12_added 59 = .ok (.aload_n 0, 1) := by decide +kernel
theorem dX12_added_60 : decode cX12_added 60 = .ok (.dup, 1) := by decide +kernel
theorem dX12_added_61 : decode cX12_added 61 = .ok (.getfield 137, 3) := by decide +kernel
theorem dX12_added_64 : decode cX12_added 64 = .ok (.iconst 1, 1) := by decide +kernel
theorem dX12_added_65 : decode cX12_added 65 = .ok (.iadd, 1) := by decide +kernel
theorem dX12_added_66 : decode cX12_added 66 = .ok (.putfield 137, 3) := by decide +kernel
theorem dX12_added_69 : decode cX12_added 69 = .ok (.aload_n 0, 1) := by decide +kernel
theorem dX12_added_70 : decode cX12_added 70 = .ok (.getfield 137, 3) := by decide +kernel
theorem dX12_added_73 : decode cX12_added 73 = .ok (.iconst 1, 1) := by decide +kernel
theorem dX12_added_74 : decode cX12_added 74 = .ok (.isub, 1) := by decide +kernel
theorem dX12_added_75 : decode cX12_added 75 = .ok (.ireturn, 1) := by decide +kernel
theorem dX12_call_0 : decode cX12_call 0 = .ok (.aload_n 0, 1) := by decide +kernel
theorem dX12_call_1 : decode cX12_call 1 = .ok (.iload_n 1, 1) := by decide +kernel
theorem dX12_call_2 : decode cX12_call 2 = .ok (.invokevirtual 140, 3) := by decide +kernel
theorem dX12_call_5 : decode cX12_call 5 = .ok (.ifCond .ne 11, 3) := by decide +kernel
theorem dX12_call_8 : decode cX12_call 8 = .ok (.aload_n 0, 1) := by decide +kernel
theorem dX12_call_9 : decode cX12_call 9 = .ok (.iload_n 2, 1) := by decide +kernel
theorem dX12_call_10 : decode cX12_call 10 = .ok (.invokevirtual 147, 3) := by decide +kernel
theorem dX12_call_13 : decode cX12_call 13 = .ok (.ifCond .eq 5, 3) := by decide +kernel
theorem dX12_call_16 : decode cX12_call 16 = .ok (.iconst 0, 1) := by decide +kernel
theorem dX12_call_17 : decode cX12_call 17 = .ok (.ireturn, 1) := by decide +kernel
theorem dX12_call_18 : decode cX12_call 18 = .ok (.bipush 8, 2) := by decide +kernel
theorem dX12_call_20 : decode cX12_call 20 = .ok (.iload_n 1, 1) := by decide +kernel
theorem dX12_call_21 : decode cX12_call 21 = .ok (.imul, 1) := by decide +kernel
theorem dX12_call_22 : decode cX12_call 22 = .ok (.aload_n 0, 1) := by decide +kernel
theorem dX12_call_23 : decode cX12_call 23 = .ok (.getfield 30, 3) := by decide +kernel
theorem dX12_call_26 : decode cX12_call 26 = .ok (.iload_n 1, 1) := by decide +kernel
theorem dX12_call_27 : decode cX12_call 27 = .ok (.iaload, 1) := by decide +kernel
theorem dX12_call_28 : decode cX12_call 28 = .ok (.iadd, 1) := by decide +kernel
theorem dX12_call_29 : decode cX12_call 29 = .ok (.istore 5, 2) := by decide +kernel
theorem dX12_call_31 : decode cX12_call 31 = .ok (.iload_n 3, 1) := by decide +kernel
theorem dX12_call_32 : decode cX12_call 32 = .ok (.iconst 0, 1) := by decide +kernel
theorem dX12_call_33 : decode cX12_call 33 = .ok (.sipush 2879, 3) := by decide +kernel
theorem dX12_call_36 : decode cX12_call 36 = .ok (.invokestatic 126, 3) := by decide +kernel
theorem dX12_call_39 : decode cX12_call 39 = .ok (.ifCond .eq 47, 3) := by decide +kernel
theorem dX12_call_42 : decode cX12_call 42 = .ok (.iload 4, 2) := by decide +kernel
theorem dX12_call_44 : decode cX12_call 44 = .ok (.iconst 0, 1) := by decide +kernel
theorem dX12_call_45 : decode cX12_call 45 = .ok (.sipush 2879, 3) := by decide +kernel
theorem dX12_call_48 : decode cX12_call 48 = .ok (.invokestatic 126, 3) := by decide +kernel
theorem dX12_call_51 : decode cX12_call 51 = .ok (.ifCond .eq 35, 3) := by decide +kernel
theorem dX12_call_54 : decode cX12_call 54 = .ok (.iload_n 3, 1) := by decide +kernel
theorem dX12_call_55 : decode cX12_call 55 = .ok (.aload_n 0, 1) := by decide +kernel
theorem dX12_call_56 : decode cX12_call 56 = .ok (.getfield 39, 3) := by decide +kernel
theorem dX12_call_59 : decode cX12_call 59 = .ok (.iload 5, 2) := by decide +kernel
theorem dX12_call_61 : decode cX12_call 61 = .ok (.iconst 1, 1) := by decide +kernel
theorem dX12_call_62 : decode cX12_call 62 = .ok (.isub, 1) := by decide +kernel
theorem dX12_call_63 : decode cX12_call 63 = .ok (.iaload, 1) := by decide +kernel
theorem dX12_call_64 : decode cX12_call 64 = .ok (.if_icmp .le 22, 3) := by decide +kernel
theorem dX12_call_67 : decode cX12_call 67 = .ok (.iload 4, 2) := by decide +kernel
theorem dX12_call_69 : decode cX12_call 69 = .ok (.iload_n 3, 1) := by decide +kernel
theorem dX12_call_70 : decode cX12_call 70 = .ok (.if_icmp .lt 16, 3) := by decide +kernel
theorem dX12_call_73 : decode cX12_call 73 = .ok (.iload_n 2, 1) := by decide +kernel
theorem dX12_call_74 : decode cX12_call 74 = .ok (.aload_n 0, 1) := by decide +kernel
theorem dX12_call_75 : decode cX12_call 75 = .ok (.getfield 33, 3) := by decide +kernel
theorem dX12_call_78 : decode cX12_call 78 = .ok (.iload 5, 2) := by decide +kernel
theorem dX12_call_80 : decode cX12_call 80 = .ok (.iconst 1, 1) := by decide +kernel
theorem dX12_call_81 : decode cX12_call 81 = .ok (.isub, 1) := by decide +kernel
theorem dX12_call_82 : decode cX12_call 82 = .ok (.iaload, 1) := by decide +kernel
theorem dX12_call_83 : decode cX12_call 83 = .ok (.if_icmp .ne 7, 3) := by decide +kernel
theorem dX12_call_86 : decode cX12_call 86 = .ok (.iconst 1, 1) := by decide +kernel
theorem dX12_call_87 : decode cX12_call 87 = .ok (.goto 4, 3) := by decide +kernel
theorem dX12_call_90 : decode cX12_call 90 = .ok (.iconst 0, 1) := by decide +kernel
theorem dX12_call_91 : decode cX12_call 91 = .ok (.istore 6, 2) := by decide +kernel
theorem dX12_call_93 : decode cX12_call 93 = .ok (.aload_n 0, 1) := by decide +kernel
theorem dX12_call_94 : decode cX12_call 94 = .ok (.iload 6, 2) := by decide +kernel
theorem dX12_call_96 : decode cX12_call 96 = .ok (.iconst 2, 1) := by decide +kernel
theorem dX12_call_97 : decode cX12_call 97 = .ok (.invokevirtual 130, 3) := by decide +kernel
theorem dX12_call_100 : decode cX12_call 100 = .ok (.ifCond .ne 27, 3) := by decide +kernel
theorem dX12_call_103 : decode cX12_call 103 = .ok (.aload_n 0, 1) := by decide +kernel
theorem dX12_call_104 : decode cX12_call 104 = .ok (.aload_n 0, 1) := by decide +kernel
theorem dX12_call_105 : decode cX12_call 105 = .ok (.getfield 30, 3) := by decide +kernel
theorem dX12_call_108 : decode cX12_call 108 = .ok (.iload_n 1, 1) := by decide +kernel
theorem dX12_call_109 : decode cX12_call 109 = .ok (.iaload, 1) := by decide +kernel
theorem dX12_call_110 : decode cX12_call 110 = .ok (.bipush 8, 2) := by decide +kernel
theorem dX12_call_112 : decode cX12_call 112 = .ok (.if_icmp .ne 7, 3) := by decide +kernel
theorem dX12_call_115 : decode cX12_call 115 = .ok (.iconst 1, 1) := by decide +kernel
theorem dX12_call_116 : decode cX12_call 116 = .ok (.goto 4, 3) := by decide +kernel
theorem dX12_call_119 : decode cX12_call 119 = .ok (.iconst 0, 1) := by decide +kernel
theorem dX12_call_120 : decode cX12_call 120 = .ok (.iconst 3, 1) := by decide +kernel
theorem dX12_call_121 : decode cX12_call 121 = .ok (.invokevirtual 130, 3) := by decide +kernel
theorem dX12_call_124 : decode cX12_call 124 = .ok (.ifCond .eq 5, 3) := by decide +kernel
theorem dX12_call_127 : decode cX12_call 127 = .ok (.iconst 0, 1) := by decide +kernel
theorem dX12_call_128 : decode cX12_call 128 = .ok (.ireturn, 1) := by decide +kernel
theorem dX12_call_129 : decode cX12_call 129 = .ok (.aload_n 0, 1) := by decide +kernel
theorem dX12_call_130 : decode cX12_call 130 = .ok (.getfield 33, 3) := by decide +kernel
theorem dX12_call_133 : decode cX12_call 133 = .ok (.iload 5, 2) := by decide +kernel
theorem dX12_call_135 : decode cX12_call 135 = .ok (.iload_n 2, 1) := by decide +kernel
theorem dX12_call_136 : decode cX12_call 136 = .ok (.iastore, 1) := by decide +kernel
theorem dX12_call_137 : decode cX12_call 137 = .ok (.aload_n 0, 1) := by decide +kernel
theorem dX12_call_138 : decode cX12_call 138 = .ok (.getfield 36, 3) := by decide +kernel
theorem dX12_call_141 : decode cX12_call 141 = .ok (.iload 5, 2) := by decide +kernel
theorem dX12_call_143 : decode cX12_call 143 = .ok (.iload_n 3, 1) := by decide +kernel
theorem dX12_call_144 : decode cX12_call 144 = .ok (.iastore, 1) := by decide +kernel
theorem dX12_call_145 : decode cX12_call 145 = .ok (.aload_n 0, 1) := by decide +kernel
theorem dX12_call_146 : decode cX12_call 146 = .ok (.getfield 39, 3) := by decide +kernel
theorem dX12_call_149 : decode cX12_call 149 = .ok (.iload 5, 2) := by decide +kernel
theorem dX12_call_151 : decode cX12_call 151 = .ok (.iload 4, 2) := by decide +kernel
theorem dX12_call_153 : decode cX12_call 153 = .ok (.iastore, 1) := by decide +kernel
theorem dX12_call_154 : decode cX12_call 154 = .ok (.aload_n 0, 1) := by decide +kernel
theorem dX12_call_155 : decode cX12_call 155 = .ok (.getfield 30, 3) := by decide +kernel
theorem dX12_call_158 : decode cX12_call 158 = .ok (.iload_n 1, 1) := by decide +kernel
theorem dX12_call_159 : decode cX12_call 159 = .ok (.dup2, 1) := by decide +kernel
theorem dX12_call_160 : decode cX12_call 160 = .ok (.iaload, 1) := by decide +kernel
theorem dX12_call_161 : decode cX12_call 161 = .ok (.iconst 1, 1) := by decide +kernel
theorem dX12_call_162 : decode cX12_call 162 = .ok (.iadd, 1) := by decide +kernel
theorem dX12_call_163 : decode cX12_call 163 = .ok (.iastore, 1) := by decide +kernel
theorem dX12_call_164 : decode cX12_call 164 = .ok (.aload_n 0, 1) := by decide +kernel
theorem dX12_call_165 : decode cX12_call 165 = .ok (.getfield 30, 3) := by decide +kernel
theorem dX12_call_168 : decode cX12_call 168 = .ok (.iload_n 1, 1) := by decide +kernel
theorem dX12_call_169 : decode cX12_call 169 = .ok (.iaload, 1) := by decide +kernel
theorem dX12_call_170 : decode cX12_call 170 = .ok (.ireturn, 1) := by decide +kernel
theorem dX12_trips_0 : decode cX12_trips 0 = .ok (.aload_n 0, 1) := by decide +kernel
theorem dX12_trips_1 : decode cX12_trips 1 = .ok (.iconst 0, 1) := by decide +kernel
theorem dX12_trips_2 : decode cX12_trips 2 = .ok (.putfield 120, 3) := by decide +kernel
theorem dX12_trips_5 : decode cX12_trips 5 = .ok (.aload_n 0, 1) := by decide +kernel
theorem dX12_trips_6 : decode cX12_trips 6 = .ok (.getfield 137, 3) := by decide +kernel
theorem dX12_trips_9 : decode cX12_trips 9 = .ok (.ireturn, 1) := by decide +kernel
theorem dX12_calls_0 : decode cX12_calls 0 = .ok (.aload_n 0, 1) := by decide +kernel
theorem dX12_calls_1 : decode cX12_calls 1 = .ok (.iload_n 1, 1) := by decide +kernel
theorem dX12_calls_2 : decode cX12_calls 2 = .ok (.invokevirtual 140, 3) := by decide +kernel
theorem dX12_calls_5 : decode cX12_calls 5 = .ok (.ifCond .eq 7, 3) := by decide +kernel
theorem dX12_calls_8 : decode cX12_calls 8 = .ok (.iconst 0, 1) := by decide +kernel
theorem dX12_calls_9 : decode cX12_calls 9 = .ok (.goto 9, 3) := by decide +kernel
theorem dX12_calls_12 : decode cX12_calls 12 = .ok (.aload_n 0, 1) := by decide +kernel
theorem dX12_calls_13 : decode cX12_calls 13 = .ok (.getfield 30, 3) := by decide +kernel
theorem dX12_calls_16 : decode cX12_calls 16 = .ok (.iload_n 1, 1) := by decide +kernel
theorem dX12_calls_17 : decode cX12_calls 17 = .ok (.iaload, 1) := by decide +kernel
theorem dX12_calls_18 : decode cX12_calls 18 = .ok (.ireturn, 1) := by decide +kernel
theorem dX12_stopAt_0 : decode cX12_stopAt 0 = .ok (.aload_n 0, 1) := by decide +kernel
theorem dX12_stopAt_1 : decode cX12_stopAt 1 = .ok (.iload_n 1, 1) := by decide +kernel
theorem dX12_stopAt_2 : decode cX12_stopAt 2 = .ok (.iload_n 2, 1) := by decide +kernel
theorem dX12_stopAt_3 : decode cX12_stopAt 3 = .ok (.invokevirtual 162, 3) := by decide +kernel
theorem dX12_stopAt_6 : decode cX12_stopAt 6 = .ok (.ifCond .eq 7, 3) := by decide +kernel
theorem dX12_stopAt_9 : decode cX12_stopAt 9 = .ok (.iconst 0, 1) := by decide +kernel
theorem dX12_stopAt_10 : decode cX12_stopAt 10 = .ok (.goto 14, 3) := by decide +kernel
theorem dX12_stopAt_13 : decode cX12_stopAt 13 = .ok (.aload_n 0, 1) := by decide +kernel
theorem dX12_stopAt_14 : decode cX12_stopAt 14 = .ok (.getfield 33, 3) := by decide +kernel
theorem dX12_stopAt_17 : decode cX12_stopAt 17 = .ok (.bipush 8, 2) := by decide +kernel
theorem dX12_stopAt_19 : decode cX12_stopAt 19 = .ok (.iload_n 1, 1) := by decide +kernel
theorem dX12_stopAt_20 : decode cX12_stopAt 20 = .ok (.imul, 1) := by decide +kernel
theorem dX12_stopAt_21 : decode cX12_stopAt 21 = .ok (.iload_n 2, 1) := by decide +kernel
theorem dX12_stopAt_22 : decode cX12_stopAt 22 = .ok (.iadd, 1) := by decide +kernel
theorem dX12_stopAt_23 : decode cX12_stopAt 23 = .ok (.iaload, 1) := by decide +kernel
theorem dX12_stopAt_24 : decode cX12_stopAt 24 = .ok (.ireturn, 1) := by decide +kernel
theorem dX12_timeAt_0 : decode cX12_timeAt 0 = .ok (.aload_n 0, 1) := by decide +kernel
theorem dX12_timeAt_1 : decode cX12_timeAt 1 = .ok (.iload_n 1, 1) := by decide +kernel
theorem dX12_timeAt_2 : decode cX12_timeAt 2 = .ok (.iload_n 2, 1) := by decide +kernel
theorem dX12_timeAt_3 : decode cX12_timeAt 3 = .ok (.invokevirtual 162, 3) := by decide +kernel
theorem dX12_timeAt_6 : decode cX12_timeAt 6 = .ok (.ifCond .eq 7, 3) := by decide +kernel
theorem dX12_timeAt_9 : decode cX12_timeAt 9 = .ok (.iconst 0, 1) := by decide +kernel
theorem dX12_timeAt_10 : decode cX12_timeAt 10 = .ok (.goto 32, 3) := by decide +kernel
theorem dX12_timeAt_13 : decode cX12_timeAt 13 = .ok (.iload_n 3, 1) := by decide +kernel
theorem dX12_timeAt_14 : decode cX12_timeAt 14 = .ok (.ifCond .eq 17, 3) := by decide +kernel
theorem dX12_timeAt_17 : decode cX12_timeAt 17 = .ok (.aload_n 0, 1) := by decide +kernel
theorem dX12_timeAt_18 : decode cX12_timeAt 18 = .ok (.getfield 36, 3) := by decide +kernel
theorem dX12_timeAt_21 : decode cX12_timeAt 21 = .ok (.bipush 8, 2) := by decide +kernel
theorem dX12_timeAt_23 : decode cX12_timeAt 23 = .ok (.iload_n 1, 1) := by decide +kernel
theorem dX12_timeAt_24 : decode cX12_timeAt 24 = .ok (.imul, 1) := by decide +kernel
theorem dX12_timeAt_25 : decode cX12_timeAt 25 = .ok (.iload_n 2, 1) := by decide +kernel
theorem dX12_timeAt_26 : decode cX12_timeAt 26 = .ok (.iadd, 1) := by decide +kernel
theorem dX12_timeAt_27 : decode cX12_timeAt 27 = .ok (.iaload, 1) := by decide +kernel
theorem dX12_timeAt_28 : decode cX12_timeAt 28 = .ok (.goto 14, 3) := by decide +kernel
theorem dX12_timeAt_31 : decode cX12_timeAt 31 = .ok (.aload_n 0, 1) := by decide +kernel
theorem dX12_timeAt_32 : decode cX12_timeAt 32 = .ok (.getfield 39, 3) := by decide +kernel
theorem dX12_timeAt_35 : decode cX12_timeAt 35 = .ok (.bipush 8, 2) := by decide +kernel
theorem dX12_timeAt_37 : decode cX12_timeAt 37 = .ok (.iload_n 1, 1) := by decide +kernel
theorem dX12_timeAt_38 : decode cX12_timeAt 38 = .ok (.imul, 1) := by decide +kernel
theorem dX12_timeAt_39 : decode cX12_timeAt 39 = .ok (.iload_n 2, 1) := by decide +kernel
theorem dX12_timeAt_40 : decode cX12_timeAt 40 = .ok (.iadd, 1) := by decide +kernel
theorem dX12_timeAt_41 : decode cX12_timeAt 41 = .ok (.iaload, 1) := by decide +kernel
theorem dX12_timeAt_42 : decode cX12_timeAt 42 = .ok (.ireturn, 1) := by decide +kernel
theorem dX12_isShiftWrong_0 : decode cX12_isShiftWrong 0 = .ok (.iload_n 2, 1) := by decide +kernel
theorem dX12_isShiftWrong_1 : decode cX12_isShiftWrong 1 = .ok (.bipush (-60), 2) := by decide +kernel
theorem dX12_isShiftWrong_3 : decode cX12_isShiftWrong 3 = .ok (.bipush 60, 2) := by decide +kernel
theorem dX12_isShiftWrong_5 : decode cX12_isShiftWrong 5 = .ok (.invokestatic 126, 3) := by decide +kernel
theorem dX12_isShiftWrong_8 : decode cX12_isShiftWrong 8 = .ok (.ifCond .ne 7, 3) := by decide +kernel
theorem dX12_isShiftWrong_11 : decode cX12_isShiftWrong 11 = .ok (.iconst 1, 1) := by decide +kernel
theorem dX12_isShiftWrong_12 : decode cX12_isShiftWrong 12 = .ok (.goto 4, 3) := by decide +kernel
theorem dX12_isShiftWrong_15 : decode cX12_isShiftWrong 15 = .ok (.iconst 0, 1) := by decide +kernel
theorem dX12_isShiftWrong_16 : decode cX12_isShiftWrong 16 = .ok (.istore_n 3, 1) := by decide +kernel
theorem dX12_isShiftWrong_17 : decode cX12_isShiftWrong 17 = .ok (.iconst 0, 1) := by decide +kernel
theorem dX12_isShiftWrong_18 : decode cX12_isShiftWrong 18 = .ok (.istore 4, 2) := by decide +kernel
theorem dX12_isShiftWrong_20 : decode cX12_isShiftWrong 20 = .ok (.iload 4, 2) := by decide +kernel
theorem dX12_isShiftWrong_22 : decode cX12_isShiftWrong 22 = .ok (.aload_n 0, 1) := by decide +kernel
theorem dX12_isShiftWrong_23 : decode cX12_isShiftWrong 23 = .ok (.getfield 30, 3) := by decide +kernel
theorem dX12_isShiftWrong_26 : decode cX12_isShiftWrong 26 = .ok (.iload_n 1, 1) := by decide +kernel
theorem dX12_isShiftWrong_27 : decode cX12_isShiftWrong 27 = .ok (.iaload, 1) := by decide +kernel
theorem dX12_isShiftWrong_28 : decode cX12_isShiftWrong 28 = .ok (.if_icmp .ge 65, 3) := by decide +kernel
theorem dX12_isShiftWrong_31 : decode cX12_isShiftWrong 31 = .ok (.iload_n 3, 1) := by decide +kernel
theorem dX12_isShiftWrong_32 : decode cX12_isShiftWrong 32 = .ok (.aload_n 0, 1) := by decide +kernel
theorem dX12_isShiftWrong_33 : decode cX12_isShiftWrong 33 = .ok (.getfield 36, 3) := by decide +kernel
theorem dX12_isShiftWrong_36 : decode cX12_isShiftWrong 36 = .ok (.bipush 8, 2) := by decide +kernel
theorem dX12_isShiftWrong_38 : decode cX12_isShiftWrong 38 = .ok (.iload_n 1, 1) := by decide +kernel
theorem dX12_isShiftWrong_39 : decode cX12_isShiftWrong 39 = .ok (.imul, 1) := by decide +kernel
theorem dX12_isShiftWrong_40 : decode cX12_isShiftWrong 40 = .ok (.iload 4, 2) := by decide +kernel
theorem dX12_isShiftWrong_42 : decode cX12_isShiftWrong 42 = .ok (.iadd, 1) := by decide +kernel
theorem dX12_isShiftWrong_43 : decode cX12_isShiftWrong 43 = .ok (.iaload, 1) := by decide +kernel
theorem dX12_isShiftWrong_44 : decode cX12_isShiftWrong 44 = .ok (.iload_n 2, 1) := by decide +kernel
theorem dX12_isShiftWrong_45 : decode cX12_isShiftWrong 45 = .ok (.iadd, 1) := by decide +kernel
theorem dX12_isShiftWrong_46 : decode cX12_isShiftWrong 46 = .ok (.iconst 0, 1) := by decide +kernel
theorem dX12_isShiftWrong_47 : decode cX12_isShiftWrong 47 = .ok (.sipush 2879, 3) := by decide +kernel
theorem dX12_isShiftWrong_50 : decode cX12_isShiftWrong 50 = .ok (.invokestatic 126, 3) := by decide +kernel
theorem dX12_isShiftWrong_53 : decode cX12_isShiftWrong 53 = .ok (.ifCond .eq 27, 3) := by decide +kernel
theorem dX12_isShiftWrong_56 : decode cX12_isShiftWrong 56 = .ok (.aload_n 0, 1) := by decide +kernel
theorem dX12_isShiftWrong_57 : decode cX12_isShiftWrong 57 = .ok (.getfield 39, 3) := by decide +kernel
theorem dX12_isShiftWrong_60 : decode cX12_isShiftWrong 60 = .ok (.bipush 8, 2) := by decide +kernel
theorem dX12_isShiftWrong_62 : decode cX12_isShiftWrong 62 = .ok (.iload_n 1, 1) := by decide +kernel
theorem dX12_isShiftWrong_63 : decode cX12_isShiftWrong 63 = .ok (.imul, 1) := by decide +kernel
theorem dX12_isShiftWrong_64 : decode cX12_isShiftWrong 64 = .ok (.iload 4, 2) := by decide +kernel
theorem dX12_isShiftWrong_66 : decode cX12_isShiftWrong 66 = .ok (.iadd, 1) := by decide +kernel
theorem dX12_isShiftWrong_67 : decode cX12_isShiftWrong 67 = .ok (.iaload, 1) := by decide +kernel
theorem dX12_isShiftWrong_68 : decode cX12_isShiftWrong 68 = .ok (.iload_n 2, 1) := by decide +kernel
theorem dX12_isShiftWrong_69 : decode cX12_isShiftWrong 69 = .ok (.iadd, 1) := by decide +kernel
theorem dX12_isShiftWrong_70 : decode cX12_isShiftWrong 70 = .ok (.iconst 0, 1) := by decide +kernel
theorem dX12_isShiftWrong_71 : decode cX12_isShiftWrong 71 = .ok (.sipush 2879, 3) := by decide +kernel
theorem dX12_isShiftWrong_74 : decode cX12_isShiftWrong 74 = .ok (.invokestatic 126, 3) := by decide +kernel
theorem dX12_isShiftWrong_77 : decode cX12_isShiftWrong 77 = .ok (.ifCond .ne 7, 3) := by decide +kernel
theorem dX12_isShiftWrong_80 : decode cX12_isShiftWrong 80 = .ok (.iconst 1, 1) := by decide +kernel
theorem dX12_isShiftWrong_81 : decode cX12_isShiftWrong 81 = .ok (.goto 4, 3) := by decide +kernel
theorem dX12_isShiftWrong_84 : decode cX12_isShiftWrong 84 = .ok (.iconst 0, 1) := by decide +kernel
theorem dX12_isShiftWrong_85 : decode cX12_isShiftWrong 85 = .ok (.ior, 1) := by decide +kernel
theorem dX12_isShiftWrong_86 : decode cX12_isShiftWrong 86 = .ok (.istore_n 3, 1) := by decide +kernel
theorem dX12_isShiftWrong_87 : decode cX12_isShiftWrong 87 = .ok (.iinc 4 1, 3) := by decide +kernel
theorem dX12_isShiftWrong_90 : decode cX12_isShiftWrong 90 = .ok (.goto (-70), 3) := by decide +kernel
theorem dX12_isShiftWrong_93 : decode cX12_isShiftWrong 93 = .ok (.iload_n 3, 1) := by decide +kernel
theorem dX12_isShiftWrong_94 : decode cX12_isShiftWrong 94 = .ok (.ireturn, 1) := by decide +kernel
theorem dX12_move_0 : decode cX12_move 0 = .ok (.iconst 0, 1) := by decide +kernel
theorem dX12_move_1 : decode cX12_move 1 = .ok (.istore_n 3, 1) := by decide +kernel
theorem dX12_move_2 : decode cX12_move 2 = .ok (.iload_n 3, 1) := by decide +kernel
theorem dX12_move_3 : decode cX12_move 3 = .ok (.aload_n 0, 1) := by decide +kernel
theorem dX12_move_4 : decode cX12_move 4 = .ok (.getfield 30, 3) := by decide +kernel
theorem dX12_move_7 : decode cX12_move 7 = .ok (.iload_n 1, 1) := by decide +kernel
theorem dX12_move_8 : decode cX12_move 8 = .ok (.iaload, 1) := by decide +kernel
theorem dX12_move_9 : decode cX12_move 9 = .ok (.if_icmp .ge 39, 3) := by decide +kernel
theorem dX12_move_12 : decode cX12_move 12 = .ok (.aload_n 0, 1) := by decide +kernel
theorem dX12_move_13 : decode cX12_move 13 = .ok (.getfield 36, 3) := by decide +kernel
theorem dX12_move_16 : decode cX12_move 16 = .ok (.bipush 8, 2) := by decide +kernel
theorem dX12_move_18 : decode cX12_move 18 = .ok (.iload_n 1, 1) := by decide +kernel
theorem dX12_move_19 : decode cX12_move 19 = .ok (.imul, 1) := by decide +kernel
theorem dX12_move_20 : decode cX12_move 20 = .ok (.iload_n 3, 1) := by decide +kernel
theorem dX12_move_21 : decode cX12_move 21 = .ok (.iadd, 1) := by decide +kernel
theorem dX12_move_22 : decode cX12_move 22 = .ok (.dup2, 1) := by decide +kernel
theorem dX12_move_23 : decode cX12_move 23 = .ok (.iaload, 1) := by decide +kernel
theorem dX12_move_24 : decode cX12_move 24 = .ok (.iload_n 2, 1) := by decide +kernel
theorem dX12_move_25 : decode cX12_move 25 = .ok (.iadd, 1) := by decide +kernel
theorem dX12_move_26 : decode cX12_move 26 = .ok (.iastore, 1) := by decide +kernel
theorem dX12_move_27 : decode cX12_move 27 = .ok (.aload_n 0, 1) := by decide +kernel
theorem dX12_move_28 : decode cX12_move 28 = .ok (.getfield 39, 3) := by decide +kernel
theorem dX12_move_31 : decode cX12_move 31 = .ok (.bipush 8, 2) := by decide +kernel
theorem dX12_move_33 : decode cX12_move 33 = .ok (.iload_n 1, 1) := by decide +kernel
theorem dX12_move_34 : decode cX12_move 34 = .ok (.imul, 1) := by decide +kernel
theorem dX12_move_35 : decode cX12_move 35 = .ok (.iload_n 3, 1) := by decide +kernel
theorem dX12_move_36 : decode cX12_move 36 = .ok (.iadd, 1) := by decide +kernel
theorem dX12_move_37 : decode cX12_move 37 = .ok (.dup2, 1) := by decide +kernel
theorem dX12_move_38 : decode cX12_move 38 = .ok (.iaload, 1) := by decide +kernel
theorem dX12_move_39 : decode cX12_move 39 = .ok (.iload_n 2, 1) := by decide +kernel
theorem dX12_move_40 : decode cX12_move 40 = .ok (.iadd, 1) := by decide +kernel
theorem dX12_move_41 : decode cX12_move 41 = .ok (.iastore, 1) := by decide +kernel
theorem dX12_move_42 : decode cX12_move 42 = .ok (.iinc 3 1, 3) := by decide +kernel
theorem dX12_move_45 : decode cX12_move 45 = .ok (.goto (-43), 3) := by decide +kernel
theorem dX12_move_48 : decode cX12_move 48 = .ok (.return_, 1) := by decide +kernel
theorem dX12_shift_0 : decode cX12_shift 0 = .ok (.aload_n 0, 1) := by decide +kernel
theorem dX12_shift_1 : decode cX12_shift 1 = .ok (.iload_n 1, 1) := by decide +kernel
theorem dX12_shift_2 : decode cX12_shift 2 = .ok (.invokevirtual 140, 3) := by decide +kernel
theorem dX12_shift_5 : decode cX12_shift 5 = .ok (.ifCond .ne 36, 3) := by decide +kernel
theorem dX12_shift_8 : decode cX12_shift 8 = .ok (.aload_n 0, 1) := by decide +kernel
theorem dX12_shift_9 : decode cX12_shift 9 = .ok (.iload_n 2, 1) := by decide +kernel
theorem dX12_shift_10 : decode cX12_shift 10 = .ok (.bipush (-60), 2) := by decide +kernel
theorem dX12_shift_12 : decode cX12_shift 12 = .ok (.bipush 60, 2) := by decide +kernel
theorem dX12_shift_14 : decode cX12_shift 14 = .ok (.invokestatic 126, 3) := by decide +kernel
theorem dX12_shift_17 : decode cX12_shift 17 = .ok (.ifCond .eq 12, 3) := by decide +kernel
theorem dX12_shift_20 : decode cX12_shift 20 = .ok (.aload_n 0, 1) := by decide +kernel
theorem dX12_shift_21 : decode cX12_shift 21 = .ok (.iload_n 1, 1) := by decide +kernel
theorem dX12_shift_22 : decode cX12_shift 22 = .ok (.iload_n 2, 1) := by decide +kernel
theorem dX12_shift_23 : decode cX12_shift 23 = .ok (.invokevirtual 165, 3) := by decide +kernel
theorem dX12_shift_26 : decode cX12_shift 26 = .ok (.ifCond .eq 7, 3) := by decide +kernel
theorem dX12_shift_29 : decode cX12_shift 29 = .ok (.iconst 1, 1) := by decide +kernel
theorem dX12_shift_30 : decode cX12_shift 30 = .ok (.goto 4, 3) := by decide +kernel
theorem dX12_shift_33 : decode cX12_shift 33 = .ok (.iconst 0, 1) := by decide +kernel
theorem dX12_shift_34 : decode cX12_shift 34 = .ok (.iconst 2, 1) := by decide +kernel
theorem dX12_shift_35 : decode cX12_shift 35 = .ok (.invokevirtual 130, 3) := by decide +kernel
theorem dX12_shift_38 : decode cX12_shift 38 = .ok (.ifCond .eq 5, 3) := by decide +kernel
theorem dX12_shift_41 : decode cX12_shift 41 = .ok (.iconst 0, 1) := by decide +kernel
theorem dX12_shift_42 : decode cX12_shift 42 = .ok (.ireturn, 1) := by decide +kernel
theorem dX12_shift_43 : decode cX12_shift 43 = .ok (.aload_n 0, 1) := by decide +kernel
theorem dX12_shift_44 : decode cX12_shift 44 = .ok (.iload_n 1, 1) := by decide +kernel
theorem dX12_shift_45 : decode cX12_shift 45 = .ok (.iload_n 2, 1) := by decide +kernel
theorem dX12_shift_46 : decode cX12_shift 46 = .ok (.invokevirtual 168, 3) := by decide +kernel
theorem dX12_shift_49 : decode cX12_shift 49 = .ok (.aload_n 0, 1) := by decide +kernel
theorem dX12_shift_50 : decode cX12_shift 50 = .ok (.getfield 39, 3) := by decide +kernel
theorem dX12_shift_53 : decode cX12_shift 53 = .ok (.bipush 8, 2) := by decide +kernel
theorem dX12_shift_55 : decode cX12_shift 55 = .ok (.iload_n 1, 1) := by decide +kernel
theorem dX12_shift_56 : decode cX12_shift 56 = .ok (.imul, 1) := by decide +kernel
theorem dX12_shift_57 : decode cX12_shift 57 = .ok (.iaload, 1) := by decide +kernel
theorem dX12_shift_58 : decode cX12_shift 58 = .ok (.ireturn, 1) := by decide +kernel
theorem dX12_type_0 : decode cX12_type 0 = .ok (.aload_n 0, 1) := by decide +kernel
theorem dX12_type_1 : decode cX12_type 1 = .ok (.aload_n 0, 1) := by decide +kernel
theorem dX12_type_2 : decode cX12_type 2 = .ok (.getfield 172, 3) := by decide +kernel
theorem dX12_type_5 : decode cX12_type 5 = .ok (.bipush 80, 2) := by decide +kernel
theorem dX12_type_7 : decode cX12_type 7 = .ok (.if_icmp .ne 7, 3) := by decide +kernel
theorem dX12_type_10 : decode cX12_type 10 = .ok (.iconst 1, 1) := by decide +kernel
theorem dX12_type_11 : decode cX12_type 11 = .ok (.goto 4, 3) := by decide +kernel
theorem dX12_type_14 : decode cX12_type 14 = .ok (.iconst 0, 1) := by decide +kernel
theorem dX12_type_15 : decode cX12_type 15 = .ok (.iconst 1, 1) := by decide +kernel
theorem dX12_type_16 : decode cX12_type 16 = .ok (.invokevirtual 130, 3) := by decide +kernel
theorem dX12_type_19 : decode cX12_type 19 = .ok (.ifCond .eq 5, 3) := by decide +kernel
theorem dX12_type_22 : decode cX12_type 22 = .ok (.iconst 0, 1) := by decide +kernel
theorem dX12_type_23 : decode cX12_type 23 = .ok (.ireturn, 1) := by decide +kernel
theorem dX12_type_24 : decode cX12_type 24 = .ok (.aload_n 0, 1) := by decide +kernel
theorem dX12_type_25 : decode cX12_type 25 = .ok (.getfield 54, 3) := by decide +kernel
theorem dX12_type_28 : decode cX12_type 28 = .ok (.aload_n 0, 1) := by decide +kernel
theorem dX12_type_29 : decode cX12_type 29 = .ok (.getfield 172, 3) := by decide +kernel
theorem dX12_type_32 : decode cX12_type 32 = .ok (.iload_n 1, 1) := by decide +kernel
theorem dX12_type_33 : decode cX12_type 33 = .ok (.iastore, 1) := by decide +kernel
theorem dX12_type_34 : decode cX12_type 34 = .ok (.aload_n 0, 1) := by decide +kernel
theorem dX12_type_35 : decode cX12_type 35 = .ok (.dup, 1) := by decide +kernel
theorem dX12_type_36 : decode cX12_type 36 = .ok (.getfield 172, 3) := by decide +kernel
theorem dX12_type_39 : decode cX12_type 39 = .ok (.iconst 1, 1) := by decide +kernel
theorem dX12_type_40 : decode cX12_type 40 = .ok (.iadd, 1) := by decide +kernel
theorem dX12_type_41 : decode cX12_type 41 = .ok (.putfield 172, 3) := by decide +kernel
theorem dX12_type_44 : decode cX12_type 44 = .ok (.aload_n 0, 1) := by decide +kernel
theorem dX12_type_45 : decode cX12_type 45 = .ok (.getfield 172, 3) := by decide +kernel
theorem dX12_type_48 : decode cX12_type 48 = .ok (.ireturn, 1) := by decide +kernel
theorem dX12_typeNumber_0 : decode cX12_typeNumber 0 = .ok (.iload_n 1, 1) := by decide +kernel
theorem dX12_typeNumber_1 : decode cX12_typeNumber 1 = .ok (.sipush 999, 3) := by decide +kernel
theorem dX12_typeNumber_4 : decode cX12_typeNumber 4 = .ok (.if_icmp .le 7, 3) := by decide +kernel
theorem dX12_typeNumber_7 : decode cX12_typeNumber 7 = .ok (.iconst 4, 1) := by decide +kernel
theorem dX12_typeNumber_8 : decode cX12_typeNumber 8 = .ok (.goto 24, 3) := by decide +kernel
theorem dX12_typeNumber_11 : decode cX12_typeNumber 11 = .ok (.iload_n 1, 1) := by decide +kernel
theorem dX12_typeNumber_12 : decode cX12_typeNumber 12 = .ok (.bipush 99, 2) := by decide +kernel
theorem dX12_typeNumber_14 : decode cX12_typeNumber 14 = .ok (.if_icmp .le 7, 3) := by decide +kernel
theorem dX12_typeNumber_17 : decode cX12_typeNumber 17 = .ok (.iconst 3, 1) := by decide +kernel
theorem dX12_typeNumber_18 : decode cX12_typeNumber 18 = .ok (.goto 14, 3) := by decide +kernel
theorem dX12_typeNumber_21 : decode cX12_typeNumber 21 = .ok (.iload_n 1, 1) := by decide +kernel
theorem dX12_typeNumber_22 : decode cX12_typeNumber 22 = .ok (.bipush 9, 2) := by decide +kernel
theorem dX12_typeNumber_24 : decode cX12_typeNumber 24 = .ok (.if_icmp .le 7, 3) := by decide +kernel
theorem dX12_typeNumber_27 : decode cX12_typeNumber 27 = .ok (.iconst 2, 1) := by decide +kernel
theorem dX12_typeNumber_28 : decode cX12_typeNumber 28 = .ok (.goto 4, 3) := by decide +kernel
theorem dX12_typeNumber_31 : decode cX12_typeNumber 31 = .ok (.iconst 1, 1) := by decide +kernel
theorem dX12_typeNumber_32 : decode cX12_typeNumber 32 = .ok (.istore_n 2, 1) := by decide +kernel
theorem dX12_typeNumber_33 : decode cX12_typeNumber 33 = .ok (.aload_n 0, 1) := by decide +kernel
theorem dX12_typeNumber_34 : decode cX12_typeNumber 34 = .ok (.iload_n 1, 1) := by decide +kernel
theorem dX12_typeNumber_35 : decode cX12_typeNumber 35 = .ok (.iconst 0, 1) := by decide +kernel
theorem dX12_typeNumber_36 : decode cX12_typeNumber 36 = .ok (.sipush 9999, 3) := by decide +kernel
theorem dX12_typeNumber_39 : decode cX12_typeNumber 39 = .ok (.invokestatic 126, 3) := by decide +kernel
theorem dX12_typeNumber_42 : decode cX12_typeNumber 42 = .ok (.ifCond .ne 7, 3) := by decide +kernel
theorem dX12_typeNumber_45 : decode cX12_typeNumber 45 = .ok (.iconst 1, 1) := by decide +kernel
theorem dX12_typeNumber_46 : decode cX12_typeNumber 46 = .ok (.goto 4, 3) := by decide +kernel
theorem dX12_typeNumber_49 : decode cX12_typeNumber 49 = .ok (.iconst 0, 1) := by decide +kernel
theorem dX12_typeNumber_50 : decode cX12_typeNumber 50 = .ok (.iconst 1, 1) := by decide +kernel
theorem dX12_typeNumber_51 : decode cX12_typeNumber 51 = .ok (.invokevirtual 130, 3) := by decide +kernel
theorem dX12_typeNumber_54 : decode cX12_typeNumber 54 = .ok (.ifCond .ne 27, 3) := by decide +kernel
theorem dX12_typeNumber_57 : decode cX12_typeNumber 57 = .ok (.aload_n 0, 1) := by decide +kernel
theorem dX12_typeNumber_58 : decode cX12_typeNumber 58 = .ok (.aload_n 0, 1) := by decide +kernel
theorem dX12_typeNumber_59 : decode cX12_typeNumber 59 = .ok (.getfield 172, 3) := by decide +kernel
theorem dX12_typeNumber_62 : decode cX12_typeNumber 62 = .ok (.iload_n 2, 1) := by decide +kernel
theorem dX12_typeNumber_63 : decode cX12_typeNumber 63 = .ok (.iadd, 1) := by decide +kernel
theorem dX12_typeNumber_64 : decode cX12_typeNumber 64 = .ok (.bipush 80, 2) := by decide +kernel
theorem dX12_typeNumber_66 : decode cX12_typeNumber 66 = .ok (.if_icmp .le 7, 3) := by decide +kernel
theorem dX12_typeNumber_69 : decode cX12_typeNumber 69 = .ok (.iconst 1, 1) := by decide +kernel
theorem dX12_typeNumber_70 : decode cX12_typeNumber 70 = .ok (.goto 4, 3) := by decide +kernel
theorem dX12_typeNumber_73 : decode cX12_typeNumber 73 = .ok (.iconst 0, 1) := by decide +kernel
theorem dX12_typeNumber_74 : decode cX12_typeNumber 74 = .ok (.iconst 2, 1) := by decide +kernel
theorem dX12_typeNumber_75 : decode cX12_typeNumber 75 = .ok (.invokevirtual 130, 3) := by decide +kernel
theorem dX12_typeNumber_78 : decode cX12_typeNumber 78 = .ok (.ifCond .eq 5, 3) := by decide +kernel
theorem dX12_typeNumber_81 : decode cX12_typeNumber 81 = .ok (.iconst 0, 1) := by decide +kernel
theorem dX12_typeNumber_82 : decode cX12_typeNumber 82 = .ok (.ireturn, 1) := by decide +kernel
theorem dX12_typeNumber_83 : decode cX12_typeNumber 83 = .ok (.iload_n 1, 1) := by decide +kernel
theorem dX12_typeNumber_84 : decode cX12_typeNumber 84 = .ok (.istore_n 3, 1) := by decide +kernel
theorem dX12_typeNumber_85 : decode cX12_typeNumber 85 = .ok (.iload_n 2, 1) := by decide +kernel
theorem dX12_typeNumber_86 : decode cX12_typeNumber 86 = .ok (.iconst 1, 1) := by decide +kernel
theorem dX12_typeNumber_87 : decode cX12_typeNumber 87 = .ok (.isub, 1) := by decide +kernel
theorem dX12_typeNumber_88 : decode cX12_typeNumber 88 = .ok (.istore 4, 2) := by decide +kernel
theorem dX12_typeNumber_90 : decode cX12_typeNumber 90 = .ok (.iload 4, 2) := by decide +kernel
theorem dX12_typeNumber_92 : decode cX12_typeNumber 92 = .ok (.ifCond .lt 33, 3) := by decide +kernel
theorem dX12_typeNumber_95 : decode cX12_typeNumber 95 = .ok (.aload_n 0, 1) := by decide +kernel
theorem dX12_typeNumber_96 : decode cX12_typeNumber 96 = .ok (.getfield 54, 3) := by decide +kernel
theorem dX12_typeNumber_99 : decode cX12_typeNumber 99 = .ok (.aload_n 0, 1) := by decide +kernel
theorem dX12_typeNumber_100 : decode cX12_typeNumber 100 = .ok (.getfield 172, 3) := by decide +kernel
theorem dX12_typeNumber_103 : decode cX12_typeNumber 103 = .ok (.iload 4, 2) := by decide +kernel
theorem dX12_typeNumber_105 : decode cX12_typeNumber 105 = .ok (.iadd, 1) := by decide +kernel
theorem dX12_typeNumber_106 : decode cX12_typeNumber 106 = .ok (.bipush 48, 2) := by decide +kernel
theorem dX12_typeNumber_108 : decode cX12_typeNumber 108 = .ok (.iload_n 3, 1) := by decide +kernel
theorem dX12_typeNumber_109 : decode cX12_typeNumber 109 = .ok (.bipush 10, 2) := by decide +kernel
theorem dX12_typeNumber_111 : decode cX12_typeNumber 111 = .ok (.irem, 1) := by decide +kernel
theorem dX12_typeNumber_112 : decode cX12_typeNumber 112 = .ok (.iadd, 1) := by decide +kernel
theorem dX12_typeNumber_113 : decode cX12_typeNumber 113 = .ok (.iastore, 1) := by decide +kernel
theorem dX12_typeNumber_114 : decode cX12_typeNumber 114 = .ok (.iload_n 3, 1) := by decide +kernel
theorem dX12_typeNumber_115 : decode cX12_typeNumber 115 = .ok (.bipush 10, 2) := by decide +kernel
theorem dX12_typeNumber_117 : decode cX12_typeNumber 117 = .ok (.idiv, 1) := by decide +kernel
theorem dX12_typeNumber_118 : decode cX12_typeNumber 118 = .ok (.istore_n 3, 1) := by decide +kernel
theorem dX12_typeNumber_119 : decode cX12_typeNumber 119 = .ok (.iinc 4 (-1), 3) := by decide +kernel
theorem dX12_typeNumber_122 : decode cX12_typeNumber 122 = .ok (.goto (-32), 3) := by decide +kernel
theorem dX12_typeNumber_125 : decode cX12_typeNumber 125 = .ok (.aload_n 0, 1) := by decide +kernel
theorem dX12_typeNumber_126 : decode cX12_typeNumber 126 = .ok (.dup, 1) := by decide +kernel
theorem dX12_typeNumber_127 : decode cX12_typeNumber 127 = .ok (.getfield 172, 3) := by decide +kernel
theorem dX12_typeNumber_130 : decode cX12_typeNumber 130 = .ok (.iload_n 2, 1) := by decide +kernel
theorem dX12_typeNumber_131 : decode cX12_typeNumber 131 = .ok (.iadd, 1) := by decide +kernel
theorem dX12_typeNumber_132 : decode cX12_typeNumber 132 = .ok (.putfield 172, 3) := by decide +kernel
theorem dX12_typeNumber_135 : decode cX12_typeNumber 135 = .ok (.aload_n 0, 1) := by decide +kernel
theorem dX12_typeNumber_136 : decode cX12_typeNumber 136 = .ok (.getfield 172, 3) := by decide +kernel
theorem dX12_typeNumber_139 : decode cX12_typeNumber 139 = .ok (.ireturn, 1) := by decide +kernel
theorem dX12_erase_0 : decode cX12_erase 0 = .ok (.aload_n 0, 1) := by decide +kernel
theorem dX12_erase_1 : decode cX12_erase 1 = .ok (.iconst 0, 1) := by decide +kernel
theorem dX12_erase_2 : decode cX12_erase 2 = .ok (.putfield 120, 3) := by decide +kernel
theorem dX12_erase_5 : decode cX12_erase 5 = .ok (.aload_n 0, 1) := by decide +kernel
theorem dX12_erase_6 : decode cX12_erase 6 = .ok (.getfield 172, 3) := by decide +kernel
theorem dX12_erase_9 : decode cX12_erase 9 = .ok (.istore_n 1, 1) := by decide +kernel
theorem dX12_erase_10 : decode cX12_erase 10 = .ok (.aload_n 0, 1) := by decide +kernel
theorem dX12_erase_11 : decode cX12_erase 11 = .ok (.iconst 0, 1) := by decide +kernel
theorem dX12_erase_12 : decode cX12_erase 12 = .ok (.putfield 172, 3) := by decide +kernel
theorem dX12_erase_15 : decode cX12_erase 15 = .ok (.iload_n 1, 1) := by decide +kernel
theorem dX12_erase_16 : decode cX12_erase 16 = .ok (.ireturn, 1) := by decide +kernel
theorem dX12_read_0 : decode cX12_read 0 = .ok (.iconst 0, 1) := by decide +kernel
theorem dX12_read_1 : decode cX12_read 1 = .ok (.istore_n 1, 1) := by decide +kernel
theorem dX12_read_2 : decode cX12_read 2 = .ok (.iconst 0, 1) := by decide +kernel
theorem dX12_read_3 : decode cX12_read 3 = .ok (.istore_n 2, 1) := by decide +kernel
theorem dX12_read_4 : decode cX12_read 4 = .ok (.iconst 0, 1) := by decide +kernel
theorem dX12_read_5 : decode cX12_read 5 = .ok (.istore_n 3, 1) := by decide +kernel
theorem dX12_read_6 : decode cX12_read 6 = .ok (.aload_n 0, 1) := by decide +kernel
theorem dX12_read_7 : decode cX12_read 7 = .ok (.iconst 0, 1) := by decide +kernel
theorem dX12_read_8 : decode cX12_read 8 = .ok (.putfield 175, 3) := by decide +kernel
theorem dX12_read_11 : decode cX12_read 11 = .ok (.iconst 0, 1) := by decide +kernel
theorem dX12_read_12 : decode cX12_read 12 = .ok (.istore 4, 2) := by decide +kernel
theorem dX12_read_14 : decode cX12_read 14 = .ok (.iload 4, 2) := by decide +kernel
theorem dX12_read_16 : decode cX12_read 16 = .ok (.aload_n 0, 1) := by decide +kernel
theorem dX12_read_17 : decode cX12_read 17 = .ok (.getfield 172, 3) := by decide +kernel
theorem dX12_read_20 : decode cX12_read 20 = .ok (.if_icmp .ge 175, 3) := by decide +kernel
theorem dX12_read_23 : decode cX12_read 23 = .ok (.aload_n 0, 1) := by decide +kernel
theorem dX12_read_24 : decode cX12_read 24 = .ok (.getfield 54, 3) := by decide +kernel
theorem dX12_read_27 : decode cX12_read 27 = .ok (.iload 4, 2) := by decide +kernel
theorem dX12_read_29 : decode cX12_read 29 = .ok (.iaload, 1) := by decide +kernel
theorem dX12_read_30 : decode cX12_read 30 = .ok (.istore 5, 2) := by decide +kernel
theorem dX12_read_32 : decode cX12_read 32 = .ok (.iload 5, 2) := by decide +kernel
theorem dX12_read_34 : decode cX12_read 34 = .ok (.bipush 48, 2) := by decide +kernel
theorem dX12_read_36 : decode cX12_read 36 = .ok (.bipush 57, 2) := by decide +kernel
theorem dX12_read_38 : decode cX12_read 38 = .ok (.invokestatic 126, 3) := by decide +kernel
theorem dX12_read_41 : decode cX12_read 41 = .ok (.ifCond .eq 25, 3) := by decide +kernel
theorem dX12_read_44 : decode cX12_read 44 = .ok (.iload_n 2, 1) := by decide +kernel
theorem dX12_read_45 : decode cX12_read 45 = .ok (.iconst 4, 1) := by decide +kernel
theorem dX12_read_46 : decode cX12_read 46 = .ok (.if_icmp .ge 20, 3) := by decide +kernel
theorem dX12_read_49 : decode cX12_read 49 = .ok (.bipush 10, 2) := by decide +kernel
theorem dX12_read_51 : decode cX12_read 51 = .ok (.iload_n 3, 1) := by decide +kernel
theorem dX12_read_52 : decode cX12_read 52 = .ok (.imul, 1) := by decide +kernel
theorem dX12_read_53 : decode cX12_read 53 = .ok (.iload 5, 2) := by decide +kernel
theorem dX12_read_55 : decode cX12_read 55 = .ok (.iadd, 1) := by decide +kernel
theorem dX12_read_56 : decode cX12_read 56 = .ok (.bipush 48, 2) := by decide +kernel
theorem dX12_read_58 : decode cX12_read 58 = .ok (.isub, 1) := by decide +kernel
theorem dX12_read_59 : decode cX12_read 59 = .ok (.istore_n 3, 1) := by decide +kernel
theorem dX12_read_60 : decode cX12_read 60 = .ok (.iinc 2 1, 3) := by decide +kernel
theorem dX12_read_63 : decode cX12_read 63 = .ok (.goto 126, 3) := by decide +kernel
theorem dX12_read_66 : decode cX12_read 66 = .ok (.iload_n 2, 1) := by decide +kernel
theorem dX12_read_67 : decode cX12_read 67 = .ok (.ifCond .le 54, 3) := by decide +kernel
theorem dX12_read_70 : decode cX12_read 70 = .ok (.iload 5, 2) := by decide +kernel
theorem dX12_read_72 : decode cX12_read 72 = .ok (.bipush 58, 2) := by decide +kernel
theorem dX12_read_74 : decode cX12_read 74 = .ok (.if_icmp .ne 7, 3) := by decide +kernel
theorem dX12_read_77 : decode cX12_read 77 = .ok (.iload_n 1, 1) := by decide +kernel
theorem dX12_read_78 : decode cX12_read 78 = .ok (.ifCond .eq 39, 3) := by decide +kernel
theorem dX12_read_81 : decode cX12_read 81 = .ok (.iload 5, 2) := by decide +kernel
theorem dX12_read_83 : decode cX12_read 83 = .ok (.bipush 64, 2) := by decide +kernel
theorem dX12_read_85 : decode cX12_read 85 = .ok (.if_icmp .ne 8, 3) := by decide +kernel
theorem dX12_read_88 : decode cX12_read 88 = .ok (.iload_n 1, 1) := by decide +kernel
theorem dX12_read_89 : decode cX12_read 89 = .ok (.iconst 1, 1) := by decide +kernel
theorem dX12_read_90 : decode cX12_read 90 = .ok (.if_icmp .eq 27, 3) := by decide +kernel
theorem dX12_read_93 : decode cX12_read 93 = .ok (.iload 5, 2) := by decide +kernel
theorem dX12_read_95 : decode cX12_read 95 = .ok (.bipush 44, 2) := by decide +kernel
theorem dX12_read_97 : decode cX12_read 97 = .ok (.if_icmp .ne 8, 3) := by decide +kernel
theorem dX12_read_100 : decode cX12_read 100 = .ok (.iload_n 1, 1) := by decide +kernel
theorem dX12_read_101 : decode cX12_read 101 = .ok (.iconst 2, 1) := by decide +kernel
theorem dX12_read_102 : decode cX12_read 102 = .ok (.if_icmp .ge 15, 3) := by decide +kernel
theorem dX12_read_105 : decode cX12_read 105 = .ok (.iload 5, 2) := by decide +kernel
theorem dX12_read_107 : decode cX12_read 107 = .ok (.bipush 45, 2) := by decide +kernel
theorem dX12_read_109 : decode cX12_read 109 = .ok (.if_icmp .ne 12, 3) := by decide +kernel
theorem dX12_read_112 : decode cX12_read 112 = .ok (.iload_n 1, 1) := by decide +kernel
theorem dX12_read_113 : decode cX12_read 113 = .ok (.iconst 3, 1) := by decide +kernel
theorem dX12_read_114 : decode cX12_read 114 = .ok (.if_icmp .ne 7, 3) := by decide +kernel
theorem dX12_read_117 : decode cX12_read 117 = .ok (.iconst 1, 1) := by decide +kernel
theorem dX12_read_118 : decode cX12_read 118 = .ok (.goto 4, 3) := by decide +kernel
theorem dX12_read_121 : decode cX12_read 121 = .ok (.iconst 0, 1) := by decide +kernel
theorem dX12_read_122 : decode cX12_read 122 = .ok (.istore 6, 2) := by decide +kernel
theorem dX12_read_124 : decode cX12_read 124 = .ok (.iload 6, 2) := by decide +kernel
theorem dX12_read_126 : decode cX12_read 126 = .ok (.ifCond .ne 6, 3) := by decide +kernel
theorem dX12_read_129 : decode cX12_read 129 = .ok (.iload 4, 2) := by decide +kernel
theorem dX12_read_131 : decode cX12_read 131 = .ok (.ireturn, 1) := by decide +kernel
theorem dX12_read_132 : decode cX12_read 132 = .ok (.aload_n 0, 1) := by decide +kernel
theorem dX12_read_133 : decode cX12_read 133 = .ok (.iload_n 1, 1) := by decide +kernel
theorem dX12_read_134 : decode cX12_read 134 = .ok (.iload_n 3, 1) := by decide +kernel
theorem dX12_read_135 : decode cX12_read 135 = .ok (.invokevirtual 178, 3) := by decide +kernel
theorem dX12_read_138 : decode cX12_read 138 = .ok (.iload 5, 2) := by decide +kernel
theorem dX12_read_140 : decode cX12_read 140 = .ok (.bipush 58, 2) := by decide +kernel
theorem dX12_read_142 : decode cX12_read 142 = .ok (.if_icmp .ne 7, 3) := by decide +kernel
theorem dX12_read_145 : decode cX12_read 145 = .ok (.iconst 1, 1) := by decide +kernel
theorem dX12_read_146 : decode cX12_read 146 = .ok (.goto 38, 3) := by decide +kernel
theorem dX12_read_149 : decode cX12_read 149 = .ok (.iload 5, 2) := by decide +kernel
theorem dX12_read_151 : decode cX12_read 151 = .ok (.bipush 64, 2) := by decide +kernel
theorem dX12_read_153 : decode cX12_read 153 = .ok (.if_icmp .ne 19, 3) := by decide +kernel
theorem dX12_read_156 : decode cX12_read 156 = .ok (.aload_n 0, 1) := by decide +kernel
theorem dX12_read_157 : decode cX12_read 157 = .ok (.getfield 175, 3) := by decide +kernel
theorem dX12_read_160 : decode cX12_read 160 = .ok (.iconst 2, 1) := by decide +kernel
theorem dX12_read_161 : decode cX12_read 161 = .ok (.if_icmp .ne 7, 3) := by decide +kernel
theorem dX12_read_164 : decode cX12_read 164 = .ok (.iconst 2, 1) := by decide +kernel
theorem dX12_read_165 : decode cX12_read 165 = .ok (.goto 19, 3) := by decide +kernel
theorem dX12_read_168 : decode cX12_read 168 = .ok (.iconst 3, 1) := by decide +kernel
theorem dX12_read_169 : decode cX12_read 169 = .ok (.goto 15, 3) := by decide +kernel
theorem dX12_read_172 : decode cX12_read 172 = .ok (.iload 5, 2) := by decide +kernel
theorem dX12_read_174 : decode cX12_read 174 = .ok (.bipush 44, 2) := by decide +kernel
theorem dX12_read_176 : decode cX12_read 176 = .ok (.if_icmp .ne 7, 3) := by decide +kernel
theorem dX12_read_179 : decode cX12_read 179 = .ok (.iconst 1, 1) := by decide +kernel
theorem dX12_read_180 : decode cX12_read 180 = .ok (.goto 4, 3) := by decide +kernel
theorem dX12_read_183 : decode cX12_read 183 = .ok (.iconst 4, 1) := by decide +kernel
theorem dX12_read_184 : decode cX12_read 184 = .ok (.istore_n 1, 1) := by decide +kernel
theorem dX12_read_185 : decode cX12_read 185 = .ok (.iconst 0, 1) := by decide +kernel
theorem dX12_read_186 : decode cX12_read 186 = .ok (.istore_n 3, 1) := by decide +kernel
theorem dX12_read_187 : decode cX12_read 187 = .ok (.iconst 0, 1) := by decide +kernel
theorem dX12_read_188 : decode cX12_read 188 = .ok (.istore_n 2, 1) := by decide +kernel
theorem dX12_read_189 : decode cX12_read 189 = .ok (.iinc 4 1, 3) := by decide +kernel
theorem dX12_read_192 : decode cX12_read 192 = .ok (.goto (-178), 3) := by decide +kernel
theorem dX12_read_195 : decode cX12_read 195 = .ok (.iload_n 2, 1) := by decide +kernel
theorem dX12_read_196 : decode cX12_read 196 = .ok (.ifCond .eq 8, 3) := by decide +kernel
theorem dX12_read_199 : decode cX12_read 199 = .ok (.iload_n 1, 1) := by decide +kernel
theorem dX12_read_200 : decode cX12_read 200 = .ok (.iconst 2, 1) := by decide +kernel
theorem dX12_read_201 : decode cX12_read 201 = .ok (.if_icmp .ge 8, 3) := by decide +kernel
theorem dX12_read_204 : decode cX12_read 204 = .ok (.aload_n 0, 1) := by decide +kernel
theorem dX12_read_205 : decode cX12_read 205 = .ok (.getfield 172, 3) := by decide +kernel
theorem dX12_read_208 : decode cX12_read 208 = .ok (.ireturn, 1) := by decide +kernel
theorem dX12_read_209 : decode cX12_read 209 = .ok (.aload_n 0, 1) := by decide +kernel
theorem dX12_read_210 : decode cX12_read 210 = .ok (.iload_n 1, 1) := by decide +kernel
theorem dX12_read_211 : decode cX12_read 211 = .ok (.iload_n 3, 1) := by decide +kernel
theorem dX12_read_212 : decode cX12_read 212 = .ok (.invokevirtual 178, 3) := by decide +kernel
theorem dX12_read_215 : decode cX12_read 215 = .ok (.iconst (-1), 1) := by decide +kernel
theorem dX12_read_216 : decode cX12_read 216 = .ok (.ireturn, 1) := by decide +kernel
theorem dX12_told_0 : decode cX12_told 0 = .ok (.aload_n 0, 1) := by decide +kernel
theorem dX12_told_1 : decode cX12_told 1 = .ok (.getfield 175, 3) := by decide +kernel
theorem dX12_told_4 : decode cX12_told 4 = .ok (.bipush 26, 2) := by decide +kernel
theorem dX12_told_6 : decode cX12_told 6 = .ok (.if_icmp .le 4, 3) := by decide +kernel
theorem dX12_told_9 : decode cX12_told 9 = .ok (.return_, 1) := by decide +kernel
theorem dX12_told_10 : decode cX12_told 10 = .ok (.iload_n 1, 1) := by decide +kernel
theorem dX12_told_11 : decode cX12_told 11 = .ok (.iconst 4, 1) := by decide +kernel
theorem dX12_told_12 : decode cX12_told 12 = .ok (.if_icmp .ne 16, 3) := by decide +kernel
theorem dX12_told_15 : decode cX12_told 15 = .ok (.aload_n 0, 1) := by decide +kernel
theorem dX12_told_16 : decode cX12_told 16 = .ok (.getfield 111, 3) := by decide +kernel
theorem dX12_told_19 : decode cX12_told 19 = .ok (.aload_n 0, 1) := by decide +kernel
theorem dX12_told_20 : decode cX12_told 20 = .ok (.getfield 175, 3) := by decide +kernel
theorem dX12_told_23 : decode cX12_told 23 = .ok (.iconst 1, 1) := by decide +kernel
theorem dX12_told_24 : decode cX12_told 24 = .ok (.isub, 1) := by decide +kernel
theorem dX12_told_25 : decode cX12_told 25 = .ok (.iload_n 2, 1) := by decide +kernel
theorem dX12_told_26 : decode cX12_told 26 = .ok (.iastore, 1) := by decide +kernel
theorem dX12_told_27 : decode cX12_told 27 = .ok (.return_, 1) := by decide +kernel
theorem dX12_told_28 : decode cX12_told 28 = .ok (.aload_n 0, 1) := by decide +kernel
theorem dX12_told_29 : decode cX12_told 29 = .ok (.getfield 111, 3) := by decide +kernel
theorem dX12_told_32 : decode cX12_told 32 = .ok (.aload_n 0, 1) := by decide +kernel
theorem dX12_told_33 : decode cX12_told 33 = .ok (.getfield 175, 3) := by decide +kernel
theorem dX12_told_36 : decode cX12_told 36 = .ok (.iload_n 2, 1) := by decide +kernel
theorem dX12_told_37 : decode cX12_told 37 = .ok (.iastore, 1) := by decide +kernel
theorem dX12_told_38 : decode cX12_told 38 = .ok (.aload_n 0, 1) := by decide +kernel
theorem dX12_told_39 : decode cX12_told 39 = .ok (.dup, 1) := by decide +kernel
theorem dX12_told_40 : decode cX12_told 40 = .ok (.getfield 175, 3) := by decide +kernel
theorem dX12_told_43 : decode cX12_told 43 = .ok (.iconst 1, 1) := by decide +kernel
theorem dX12_told_44 : decode cX12_told 44 = .ok (.iadd, 1) := by decide +kernel
theorem dX12_told_45 : decode cX12_told 45 = .ok (.putfield 175, 3) := by decide +kernel
theorem dX12_told_48 : decode cX12_told 48 = .ok (.iload_n 1, 1) := by decide +kernel
theorem dX12_told_49 : decode cX12_told 49 = .ok (.iconst 2, 1) := by decide +kernel
theorem dX12_told_50 : decode cX12_told 50 = .ok (.if_icmp .eq 8, 3) := by decide +kernel
theorem dX12_told_53 : decode cX12_told 53 = .ok (.iload_n 1, 1) := by decide +kernel
theorem dX12_told_54 : decode cX12_told 54 = .ok (.iconst 3, 1) := by decide +kernel
theorem dX12_told_55 : decode cX12_told 55 = .ok (.if_icmp .ne 23, 3) := by decide +kernel
theorem dX12_told_58 : decode cX12_told 58 = .ok (.aload_n 0, 1) := by decide +kernel
theorem dX12_told_59 : decode cX12_told 59 = .ok (.getfield 111, 3) := by decide +kernel
theorem dX12_told_62 : decode cX12_told 62 = .ok (.aload_n 0, 1) := by decide +kernel
theorem dX12_told_63 : decode cX12_told 63 = .ok (.getfield 175, 3) := by decide +kernel
theorem dX12_told_66 : decode cX12_told 66 = .ok (.iload_n 2, 1) := by decide +kernel
theorem dX12_told_67 : decode cX12_told 67 = .ok (.iastore, 1) := by decide +kernel
theorem dX12_told_68 : decode cX12_told 68 = .ok (.aload_n 0, 1) := by decide +kernel
theorem dX12_told_69 : decode cX12_told 69 = .ok (.dup, 1) := by decide +kernel
theorem dX12_told_70 : decode cX12_told 70 = .ok (.getfield 175, 3) := by decide +kernel
theorem dX12_told_73 : decode cX12_told 73 = .ok (.iconst 1, 1) := by decide +kernel
theorem dX12_told_74 : decode cX12_told 74 = .ok (.iadd, 1) := by decide +kernel
theorem dX12_told_75 : decode cX12_told 75 = .ok (.putfield 175, 3) := by decide +kernel
theorem dX12_told_78 : decode cX12_told 78 = .ok (.return_, 1) := by decide +kernel
theorem dX12_isRowWrong_0 : decode cX12_isRowWrong 0 = .ok (.aload_n 0, 1) := by decide +kernel
theorem dX12_isRowWrong_1 : decode cX12_isRowWrong 1 = .ok (.getfield 175, 3) := by decide +kernel
theorem dX12_isRowWrong_4 : decode cX12_isRowWrong 4 = .ok (.iconst 1, 1) := by decide +kernel
theorem dX12_isRowWrong_5 : decode cX12_isRowWrong 5 = .ok (.isub, 1) := by decide +kernel
theorem dX12_isRowWrong_6 : decode cX12_isRowWrong 6 = .ok (.iconst 3, 1) := by decide +kernel
theorem dX12_isRowWrong_7 : decode cX12_isRowWrong 7 = .ok (.idiv, 1) := by decide +kernel
theorem dX12_isRowWrong_8 : decode cX12_isRowWrong 8 = .ok (.istore_n 1, 1) := by decide +kernel
theorem dX12_isRowWrong_9 : decode cX12_isRowWrong 9 = .ok (.aload_n 0, 1) := by decide +kernel
theorem dX12_isRowWrong_10 : decode cX12_isRowWrong 10 = .ok (.getfield 111, 3) := by decide +kernel
theorem dX12_isRowWrong_13 : decode cX12_isRowWrong 13 = .ok (.iconst 0, 1) := by decide +kernel
theorem dX12_isRowWrong_14 : decode cX12_isRowWrong 14 = .ok (.iaload, 1) := by decide +kernel
theorem dX12_isRowWrong_15 : decode cX12_isRowWrong 15 = .ok (.aload_n 0, 1) := by decide +kernel
theorem dX12_isRowWrong_16 : decode cX12_isRowWrong 16 = .ok (.getfield 134, 3) := by decide +kernel
theorem dX12_isRowWrong_19 : decode cX12_isRowWrong 19 = .ok (.if_icmp .ge 9, 3) := by decide +kernel
theorem dX12_isRowWrong_22 : decode cX12_isRowWrong 22 = .ok (.iload_n 1, 1) := by decide +kernel
theorem dX12_isRowWrong_23 : decode cX12_isRowWrong 23 = .ok (.bipush 8, 2) := by decide +kernel
theorem dX12_isRowWrong_25 : decode cX12_isRowWrong 25 = .ok (.if_icmp .le 7, 3) := by decide +kernel
theorem dX12_isRowWrong_28 : decode cX12_isRowWrong 28 = .ok (.iconst 1, 1) := by decide +kernel
theorem dX12_isRowWrong_29 : decode cX12_isRowWrong 29 = .ok (.goto 4, 3) := by decide +kernel
theorem dX12_isRowWrong_32 : decode cX12_isRowWrong 32 = .ok (.iconst 0, 1) := by decide +kernel
theorem dX12_isRowWrong_33 : decode cX12_isRowWrong 33 = .ok (.istore_n 2, 1) := by decide +kernel
theorem dX12_isRowWrong_34 : decode cX12_isRowWrong 34 = .ok (.iconst 0, 1) := by decide +kernel
theorem dX12_isRowWrong_35 : decode cX12_isRowWrong 35 = .ok (.istore_n 3, 1) := by decide +kernel
theorem dX12_isRowWrong_36 : decode cX12_isRowWrong 36 = .ok (.iload_n 3, 1) := by decide +kernel
theorem dX12_isRowWrong_37 : decode cX12_isRowWrong 37 = .ok (.iload_n 1, 1) := by decide +kernel
theorem dX12_isRowWrong_38 : decode cX12_isRowWrong 38 = .ok (.if_icmp .ge 147, 3) := by decide +kernel
theorem dX12_isRowWrong_41 : decode cX12_isRowWrong 41 = .ok (.iload_n 3, 1) := by decide +kernel
theorem dX12_isRowWrong_42 : decode cX12_isRowWrong 42 = .ok (.bipush 8, 2) := by decide +kernel
theorem dX12_isRowWrong_44 : decode cX12_isRowWrong 44 = .ok (.if_icmp .ge 141, 3) := by decide +kernel
theorem dX12_isRowWrong_47 : decode cX12_isRowWrong 47 = .ok (.iconst 1, 1) := by decide +kernel
theorem dX12_isRowWrong_48 : decode cX12_isRowWrong 48 = .ok (.iconst 3, 1) := by decide +kernel
theorem dX12_isRowWrong_49 : decode cX12_isRowWrong 49 = .ok (.iload_n 3, 1) := by decide +kernel
theorem dX12_isRowWrong_50 : decode cX12_isRowWrong 50 = .ok (.imul, 1) := by decide +kernel
theorem dX12_isRowWrong_51 : decode cX12_isRowWrong 51 = .ok (.iadd, 1) := by decide +kernel
theorem dX12_isRowWrong_52 : decode cX12_isRowWrong 52 = .ok (.istore 4, 2) := by decide +kernel
theorem dX12_isRowWrong_54 : decode cX12_isRowWrong 54 = .ok (.iload_n 2, 1) := by decide +kernel
theorem dX12_isRowWrong_55 : decode cX12_isRowWrong 55 = .ok (.aload_n 0, 1) := by decide +kernel
theorem dX12_isRowWrong_56 : decode cX12_isRowWrong 56 = .ok (.getfield 111, 3) := by decide +kernel
theorem dX12_isRowWrong_59 : decode cX12_isRowWrong 59 = .ok (.iload 4, 2) := by decide +kernel
theorem dX12_isRowWrong_61 : decode cX12_isRowWrong 61 = .ok (.iaload, 1) := by decide +kernel
theorem dX12_isRowWrong_62 : decode cX12_isRowWrong 62 = .ok (.aload_n 0, 1) := by decide +kernel
theorem dX12_isRowWrong_63 : decode cX12_isRowWrong 63 = .ok (.getfield 123, 3) := by decide +kernel
theorem dX12_isRowWrong_66 : decode cX12_isRowWrong 66 = .ok (.if_icmp .ge 54, 3) := by decide +kernel
theorem dX12_isRowWrong_69 : decode cX12_isRowWrong 69 = .ok (.aload_n 0, 1) := by decide +kernel
theorem dX12_isRowWrong_70 : decode cX12_isRowWrong 70 = .ok (.getfield 111, 3) := by decide +kernel
theorem dX12_isRowWrong_73 : decode cX12_isRowWrong 73 = .ok (.iload 4, 2) := by decide +kernel
theorem dX12_isRowWrong_75 : decode cX12_isRowWrong 75 = .ok (.iconst 1, 1) := by decide +kernel
theorem dX12_isRowWrong_76 : decode cX12_isRowWrong 76 = .ok (.iadd, 1) := by decide +kernel
theorem dX12_isRowWrong_77 : decode cX12_isRowWrong 77 = .ok (.iaload, 1) := by decide +kernel
theorem dX12_isRowWrong_78 : decode cX12_isRowWrong 78 = .ok (.sipush 2879, 3) := by decide +kernel
theorem dX12_isRowWrong_81 : decode cX12_isRowWrong 81 = .ok (.if_icmp .gt 39, 3) := by decide +kernel
theorem dX12_isRowWrong_84 : decode cX12_isRowWrong 84 = .ok (.aload_n 0, 1) := by decide +kernel
theorem dX12_isRowWrong_85 : decode cX12_isRowWrong 85 = .ok (.getfield 111, 3) := by decide +kernel
theorem dX12_isRowWrong_88 : decode cX12_isRowWrong 88 = .ok (.iload 4, 2) := by decide +kernel
theorem dX12_isRowWrong_90 : decode cX12_isRowWrong 90 = .ok (.iconst 2, 1) := by decide +kernel
theorem dX12_isRowWrong_91 : decode cX12_isRowWrong 91 = .ok (.iadd, 1) := by decide +kernel
theorem dX12_isRowWrong_92 : decode cX12_isRowWrong 92 = .ok (.iaload, 1) := by decide +kernel
theorem dX12_isRowWrong_93 : decode cX12_isRowWrong 93 = .ok (.sipush 2879, 3) := by decide +kernel
theorem dX12_isRowWrong_96 : decode cX12_isRowWrong 96 = .ok (.if_icmp .gt 24, 3) := by decide +kernel
theorem dX12_isRowWrong_99 : decode cX12_isRowWrong 99 = .ok (.aload_n 0, 1) := by decide +kernel
theorem dX12_isRowWrong_100 : decode cX12_isRowWrong 100 = .ok (.getfield 111, 3) := by decide +kernel
theorem dX12_isRowWrong_103 : decode cX12_isRowWrong 103 = .ok (.iload 4, 2) := by decide +kernel
theorem dX12_isRowWrong_105 : decode cX12_isRowWrong 105 = .ok (.iconst 2, 1) := by decide +kernel
theorem dX12_isRowWrong_106 : decode cX12_isRowWrong 106 = .ok (.iadd, 1) := by decide +kernel
theorem dX12_isRowWrong_107 : decode cX12_isRowWrong 107 = .ok (.iaload, 1) := by decide +kernel
theorem dX12_isRowWrong_108 : decode cX12_isRowWrong 108 = .ok (.aload_n 0, 1) := by decide +kernel
theorem dX12_isRowWrong_109 : decode cX12_isRowWrong 109 = .ok (.getfield 111, 3) := by decide +kernel
theorem dX12_isRowWrong_112 : decode cX12_isRowWrong 112 = .ok (.iload 4, 2) := by decide +kernel
theorem dX12_isRowWrong_114 : decode cX12_isRowWrong 114 = .ok (.iconst 1, 1) := by decide +kernel
theorem dX12_isRowWrong_115 : decode cX12_isRowWrong 115 = .ok (.iadd, 1) := by decide +kernel
theorem dX12_isRowWrong_116 : decode cX12_isRowWrong 116 = .ok (.iaload, 1) := by decide +kernel
theorem dX12_isRowWrong_117 : decode cX12_isRowWrong 117 = .ok (.if_icmp .ge 7, 3) := by decide +kernel
theorem dX12_isRowWrong_120 : decode cX12_isRowWrong 120 = .ok (.iconst 1, 1) := by decide +kernel
theorem dX12_isRowWrong_121 : decode cX12_isRowWrong 121 = .ok (.goto 4, 3) := by decide +kernel
theorem dX12_isRowWrong_124 : decode cX12_isRowWrong 124 = .ok (.iconst 0, 1) := by decide +kernel
theorem dX12_isRowWrong_125 : decode cX12_isRowWrong 125 = .ok (.ior, 1) := by decide +kernel
theorem dX12_isRowWrong_126 : decode cX12_isRowWrong 126 = .ok (.istore_n 2, 1) := by decide +kernel
theorem dX12_isRowWrong_127 : decode cX12_isRowWrong 127 = .ok (.iload_n 2, 1) := by decide +kernel
theorem dX12_isRowWrong_128 : decode cX12_isRowWrong 128 = .ok (.iload_n 3, 1) := by decide +kernel
theorem dX12_isRowWrong_129 : decode cX12_isRowWrong 129 = .ok (.ifCond .le 47, 3) := by decide +kernel
theorem dX12_isRowWrong_132 : decode cX12_isRowWrong 132 = .ok (.aload_n 0, 1) := by decide +kernel
theorem dX12_isRowWrong_133 : decode cX12_isRowWrong 133 = .ok (.getfield 111, 3) := by decide +kernel
theorem dX12_isRowWrong_136 : decode cX12_isRowWrong 136 = .ok (.iload 4, 2) := by decide +kernel
theorem dX12_isRowWrong_138 : decode cX12_isRowWrong 138 = .ok (.iconst 1, 1) := by decide +kernel
theorem dX12_isRowWrong_139 : decode cX12_isRowWrong 139 = .ok (.iadd, 1) := by decide +kernel
theorem dX12_isRowWrong_140 : decode cX12_isRowWrong 140 = .ok (.iaload, 1) := by decide +kernel
theorem dX12_isRowWrong_141 : decode cX12_isRowWrong 141 = .ok (.aload_n 0, 1) := by decide +kernel
theorem dX12_isRowWrong_142 : decode cX12_isRowWrong 142 = .ok (.getfield 111, 3) := by decide +kernel
theorem dX12_isRowWrong_145 : decode cX12_isRowWrong 145 = .ok (.iload 4, 2) := by decide +kernel
theorem dX12_isRowWrong_147 : decode cX12_isRowWrong 147 = .ok (.iconst 1, 1) := by decide +kernel
theorem dX12_isRowWrong_148 : decode cX12_isRowWrong 148 = .ok (.isub, 1) := by decide +kernel
theorem dX12_isRowWrong_149 : decode cX12_isRowWrong 149 = .ok (.iaload, 1) := by decide +kernel
theorem dX12_isRowWrong_150 : decode cX12_isRowWrong 150 = .ok (.if_icmp .le 22, 3) := by decide +kernel
theorem dX12_isRowWrong_153 : decode cX12_isRowWrong 153 = .ok (.aload_n 0, 1) := by decide +kernel
theorem dX12_isRowWrong_154 : decode cX12_isRowWrong 154 = .ok (.getfield 111, 3) := by decide +kernel
theorem dX12_isRowWrong_157 : decode cX12_isRowWrong 157 = .ok (.iload 4, 2) := by decide +kernel
theorem dX12_isRowWrong_159 : decode cX12_isRowWrong 159 = .ok (.iaload, 1) := by decide +kernel
theorem dX12_isRowWrong_160 : decode cX12_isRowWrong 160 = .ok (.aload_n 0, 1) := by decide +kernel
theorem dX12_isRowWrong_161 : decode cX12_isRowWrong 161 = .ok (.getfield 111, 3) := by decide +kernel
theorem dX12_isRowWrong_164 : decode cX12_isRowWrong 164 = .ok (.iload 4, 2) := by decide +kernel
theorem dX12_isRowWrong_166 : decode cX12_isRowWrong 166 = .ok (.iconst 3, 1) := by decide +kernel
theorem dX12_isRowWrong_167 : decode cX12_isRowWrong 167 = .ok (.isub, 1) := by decide +kernel
theorem dX12_isRowWrong_168 : decode cX12_isRowWrong 168 = .ok (.iaload, 1) := by decide +kernel
theorem dX12_isRowWrong_169 : decode cX12_isRowWrong 169 = .ok (.if_icmp .ne 7, 3) := by decide +kernel
theorem dX12_isRowWrong_172 : decode cX12_isRowWrong 172 = .ok (.iconst 1, 1) := by decide +kernel
theorem dX12_isRowWrong_173 : decode cX12_isRowWrong 173 = .ok (.goto 4, 3) := by decide +kernel
theorem dX12_isRowWrong_176 : decode cX12_isRowWrong 176 = .ok (.iconst 0, 1) := by decide +kernel
theorem dX12_isRowWrong_177 : decode cX12_isRowWrong 177 = .ok (.ior, 1) := by decide +kernel
theorem dX12_isRowWrong_178 : decode cX12_isRowWrong 178 = .ok (.istore_n 2, 1) := by decide +kernel
theorem dX12_isRowWrong_179 : decode cX12_isRowWrong 179 = .ok (.iinc 3 1, 3) := by decide +kernel
theorem dX12_isRowWrong_182 : decode cX12_isRowWrong 182 = .ok (.goto (-146), 3) := by decide +kernel
theorem dX12_isRowWrong_185 : decode cX12_isRowWrong 185 = .ok (.iload_n 2, 1) := by decide +kernel
theorem dX12_isRowWrong_186 : decode cX12_isRowWrong 186 = .ok (.ireturn, 1) := by decide +kernel
theorem dX12_readRow_0 : decode cX12_readRow 0 = .ok (.aload_n 0, 1) := by decide +kernel
theorem dX12_readRow_1 : decode cX12_readRow 1 = .ok (.invokevirtual 180, 3) := by decide +kernel
theorem dX12_readRow_4 : decode cX12_readRow 4 = .ok (.istore_n 1, 1) := by decide +kernel
theorem dX12_readRow_5 : decode cX12_readRow 5 = .ok (.iload_n 1, 1) := by decide +kernel
theorem dX12_readRow_6 : decode cX12_readRow 6 = .ok (.iconst (-1), 1) := by decide +kernel
theorem dX12_readRow_7 : decode cX12_readRow 7 = .ok (.if_icmp .eq 8, 3) := by decide +kernel
theorem dX12_readRow_10 : decode cX12_readRow 10 = .ok (.aload_n 0, 1) := by decide +kernel
theorem dX12_readRow_11 : decode cX12_readRow 11 = .ok (.iload_n 1, 1) := by decide +kernel
theorem dX12_readRow_12 : decode cX12_readRow 12 = .ok (.putfield 57, 3) := by decide +kernel
theorem dX12_readRow_15 : decode cX12_readRow 15 = .ok (.aload_n 0, 1) := by decide +kernel
theorem dX12_readRow_16 : decode cX12_readRow 16 = .ok (.iload_n 1, 1) := by decide +kernel
theorem dX12_readRow_17 : decode cX12_readRow 17 = .ok (.iconst (-1), 1) := by decide +kernel
theorem dX12_readRow_18 : decode cX12_readRow 18 = .ok (.if_icmp .eq 7, 3) := by decide +kernel
theorem dX12_readRow_21 : decode cX12_readRow 21 = .ok (.iconst 1, 1) := by decide +kernel
theorem dX12_readRow_22 : decode cX12_readRow 22 = .ok (.goto 4, 3) := by decide +kernel
theorem dX12_readRow_25 : decode cX12_readRow 25 = .ok (.iconst 0, 1) := by decide +kernel
theorem dX12_readRow_26 : decode cX12_readRow 26 = .ok (.iconst 1, 1) := by decide +kernel
theorem dX12_readRow_27 : decode cX12_readRow 27 = .ok (.invokevirtual 130, 3) := by decide +kernel
theorem dX12_readRow_30 : decode cX12_readRow 30 = .ok (.ifCond .ne 37, 3) := by decide +kernel
theorem dX12_readRow_33 : decode cX12_readRow 33 = .ok (.aload_n 0, 1) := by decide +kernel
theorem dX12_readRow_34 : decode cX12_readRow 34 = .ok (.aload_n 0, 1) := by decide +kernel
theorem dX12_readRow_35 : decode cX12_readRow 35 = .ok (.invokevirtual 184, 3) := by decide +kernel
theorem dX12_readRow_38 : decode cX12_readRow 38 = .ok (.iconst 2, 1) := by decide +kernel
theorem dX12_readRow_39 : decode cX12_readRow 39 = .ok (.invokevirtual 130, 3) := by decide +kernel
theorem dX12_readRow_42 : decode cX12_readRow 42 = .ok (.ifCond .ne 25, 3) := by decide +kernel
theorem dX12_readRow_45 : decode cX12_readRow 45 = .ok (.aload_n 0, 1) := by decide +kernel
theorem dX12_readRow_46 : decode cX12_readRow 46 = .ok (.aload_n 0, 1) := by decide +kernel
theorem dX12_readRow_47 : decode cX12_readRow 47 = .ok (.getfield 137, 3) := by decide +kernel
theorem dX12_readRow_50 : decode cX12_readRow 50 = .ok (.bipush 24, 2) := by decide +kernel
theorem dX12_readRow_52 : decode cX12_readRow 52 = .ok (.if_icmp .ne 7, 3) := by decide +kernel
theorem dX12_readRow_55 : decode cX12_readRow 55 = .ok (.iconst 1, 1) := by decide +kernel
theorem dX12_readRow_56 : decode cX12_readRow 56 = .ok (.goto 4, 3) := by decide +kernel
theorem dX12_readRow_59 : decode cX12_readRow 59 = .ok (.iconst 0, 1) := by decide +kernel
theorem dX12_readRow_60 : decode cX12_readRow 60 = .ok (.iconst 3, 1) := by decide +kernel
theorem dX12_readRow_61 : decode cX12_readRow 61 = .ok (.invokevirtual 130, 3) := by decide +kernel
theorem dX12_readRow_64 : decode cX12_readRow 64 = .ok (.ifCond .eq 5, 3) := by decide +kernel
theorem dX12_readRow_67 : decode cX12_readRow 67 = .ok (.iconst 0, 1) := by decide +kernel
theorem dX12_readRow_68 : decode cX12_readRow 68 = .ok (.ireturn, 1) := by decide +kernel
theorem dX12_readRow_69 : decode cX12_readRow 69 = .ok (.aload_n 0, 1) := by decide +kernel
theorem dX12_readRow_70 : decode cX12_readRow 70 = .ok (.aload_n 0, 1) := by decide +kernel
theorem dX12_readRow_71 : decode cX12_readRow 71 = .ok (.getfield 111, 3) := by decide +kernel
theorem dX12_readRow_74 : decode cX12_readRow 74 = .ok (.iconst 0, 1) := by decide +kernel
theorem dX12_readRow_75 : decode cX12_readRow 75 = .ok (.iaload, 1) := by decide +kernel
theorem dX12_readRow_76 : decode cX12_readRow 76 = .ok (.aload_n 0, 1) := by decide +kernel
theorem dX12_readRow_77 : decode cX12_readRow 77 = .ok (.getfield 111, 3) := by decide +kernel
theorem dX12_readRow_80 : decode cX12_readRow 80 = .ok (.iconst 1, 1) := by decide +kernel
theorem dX12_readRow_81 : decode cX12_readRow 81 = .ok (.iaload, 1) := by decide +kernel
theorem dX12_readRow_82 : decode cX12_readRow 82 = .ok (.aload_n 0, 1) := by decide +kernel
theorem dX12_readRow_83 : decode cX12_readRow 83 = .ok (.getfield 111, 3) := by decide +kernel
theorem dX12_readRow_86 : decode cX12_readRow 86 = .ok (.iconst 2, 1) := by decide +kernel
theorem dX12_readRow_87 : decode cX12_readRow 87 = .ok (.iaload, 1) := by decide +kernel
theorem dX12_readRow_88 : decode cX12_readRow 88 = .ok (.invokevirtual 158, 3) := by decide +kernel
theorem dX12_readRow_91 : decode cX12_readRow 91 = .ok (.istore_n 2, 1) := by decide +kernel
theorem dX12_readRow_92 : decode cX12_readRow 92 = .ok (.iconst 4, 1) := by decide +kernel
theorem dX12_readRow_93 : decode cX12_readRow 93 = .ok (.istore_n 3, 1) := by decide +kernel
theorem dX12_readRow_94 : decode cX12_readRow 94 = .ok (.iload_n 3, 1) := by decide +kernel
theorem dX12_readRow_95 : decode cX12_readRow 95 = .ok (.aload_n 0, 1) := by decide +kernel
theorem dX12_readRow_96 : decode cX12_readRow 96 = .ok (.getfield 175, 3) := by decide +kernel
theorem dX12_readRow_99 : decode cX12_readRow 99 = .ok (.if_icmp .ge 75, 3) := by decide +kernel
theorem dX12_readRow_102 : decode cX12_readRow 102 = .ok (.bipush 8, 2) := by decide +kernel
theorem dX12_readRow_104 : decode cX12_readRow 104 = .ok (.iload_n 2, 1) := by decide +kernel
theorem dX12_readRow_105 : decode cX12_readRow 105 = .ok (.imul, 1) := by decide +kernel
theorem dX12_readRow_106 : decode cX12_readRow 106 = .ok (.aload_n 0, 1) := by decide +kernel
theorem dX12_readRow_107 : decode cX12_readRow 107 = .ok (.getfield 30, 3) := by decide +kernel
theorem dX12_readRow_110 : decode cX12_readRow 110 = .ok (.iload_n 2, 1) := by decide +kernel
theorem dX12_readRow_111 : decode cX12_readRow 111 = .ok (.iaload, 1) := by decide +kernel
theorem dX12_readRow_112 : decode cX12_readRow 112 = .ok (.iadd, 1) := by decide +kernel
theorem dX12_readRow_113 : decode cX12_readRow 113 = .ok (.istore 4, 2) := by decide +kernel
theorem dX12_readRow_115 : decode cX12_readRow 115 = .ok (.aload_n 0, 1) := by decide +kernel
theorem dX12_readRow_116 : decode cX12_readRow 116 = .ok (.getfield 33, 3) := by decide +kernel
theorem dX12_readRow_119 : decode cX12_readRow 119 = .ok (.iload 4, 2) := by decide +kernel
theorem dX12_readRow_121 : decode cX12_readRow 121 = .ok (.aload_n 0, 1) := by decide +kernel
theorem dX12_readRow_122 : decode cX12_readRow 122 = .ok (.getfield 111, 3) := by decide +kernel
theorem dX12_readRow_125 : decode cX12_readRow 125 = .ok (.iload_n 3, 1) := by decide +kernel
theorem dX12_readRow_126 : decode cX12_readRow 126 = .ok (.iaload, 1) := by decide +kernel
theorem dX12_readRow_127 : decode cX12_readRow 127 = .ok (.iastore, 1) := by decide +kernel
theorem dX12_readRow_128 : decode cX12_readRow 128 = .ok (.aload_n 0, 1) := by decide +kernel
theorem dX12_readRow_129 : decode cX12_readRow 129 = .ok (.getfield 36, 3) := by decide +kernel
theorem dX12_readRow_132 : decode cX12_readRow 132 = .ok (.iload 4, 2) := by decide +kernel
theorem dX12_readRow_134 : decode cX12_readRow 134 = .ok (.aload_n 0, 1) := by decide +kernel
theorem dX12_readRow_135 : decode cX12_readRow 135 = .ok (.getfield 111, 3) := by decide +kernel
theorem dX12_readRow_138 : decode cX12_readRow 138 = .ok (.iload_n 3, 1) := by decide +kernel
theorem dX12_readRow_139 : decode cX12_readRow 139 = .ok (.iconst 1, 1) := by decide +kernel
theorem dX12_readRow_140 : decode cX12_readRow 140 = .ok (.iadd, 1) := by decide +kernel
theorem dX12_readRow_141 : decode cX12_readRow 141 = .ok (.iaload, 1) := by decide +kernel
theorem dX12_readRow_142 : decode cX12_readRow 142 = .ok (.iastore, 1) := by decide +kernel
theorem dX12_readRow_143 : decode cX12_readRow 143 = .ok (.aload_n 0, 1) := by decide +kernel
theorem dX12_readRow_144 : decode cX12_readRow 144 = .ok (.getfield 39, 3) := by decide +kernel
theorem dX12_readRow_147 : decode cX12_readRow 147 = .ok (.iload 4, 2) := by decide +kernel
theorem dX12_readRow_149 : decode cX12_readRow 149 = .ok (.aload_n 0, 1) := by decide +kernel
theorem dX12_readRow_150 : decode cX12_readRow 150 = .ok (.getfield 111, 3) := by decide +kernel
theorem dX12_readRow_153 : decode cX12_readRow 153 = .ok (.iload_n 3, 1) := by decide +kernel
theorem dX12_readRow_154 : decode cX12_readRow 154 = .ok (.iconst 2, 1) := by decide +kernel
theorem dX12_readRow_155 : decode cX12_readRow 155 = .ok (.iadd, 1) := by decide +kernel
theorem dX12_readRow_156 : decode cX12_readRow 156 = .ok (.iaload, 1) := by decide +kernel
theorem dX12_readRow_157 : decode cX12_readRow 157 = .ok (.iastore, 1) := by decide +kernel
theorem dX12_readRow_158 : decode cX12_readRow 158 = .ok (.aload_n 0, 1) := by decide +kernel
theorem dX12_readRow_159 : decode cX12_readRow 159 = .ok (.getfield 30, 3) := by decide +kernel
theorem dX12_readRow_162 : decode cX12_readRow 162 = .ok (.iload_n 2, 1) := by decide +kernel
theorem dX12_readRow_163 : decode cX12_readRow 163 = .ok (.dup2, 1) := by decide +kernel
theorem dX12_readRow_164 : decode cX12_readRow 164 = .ok (.iaload, 1) := by decide +kernel
theorem dX12_readRow_165 : decode cX12_readRow 165 = .ok (.iconst 1, 1) := by decide +kernel
theorem dX12_readRow_166 : decode cX12_readRow 166 = .ok (.iadd, 1) := by decide +kernel
theorem dX12_readRow_167 : decode cX12_readRow 167 = .ok (.iastore, 1) := by decide +kernel
theorem dX12_readRow_168 : decode cX12_readRow 168 = .ok (.iinc 3 3, 3) := by decide +kernel
theorem dX12_readRow_171 : decode cX12_readRow 171 = .ok (.goto (-77), 3) := by decide +kernel
theorem dX12_readRow_174 : decode cX12_readRow 174 = .ok (.aload_n 0, 1) := by decide +kernel
theorem dX12_readRow_175 : decode cX12_readRow 175 = .ok (.iconst 0, 1) := by decide +kernel
theorem dX12_readRow_176 : decode cX12_readRow 176 = .ok (.putfield 172, 3) := by decide +kernel
theorem dX12_readRow_179 : decode cX12_readRow 179 = .ok (.iload_n 2, 1) := by decide +kernel
theorem dX12_readRow_180 : decode cX12_readRow 180 = .ok (.ireturn, 1) := by decide +kernel
theorem dX12_faultAt_0 : decode cX12_faultAt 0 = .ok (.aload_n 0, 1) := by decide +kernel
theorem dX12_faultAt_1 : decode cX12_faultAt 1 = .ok (.aload_n 0, 1) := by decide +kernel
theorem dX12_faultAt_2 : decode cX12_faultAt 2 = .ok (.getfield 57, 3) := by decide +kernel
theorem dX12_faultAt_5 : decode cX12_faultAt 5 = .ok (.iconst (-1), 1) := by decide +kernel
theorem dX12_faultAt_6 : decode cX12_faultAt 6 = .ok (.if_icmp .ne 7, 3) := by decide +kernel
theorem dX12_faultAt_9 : decode cX12_faultAt 9 = .ok (.iconst 1, 1) := by decide +kernel
theorem dX12_faultAt_10 : decode cX12_faultAt 10 = .ok (.goto 4, 3) := by decide +kernel
theorem dX12_faultAt_13 : decode cX12_faultAt 13 = .ok (.iconst 0, 1) := by decide +kernel
theorem dX12_faultAt_14 : decode cX12_faultAt 14 = .ok (.iconst 1, 1) := by decide +kernel
theorem dX12_faultAt_15 : decode cX12_faultAt 15 = .ok (.invokevirtual 130, 3) := by decide +kernel
theorem dX12_faultAt_18 : decode cX12_faultAt 18 = .ok (.ifCond .eq 7, 3) := by decide +kernel
theorem dX12_faultAt_21 : decode cX12_faultAt 21 = .ok (.iconst 0, 1) := by decide +kernel
theorem dX12_faultAt_22 : decode cX12_faultAt 22 = .ok (.goto 7, 3) := by decide +kernel
theorem dX12_faultAt_25 : decode cX12_faultAt 25 = .ok (.aload_n 0, 1) := by decide +kernel
theorem dX12_faultAt_26 : decode cX12_faultAt 26 = .ok (.getfield 57, 3) := by decide +kernel
theorem dX12_faultAt_29 : decode cX12_faultAt 29 = .ok (.ireturn, 1) := by decide +kernel
theorem dX12_lateAt_0 : decode cX12_lateAt 0 = .ok (.iconst (-1), 1) := by decide +kernel
theorem dX12_lateAt_1 : decode cX12_lateAt 1 = .ok (.istore_n 3, 1) := by decide +kernel
theorem dX12_lateAt_2 : decode cX12_lateAt 2 = .ok (.iconst 0, 1) := by decide +kernel
theorem dX12_lateAt_3 : decode cX12_lateAt 3 = .ok (.istore 4, 2) := by decide +kernel
theorem dX12_lateAt_5 : decode cX12_lateAt 5 = .ok (.iload 4, 2) := by decide +kernel
theorem dX12_lateAt_7 : decode cX12_lateAt 7 = .ok (.aload_n 0, 1) := by decide +kernel
theorem dX12_lateAt_8 : decode cX12_lateAt 8 = .ok (.getfield 188, 3) := by decide +kernel
theorem dX12_lateAt_11 : decode cX12_lateAt 11 = .ok (.if_icmp .ge 38, 3) := by decide +kernel
theorem dX12_lateAt_14 : decode cX12_lateAt 14 = .ok (.aload_n 0, 1) := by decide +kernel
theorem dX12_lateAt_15 : decode cX12_lateAt 15 = .ok (.getfield 42, 3) := by decide +kernel
theorem dX12_lateAt_18 : decode cX12_lateAt 18 = .ok (.iload 4, 2) := by decide +kernel
theorem dX12_lateAt_20 : decode cX12_lateAt 20 = .ok (.iaload, 1) := by decide +kernel
theorem dX12_lateAt_21 : decode cX12_lateAt 21 = .ok (.iload_n 1, 1) := by decide +kernel
theorem dX12_lateAt_22 : decode cX12_lateAt 22 = .ok (.if_icmp .ne 19, 3) := by decide +kernel
theorem dX12_lateAt_25 : decode cX12_lateAt 25 = .ok (.aload_n 0, 1) := by decide +kernel
theorem dX12_lateAt_26 : decode cX12_lateAt 26 = .ok (.getfield 45, 3) := by decide +kernel
theorem dX12_lateAt_29 : decode cX12_lateAt 29 = .ok (.iload 4, 2) := by decide +kernel
theorem dX12_lateAt_31 : decode cX12_lateAt 31 = .ok (.iaload, 1) := by decide +kernel
theorem dX12_lateAt_32 : decode cX12_lateAt 32 = .ok (.iload_n 2, 1) := by decide +kernel
theorem dX12_lateAt_33 : decode cX12_lateAt 33 = .ok (.if_icmp .ne 8, 3) := by decide +kernel
theorem dX12_lateAt_36 : decode cX12_lateAt 36 = .ok (.iload 4, 2) := by decide +kernel
theorem dX12_lateAt_38 : decode cX12_lateAt 38 = .ok (.goto 4, 3) := by decide +kernel
theorem dX12_lateAt_41 : decode cX12_lateAt 41 = .ok (.iload_n 3, 1) := by decide +kernel
theorem dX12_lateAt_42 : decode cX12_lateAt 42 = .ok (.istore_n 3, 1) := by decide +kernel
theorem dX12_lateAt_43 : decode cX12_lateAt 43 = .ok (.iinc 4 1, 3) := by decide +kernel
theorem dX12_lateAt_46 : decode cX12_lateAt 46 = .ok (.goto (-41), 3) := by decide +kernel
theorem dX12_lateAt_49 : decode cX12_lateAt 49 = .ok (.iload_n 3, 1) := by decide +kernel
theorem dX12_lateAt_50 : decode cX12_lateAt 50 = .ok (.ireturn, 1) := by decide +kernel
theorem dX12_late_0 : decode cX12_late 0 = .ok (.aload_n 0, 1) := by decide +kernel
theorem dX12_late_1 : decode cX12_late 1 = .ok (.iload_n 2, 1) := by decide +kernel
theorem dX12_late_2 : decode cX12_late 2 = .ok (.iload_n 3, 1) := by decide +kernel
theorem dX12_late_3 : decode cX12_late 3 = .ok (.invokevirtual 162, 3) := by decide +kernel
theorem dX12_late_6 : decode cX12_late 6 = .ok (.ifCond .ne 37, 3) := by decide +kernel
theorem dX12_late_9 : decode cX12_late 9 = .ok (.aload_n 0, 1) := by decide +kernel
theorem dX12_late_10 : decode cX12_late 10 = .ok (.iload_n 1, 1) := by decide +kernel
theorem dX12_late_11 : decode cX12_late 11 = .ok (.iconst 0, 1) := by decide +kernel
theorem dX12_late_12 : decode cX12_late 12 = .ok (.bipush 27, 2) := by decide +kernel
theorem dX12_late_14 : decode cX12_late 14 = .ok (.invokestatic 126, 3) := by decide +kernel
theorem dX12_late_17 : decode cX12_late 17 = .ok (.ifCond .eq 14, 3) := by decide +kernel
theorem dX12_late_20 : decode cX12_late 20 = .ok (.iload 4, 2) := by decide +kernel
theorem dX12_late_22 : decode cX12_late 22 = .ok (.iconst 0, 1) := by decide +kernel
theorem dX12_late_23 : decode cX12_late 23 = .ok (.bipush 120, 2) := by decide +kernel
theorem dX12_late_25 : decode cX12_late 25 = .ok (.invokestatic 126, 3) := by decide +kernel
theorem dX12_late_28 : decode cX12_late 28 = .ok (.ifCond .ne 7, 3) := by decide +kernel
theorem dX12_late_31 : decode cX12_late 31 = .ok (.iconst 1, 1) := by decide +kernel
theorem dX12_late_32 : decode cX12_late 32 = .ok (.goto 4, 3) := by decide +kernel
theorem dX12_late_35 : decode cX12_late 35 = .ok (.iconst 0, 1) := by decide +kernel
theorem dX12_late_36 : decode cX12_late 36 = .ok (.iconst 2, 1) := by decide +kernel
theorem dX12_late_37 : decode cX12_late 37 = .ok (.invokevirtual 130, 3) := by decide +kernel
theorem dX12_late_40 : decode cX12_late 40 = .ok (.ifCond .eq 5, 3) := by decide +kernel
theorem dX12_late_43 : decode cX12_late 43 = .ok (.iconst 0, 1) := by decide +kernel
theorem dX12_late_44 : decode cX12_late 44 = .ok (.ireturn, 1) := by decide +kernel
theorem dX12_late_45 : decode cX12_late 45 = .ok (.aload_n 0, 1) := by decide +kernel
theorem dX12_late_46 : decode cX12_late 46 = .ok (.iload_n 1, 1) := by decide +kernel
theorem dX12_late_47 : decode cX12_late 47 = .ok (.iload_n 2, 1) := by decide +kernel
theorem dX12_late_48 : decode cX12_late 48 = .ok (.invokevirtual 191, 3) := by decide +kernel
theorem dX12_late_51 : decode cX12_late 51 = .ok (.istore 5, 2) := by decide +kernel
theorem dX12_late_53 : decode cX12_late 53 = .ok (.aload_n 0, 1) := by decide +kernel
theorem dX12_late_54 : decode cX12_late 54 = .ok (.iload 5, 2) := by decide +kernel
theorem dX12_late_56 : decode cX12_late 56 = .ok (.iconst (-1), 1) := by decide +kernel
theorem dX12_late_57 : decode cX12_late 57 = .ok (.if_icmp .ne 21, 3) := by decide +kernel
theorem dX12_late_60 : decode cX12_late 60 = .ok (.aload_n 0, 1) := by decide +kernel
theorem dX12_late_61 : decode cX12_late 61 = .ok (.getfield 188, 3) := by decide +kernel
theorem dX12_late_64 : decode cX12_late 64 = .ok (.bipush 12, 2) := by decide +kernel
theorem dX12_late_66 : decode cX12_late 66 = .ok (.if_icmp .ne 12, 3) := by decide +kernel
theorem dX12_late_69 : decode cX12_late 69 = .ok (.iload 4, 2) := by decide +kernel
theorem dX12_late_71 : decode cX12_late 71 = .ok (.ifCond .eq 7, 3) := by decide +kernel
theorem dX12_late_74 : decode cX12_late 74 = .ok (.iconst 1, 1) := by decide +kernel
theorem dX12_late_75 : decode cX12_late 75 = .ok (.goto 4, 3) := by decide +kernel
theorem dX12_late_78 : decode cX12_late 78 = .ok (.iconst 0, 1) := by decide +kernel
theorem dX12_late_79 : decode cX12_late 79 = .ok (.iconst 3, 1) := by decide +kernel
theorem dX12_late_80 : decode cX12_late 80 = .ok (.invokevirtual 130, 3) := by decide +kernel
theorem dX12_late_83 : decode cX12_late 83 = .ok (.ifCond .eq 5, 3) := by decide +kernel
theorem dX12_late_86 : decode cX12_late 86 = .ok (.iconst 0, 1) := by decide +kernel
theorem dX12_late_87 : decode cX12_late 87 = .ok (.ireturn, 1) := by decide +kernel
theorem dX12_late_88 : decode cX12_late 88 = .ok (.iload 5, 2) := by decide +kernel
theorem dX12_late_90 : decode cX12_late 90 = .ok (.iconst (-1), 1) := by decide +kernel
theorem dX12_late_91 : decode cX12_late 91 = .ok (.if_icmp .ne 7, 3) := by decide +kernel
theorem dX12_late_94 : decode cX12_late 94 = .ok (.iconst 0, 1) := by decide +kernel
theorem dX12_late_95 : decode cX12_late 95 = .ok (.goto 10, 3) := by decide +kernel
theorem dX12_late_98 : decode cX12_late 98 = .ok (.aload_n 0, 1) := by decide +kernel
theorem dX12_late_99 : decode cX12_late 99 = .ok (.getfield 51, 3) := by decide +kernel
theorem dX12_late_102 : decode cX12_late 102 = .ok (.iload 5, 2) := by decide +kernel
theorem dX12_late_104 : decode cX12_late 104 = .ok (.iaload, 1) := by decide +kernel
theorem dX12_late_105 : decode cX12_late 105 = .ok (.istore 6, 2) := by decide +kernel
theorem dX12_late_107 : decode cX12_late 107 = .ok (.iload 4, 2) := by decide +kernel
theorem dX12_late_109 : decode cX12_late 109 = .ok (.ifCond .ne 86, 3) := by decide +kernel
theorem dX12_late_112 : decode cX12_late 112 = .ok (.iload 5, 2) := by decide +kernel
theorem dX12_late_114 : decode cX12_late 114 = .ok (.iconst (-1), 1) := by decide +kernel
theorem dX12_late_115 : decode cX12_late 115 = .ok (.if_icmp .eq 77, 3) := by decide +kernel
theorem dX12_late_118 : decode cX12_late 118 = .ok (.aload_n 0, 1) := by decide +kernel
theorem dX12_late_119 : decode cX12_late 119 = .ok (.dup, 1) := by decide +kernel
theorem dX12_late_120 : decode cX12_late 120 = .ok (.getfield 188, 3) := by decide +kernel
theorem dX12_late_123 : decode cX12_late 123 = .ok (.iconst 1, 1) := by decide +kernel
theorem dX12_late_124 : decode cX12_late 124 = .ok (.isub, 1) := by decide +kernel
theorem dX12_late_125 : decode cX12_late 125 = .ok (.putfield 188, 3) := by decide +kernel
theorem dX12_late_128 : decode cX12_late 128 = .ok (.aload_n 0, 1) := by decide +kernel
theorem dX12_late_129 : decode cX12_late 129 = .ok (.getfield 42, 3) := by decide +kernel
theorem dX12_late_132 : decode cX12_late 132 = .ok (.iload 5, 2) := by decide +kernel
theorem dX12_late_134 : decode cX12_late 134 = .ok (.aload_n 0, 1) := by decide +kernel
theorem dX12_late_135 : decode cX12_late 135 = .ok (.getfield 42, 3) := by decide +kernel
theorem dX12_late_138 : decode cX12_late 138 = .ok (.aload_n 0, 1) := by decide +kernel
theorem dX12_late_139 : decode cX12_late 139 = .ok (.getfield 188, 3) := by decide +kernel
theorem dX12_late_142 : decode cX12_late 142 = .ok (.iaload, 1) := by decide +kernel
theorem dX12_late_143 : decode cX12_late 143 = .ok (.iastore, 1) := by decide +kernel
theorem dX12_late_144 : decode cX12_late 144 = .ok (.aload_n 0, 1) := by decide +kernel
theorem dX12_late_145 : decode cX12_late 145 = .ok (.getfield 45, 3) := by decide +kernel
theorem dX12_late_148 : decode cX12_late 148 = .ok (.iload 5, 2) := by decide +kernel
theorem dX12_late_150 : decode cX12_late 150 = .ok (.aload_n 0, 1) := by decide +kernel
theorem dX12_late_151 : decode cX12_late 151 = .ok (.getfield 45, 3) := by decide +kernel
theorem dX12_late_154 : decode cX12_late 154 = .ok (.aload_n 0, 1) := by decide +kernel
theorem dX12_late_155 : decode cX12_late 155 = .ok (.getfield 188, 3) := by decide +kernel
theorem dX12_late_158 : decode cX12_late 158 = .ok (.iaload, 1) := by decide +kernel
theorem dX12_late_159 : decode cX12_late 159 = .ok (.iastore, 1) := by decide +kernel
theorem dX12_late_160 : decode cX12_late 160 = .ok (.aload_n 0, 1) := by decide +kernel
theorem dX12_late_161 : decode cX12_late 161 = .ok (.getfield 48, 3) := by decide +kernel
theorem dX12_late_164 : decode cX12_late 164 = .ok (.iload 5, 2) := by decide +kernel
theorem dX12_late_166 : decode cX12_late 166 = .ok (.aload_n 0, 1) := by decide +kernel
theorem dX12_late_167 : decode cX12_late 167 = .ok (.getfield 48, 3) := by decide +kernel
theorem dX12_late_170 : decode cX12_late 170 = .ok (.aload_n 0, 1) := by decide +kernel
theorem dX12_late_171 : decode cX12_late 171 = .ok (.getfield 188, 3) := by decide +kernel
theorem dX12_late_174 : decode cX12_late 174 = .ok (.iaload, 1) := by decide +kernel
theorem dX12_late_175 : decode cX12_late 175 = .ok (.iastore, 1) := by decide +kernel
theorem dX12_late_176 : decode cX12_late 176 = .ok (.aload_n 0, 1) := by decide +kernel
theorem dX12_late_177 : decode cX12_late 177 = .ok (.getfield 51, 3) := by decide +kernel
theorem dX12_late_180 : decode cX12_late 180 = .ok (.iload 5, 2) := by decide +kernel
theorem dX12_late_182 : decode cX12_late 182 = .ok (.aload_n 0, 1) := by decide +kernel
theorem dX12_late_183 : decode cX12_late 183 = .ok (.getfield 51, 3) := by decide +kernel
theorem dX12_late_186 : decode cX12_late 186 = .ok (.aload_n 0, 1) := by decide +kernel
theorem dX12_late_187 : decode cX12_late 187 = .ok (.getfield 188, 3) := by decide +kernel
theorem dX12_late_190 : decode cX12_late 190 = .ok (.iaload, 1) := by decide +kernel
theorem dX12_late_191 : decode cX12_late 191 = .ok (.iastore, 1) := by decide +kernel
theorem dX12_late_192 : decode cX12_late 192 = .ok (.iload 6, 2) := by decide +kernel
theorem dX12_late_194 : decode cX12_late 194 = .ok (.ireturn, 1) := by decide +kernel
theorem dX12_late_195 : decode cX12_late 195 = .ok (.iload 5, 2) := by decide +kernel
theorem dX12_late_197 : decode cX12_late 197 = .ok (.iconst (-1), 1) := by decide +kernel
theorem dX12_late_198 : decode cX12_late 198 = .ok (.if_icmp .ne 19, 3) := by decide +kernel
theorem dX12_late_201 : decode cX12_late 201 = .ok (.aload_n 0, 1) := by decide +kernel
theorem dX12_late_202 : decode cX12_late 202 = .ok (.getfield 188, 3) := by decide +kernel
theorem dX12_late_205 : decode cX12_late 205 = .ok (.istore 5, 2) := by decide +kernel
theorem dX12_late_207 : decode cX12_late 207 = .ok (.aload_n 0, 1) := by decide +kernel
theorem dX12_late_208 : decode cX12_late 208 = .ok (.dup, 1) := by decide +kernel
theorem dX12_late_209 : decode cX12_late 209 = .ok (.getfield 188, 3) := by decide +kernel
theorem dX12_late_212 : decode cX12_late 212 = .ok (.iconst 1, 1) := by decide +kernel
theorem dX12_late_213 : decode cX12_late 213 = .ok (.iadd, 1) := by decide +kernel
theorem dX12_late_214 : decode cX12_late 214 = .ok (.putfield 188, 3) := by decide +kernel
theorem dX12_late_217 : decode cX12_late 217 = .ok (.aload_n 0, 1) := by decide +kernel
theorem dX12_late_218 : decode cX12_late 218 = .ok (.getfield 42, 3) := by decide +kernel
theorem dX12_late_221 : decode cX12_late 221 = .ok (.iload 5, 2) := by decide +kernel
theorem dX12_late_223 : decode cX12_late 223 = .ok (.iload_n 1, 1) := by decide +kernel
theorem dX12_late_224 : decode cX12_late 224 = .ok (.iastore, 1) := by decide +kernel
theorem dX12_late_225 : decode cX12_late 225 = .ok (.aload_n 0, 1) := by decide +kernel
theorem dX12_late_226 : decode cX12_late 226 = .ok (.getfield 45, 3) := by decide +kernel
theorem dX12_late_229 : decode cX12_late 229 = .ok (.iload 5, 2) := by decide +kernel
theorem dX12_late_231 : decode cX12_late 231 = .ok (.iload_n 2, 1) := by decide +kernel
theorem dX12_late_232 : decode cX12_late 232 = .ok (.iastore, 1) := by decide +kernel
theorem dX12_late_233 : decode cX12_late 233 = .ok (.aload_n 0, 1) := by decide +kernel
theorem dX12_late_234 : decode cX12_late 234 = .ok (.getfield 48, 3) := by decide +kernel
theorem dX12_late_237 : decode cX12_late 237 = .ok (.iload 5, 2) := by decide +kernel
theorem dX12_late_239 : decode cX12_late 239 = .ok (.iload_n 3, 1) := by decide +kernel
theorem dX12_late_240 : decode cX12_late 240 = .ok (.iastore, 1) := by decide +kernel
theorem dX12_late_241 : decode cX12_late 241 = .ok (.aload_n 0, 1) := by decide +kernel
theorem dX12_late_242 : decode cX12_late 242 = .ok (.getfield 51, 3) := by decide +kernel
theorem dX12_late_245 : decode cX12_late 245 = .ok (.iload 5, 2) := by decide +kernel
theorem dX12_late_247 : decode cX12_late 247 = .ok (.iload 4, 2) := by decide +kernel
theorem dX12_late_249 : decode cX12_late 249 = .ok (.iastore, 1) := by decide +kernel
theorem dX12_late_250 : decode cX12_late 250 = .ok (.iload 6, 2) := by decide +kernel
theorem dX12_late_252 : decode cX12_late 252 = .ok (.ireturn, 1) := by decide +kernel
theorem dX12_lateOf_0 : decode cX12_lateOf 0 = .ok (.aload_n 0, 1) := by decide +kernel
theorem dX12_lateOf_1 : decode cX12_lateOf 1 = .ok (.iload_n 1, 1) := by decide +kernel
theorem dX12_lateOf_2 : decode cX12_lateOf 2 = .ok (.iload_n 2, 1) := by decide +kernel
theorem dX12_lateOf_3 : decode cX12_lateOf 3 = .ok (.invokevirtual 191, 3) := by decide +kernel
theorem dX12_lateOf_6 : decode cX12_lateOf 6 = .ok (.istore 4, 2) := by decide +kernel
theorem dX12_lateOf_8 : decode cX12_lateOf 8 = .ok (.iload 4, 2) := by decide +kernel
theorem dX12_lateOf_10 : decode cX12_lateOf 10 = .ok (.iconst (-1), 1) := by decide +kernel
theorem dX12_lateOf_11 : decode cX12_lateOf 11 = .ok (.if_icmp .eq 14, 3) := by decide +kernel
theorem dX12_lateOf_14 : decode cX12_lateOf 14 = .ok (.iload_n 3, 1) := by decide +kernel
theorem dX12_lateOf_15 : decode cX12_lateOf 15 = .ok (.aload_n 0, 1) := by decide +kernel
theorem dX12_lateOf_16 : decode cX12_lateOf 16 = .ok (.getfield 48, 3) := by decide +kernel
theorem dX12_lateOf_19 : decode cX12_lateOf 19 = .ok (.iload 4, 2) := by decide +kernel
theorem dX12_lateOf_21 : decode cX12_lateOf 21 = .ok (.iaload, 1) := by decide +kernel
theorem dX12_lateOf_22 : decode cX12_lateOf 22 = .ok (.if_icmp .ge 7, 3) := by decide +kernel
theorem dX12_lateOf_25 : decode cX12_lateOf 25 = .ok (.iconst 0, 1) := by decide +kernel
theorem dX12_lateOf_26 : decode cX12_lateOf 26 = .ok (.goto 10, 3) := by decide +kernel
theorem dX12_lateOf_29 : decode cX12_lateOf 29 = .ok (.aload_n 0, 1) := by decide +kernel
theorem dX12_lateOf_30 : decode cX12_lateOf 30 = .ok (.getfield 51, 3) := by decide +kernel
theorem dX12_lateOf_33 : decode cX12_lateOf 33 = .ok (.iload 4, 2) := by decide +kernel
theorem dX12_lateOf_35 : decode cX12_lateOf 35 = .ok (.iaload, 1) := by decide +kernel
theorem dX12_lateOf_36 : decode cX12_lateOf 36 = .ok (.ireturn, 1) := by decide +kernel
theorem dX12_lateness_0 : decode cX12_lateness 0 = .ok (.aload_n 0, 1) := by decide +kernel
theorem dX12_lateness_1 : decode cX12_lateness 1 = .ok (.iload_n 2, 1) := by decide +kernel
theorem dX12_lateness_2 : decode cX12_lateness 2 = .ok (.iload_n 3, 1) := by decide +kernel
theorem dX12_lateness_3 : decode cX12_lateness 3 = .ok (.invokevirtual 162, 3) := by decide +kernel
theorem dX12_lateness_6 : decode cX12_lateness 6 = .ok (.ifCond .ne 12, 3) := by decide +kernel
theorem dX12_lateness_9 : decode cX12_lateness 9 = .ok (.aload_n 0, 1) := by decide +kernel
theorem dX12_lateness_10 : decode cX12_lateness 10 = .ok (.iload_n 1, 1) := by decide +kernel
theorem dX12_lateness_11 : decode cX12_lateness 11 = .ok (.iconst 2, 1) := by decide +kernel
theorem dX12_lateness_12 : decode cX12_lateness 12 = .ok (.invokevirtual 154, 3) := by decide +kernel
theorem dX12_lateness_15 : decode cX12_lateness 15 = .ok (.ifCond .eq 7, 3) := by decide +kernel
theorem dX12_lateness_18 : decode cX12_lateness 18 = .ok (.iconst 0, 1) := by decide +kernel
theorem dX12_lateness_19 : decode cX12_lateness 19 = .ok (.goto 10, 3) := by decide +kernel
theorem dX12_lateness_22 : decode cX12_lateness 22 = .ok (.aload_n 0, 1) := by decide +kernel
theorem dX12_lateness_23 : decode cX12_lateness 23 = .ok (.iload_n 1, 1) := by decide +kernel
theorem dX12_lateness_24 : decode cX12_lateness 24 = .ok (.iload_n 2, 1) := by decide +kernel
theorem dX12_lateness_25 : decode cX12_lateness 25 = .ok (.iload_n 3, 1) := by decide +kernel
theorem dX12_lateness_26 : decode cX12_lateness 26 = .ok (.invokevirtual 195, 3) := by decide +kernel
theorem dX12_lateness_29 : decode cX12_lateness 29 = .ok (.ireturn, 1) := by decide +kernel
theorem dX12_onTime_0 : decode cX12_onTime 0 = .ok (.aload_n 0, 1) := by decide +kernel
theorem dX12_onTime_1 : decode cX12_onTime 1 = .ok (.iconst 0, 1) := by decide +kernel
theorem dX12_onTime_2 : decode cX12_onTime 2 = .ok (.putfield 120, 3) := by decide +kernel
theorem dX12_onTime_5 : decode cX12_onTime 5 = .ok (.aload_n 0, 1) := by decide +kernel
theorem dX12_onTime_6 : decode cX12_onTime 6 = .ok (.getfield 188, 3) := by decide +kernel
theorem dX12_onTime_9 : decode cX12_onTime 9 = .ok (.istore_n 1, 1) := by decide +kernel
theorem dX12_onTime_10 : decode cX12_onTime 10 = .ok (.aload_n 0, 1) := by decide +kernel
theorem dX12_onTime_11 : decode cX12_onTime 11 = .ok (.iconst 0, 1) := by decide +kernel
theorem dX12_onTime_12 : decode cX12_onTime 12 = .ok (.putfield 188, 3) := by decide +kernel
theorem dX12_onTime_15 : decode cX12_onTime 15 = .ok (.iload_n 1, 1) := by decide +kernel
theorem dX12_onTime_16 : decode cX12_onTime 16 = .ok (.ireturn, 1) := by decide +kernel
theorem dX12_isRun_0 : decode cX12_isRun 0 = .ok (.aload_n 0, 1) := by decide +kernel
theorem dX12_isRun_1 : decode cX12_isRun 1 = .ok (.getfield 198, 3) := by decide +kernel
theorem dX12_isRun_4 : decode cX12_isRun 4 = .ok (.iload_n 1, 1) := by decide +kernel
theorem dX12_isRun_5 : decode cX12_isRun 5 = .ok (.bipush 24, 2) := by decide +kernel
theorem dX12_isRun_7 : decode cX12_isRun 7 = .ok (.idiv, 1) := by decide +kernel
theorem dX12_isRun_8 : decode cX12_isRun 8 = .ok (.iadd, 1) := by decide +kernel
theorem dX12_isRun_9 : decode cX12_isRun 9 = .ok (.iconst 1, 1) := by decide +kernel
theorem dX12_isRun_10 : decode cX12_isRun 10 = .ok (.isub, 1) := by decide +kernel
theorem dX12_isRun_11 : decode cX12_isRun 11 = .ok (.istore_n 2, 1) := by decide +kernel
theorem dX12_isRun_12 : decode cX12_isRun 12 = .ok (.iload_n 1, 1) := by decide +kernel
theorem dX12_isRun_13 : decode cX12_isRun 13 = .ok (.bipush 24, 2) := by decide +kernel
theorem dX12_isRun_15 : decode cX12_isRun 15 = .ok (.irem, 1) := by decide +kernel
theorem dX12_isRun_16 : decode cX12_isRun 16 = .ok (.istore_n 3, 1) := by decide +kernel
theorem dX12_isRun_17 : decode cX12_isRun 17 = .ok (.iload_n 3, 1) := by decide +kernel
theorem dX12_isRun_18 : decode cX12_isRun 18 = .ok (.aload_n 0, 1) := by decide +kernel
theorem dX12_isRun_19 : decode cX12_isRun 19 = .ok (.getfield 137, 3) := by decide +kernel
theorem dX12_isRun_22 : decode cX12_isRun 22 = .ok (.if_icmp .ge 36, 3) := by decide +kernel
theorem dX12_isRun_25 : decode cX12_isRun 25 = .ok (.iload_n 2, 1) := by decide +kernel
theorem dX12_isRun_26 : decode cX12_isRun 26 = .ok (.iconst 0, 1) := by decide +kernel
theorem dX12_isRun_27 : decode cX12_isRun 27 = .ok (.bipush 27, 2) := by decide +kernel
theorem dX12_isRun_29 : decode cX12_isRun 29 = .ok (.invokestatic 126, 3) := by decide +kernel
theorem dX12_isRun_32 : decode cX12_isRun 32 = .ok (.ifCond .eq 26, 3) := by decide +kernel
theorem dX12_isRun_35 : decode cX12_isRun 35 = .ok (.aload_n 0, 1) := by decide +kernel
theorem dX12_isRun_36 : decode cX12_isRun 36 = .ok (.getfield 23, 3) := by decide +kernel
theorem dX12_isRun_39 : decode cX12_isRun 39 = .ok (.bipush 28, 2) := by decide +kernel
theorem dX12_isRun_41 : decode cX12_isRun 41 = .ok (.aload_n 0, 1) := by decide +kernel
theorem dX12_isRun_42 : decode cX12_isRun 42 = .ok (.getfield 27, 3) := by decide +kernel
theorem dX12_isRun_45 : decode cX12_isRun 45 = .ok (.iload_n 3, 1) := by decide +kernel
theorem dX12_isRun_46 : decode cX12_isRun 46 = .ok (.iaload, 1) := by decide +kernel
theorem dX12_isRun_47 : decode cX12_isRun 47 = .ok (.imul, 1) := by decide +kernel
theorem dX12_isRun_48 : decode cX12_isRun 48 = .ok (.iload_n 2, 1) := by decide +kernel
theorem dX12_isRun_49 : decode cX12_isRun 49 = .ok (.iadd, 1) := by decide +kernel
theorem dX12_isRun_50 : decode cX12_isRun 50 = .ok (.baload, 1) := by decide +kernel
theorem dX12_isRun_51 : decode cX12_isRun 51 = .ok (.ifCond .eq 7, 3) := by decide +kernel
theorem dX12_isRun_54 : decode cX12_isRun 54 = .ok (.iconst 1, 1) := by decide +kernel
theorem dX12_isRun_55 : decode cX12_isRun 55 = .ok (.goto 4, 3) := by decide +kernel
theorem dX12_isRun_58 : decode cX12_isRun 58 = .ok (.iconst 0, 1) := by decide +kernel
theorem dX12_isRun_59 : decode cX12_isRun 59 = .ok (.ireturn, 1) := by decide +kernel
theorem dX12_leavesAt_0 : decode cX12_leavesAt 0 = .ok (.iload_n 1, 1) := by decide +kernel
theorem dX12_leavesAt_1 : decode cX12_leavesAt 1 = .ok (.bipush 24, 2) := by decide +kernel
theorem dX12_leavesAt_3 : decode cX12_leavesAt 3 = .ok (.irem, 1) := by decide +kernel
theorem dX12_leavesAt_4 : decode cX12_leavesAt 4 = .ok (.istore_n 3, 1) := by decide +kernel
theorem dX12_leavesAt_5 : decode cX12_leavesAt 5 = .ok (.iload_n 1, 1) := by decide +kernel
theorem dX12_leavesAt_6 : decode cX12_leavesAt 6 = .ok (.bipush 24, 2) := by decide +kernel
theorem dX12_leavesAt_8 : decode cX12_leavesAt 8 = .ok (.idiv, 1) := by decide +kernel
theorem dX12_leavesAt_9 : decode cX12_leavesAt 9 = .ok (.iconst 1, 1) := by decide +kernel
theorem dX12_leavesAt_10 : decode cX12_leavesAt 10 = .ok (.isub, 1) := by decide +kernel
theorem dX12_leavesAt_11 : decode cX12_leavesAt 11 = .ok (.istore 4, 2) := by decide +kernel
theorem dX12_leavesAt_13 : decode cX12_leavesAt 13 = .ok (.aload_n 0, 1) := by decide +kernel
theorem dX12_leavesAt_14 : decode cX12_leavesAt 14 = .ok (.getfield 39, 3) := by decide +kernel
theorem dX12_leavesAt_17 : decode cX12_leavesAt 17 = .ok (.bipush 8, 2) := by decide +kernel
theorem dX12_leavesAt_19 : decode cX12_leavesAt 19 = .ok (.iload_n 3, 1) := by decide +kernel
theorem dX12_leavesAt_20 : decode cX12_leavesAt 20 = .ok (.imul, 1) := by decide +kernel
theorem dX12_leavesAt_21 : decode cX12_leavesAt 21 = .ok (.iload_n 2, 1) := by decide +kernel
theorem dX12_leavesAt_22 : decode cX12_leavesAt 22 = .ok (.iadd, 1) := by decide +kernel
theorem dX12_leavesAt_23 : decode cX12_leavesAt 23 = .ok (.iaload, 1) := by decide +kernel
theorem dX12_leavesAt_24 : decode cX12_leavesAt 24 = .ok (.sipush 1440, 3) := by decide +kernel
theorem dX12_leavesAt_27 : decode cX12_leavesAt 27 = .ok (.iload 4, 2) := by decide +kernel
theorem dX12_leavesAt_29 : decode cX12_leavesAt 29 = .ok (.imul, 1) := by decide +kernel
theorem dX12_leavesAt_30 : decode cX12_leavesAt 30 = .ok (.iadd, 1) := by decide +kernel
theorem dX12_leavesAt_31 : decode cX12_leavesAt 31 = .ok (.aload_n 0, 1) := by decide +kernel
theorem dX12_leavesAt_32 : decode cX12_leavesAt 32 = .ok (.aload_n 0, 1) := by decide +kernel
theorem dX12_leavesAt_33 : decode cX12_leavesAt 33 = .ok (.getfield 198, 3) := by decide +kernel
theorem dX12_leavesAt_36 : decode cX12_leavesAt 36 = .ok (.iload 4, 2) := by decide +kernel
theorem dX12_leavesAt_38 : decode cX12_leavesAt 38 = .ok (.iadd, 1) := by decide +kernel
theorem dX12_leavesAt_39 : decode cX12_leavesAt 39 = .ok (.iload_n 3, 1) := by decide +kernel
theorem dX12_leavesAt_40 : decode cX12_leavesAt 40 = .ok (.iload_n 2, 1) := by decide +kernel
theorem dX12_leavesAt_41 : decode cX12_leavesAt 41 = .ok (.invokevirtual 195, 3) := by decide +kernel
theorem dX12_leavesAt_44 : decode cX12_leavesAt 44 = .ok (.iadd, 1) := by decide +kernel
theorem dX12_leavesAt_45 : decode cX12_leavesAt 45 = .ok (.ireturn, 1) := by decide +kernel
theorem dX12_comesAt_0 : decode cX12_comesAt 0 = .ok (.iload_n 1, 1) := by decide +kernel
theorem dX12_comesAt_1 : decode cX12_comesAt 1 = .ok (.bipush 24, 2) := by decide +kernel
theorem dX12_comesAt_3 : decode cX12_comesAt 3 = .ok (.irem, 1) := by decide +kernel
theorem dX12_comesAt_4 : decode cX12_comesAt 4 = .ok (.istore_n 3, 1) := by decide +kernel
theorem dX12_comesAt_5 : decode cX12_comesAt 5 = .ok (.iload_n 1, 1) := by decide +kernel
theorem dX12_comesAt_6 : decode cX12_comesAt 6 = .ok (.bipush 24, 2) := by decide +kernel
theorem dX12_comesAt_8 : decode cX12_comesAt 8 = .ok (.idiv, 1) := by decide +kernel
theorem dX12_comesAt_9 : decode cX12_comesAt 9 = .ok (.iconst 1, 1) := by decide +kernel
theorem dX12_comesAt_10 : decode cX12_comesAt 10 = .ok (.isub, 1) := by decide +kernel
theorem dX12_comesAt_11 : decode cX12_comesAt 11 = .ok (.istore 4, 2) := by decide +kernel
theorem dX12_comesAt_13 : decode cX12_comesAt 13 = .ok (.aload_n 0, 1) := by decide +kernel
theorem dX12_comesAt_14 : decode cX12_comesAt 14 = .ok (.getfield 36, 3) := by decide +kernel
theorem dX12_comesAt_17 : decode cX12_comesAt 17 = .ok (.bipush 8, 2) := by decide +kernel
theorem dX12_comesAt_19 : decode cX12_comesAt 19 = .ok (.iload_n 3, 1) := by decide +kernel
theorem dX12_comesAt_20 : decode cX12_comesAt 20 = .ok (.imul, 1) := by decide +kernel
theorem dX12_comesAt_21 : decode cX12_comesAt 21 = .ok (.iload_n 2, 1) := by decide +kernel
theorem dX12_comesAt_22 : decode cX12_comesAt 22 = .ok (.iadd, 1) := by decide +kernel
theorem dX12_comesAt_23 : decode cX12_comesAt 23 = .ok (.iaload, 1) := by decide +kernel
theorem dX12_comesAt_24 : decode cX12_comesAt 24 = .ok (.sipush 1440, 3) := by decide +kernel
theorem dX12_comesAt_27 : decode cX12_comesAt 27 = .ok (.iload 4, 2) := by decide +kernel
theorem dX12_comesAt_29 : decode cX12_comesAt 29 = .ok (.imul, 1) := by decide +kernel
theorem dX12_comesAt_30 : decode cX12_comesAt 30 = .ok (.iadd, 1) := by decide +kernel
theorem dX12_comesAt_31 : decode cX12_comesAt 31 = .ok (.iload_n 2, 1) := by decide +kernel
theorem dX12_comesAt_32 : decode cX12_comesAt 32 = .ok (.ifCond .ne 7, 3) := by decide +kernel
theorem dX12_comesAt_35 : decode cX12_comesAt 35 = .ok (.iconst 0, 1) := by decide +kernel
theorem dX12_comesAt_36 : decode cX12_comesAt 36 = .ok (.goto 18, 3) := by decide +kernel
theorem dX12_comesAt_39 : decode cX12_comesAt 39 = .ok (.aload_n 0, 1) := by decide +kernel
theorem dX12_comesAt_40 : decode cX12_comesAt 40 = .ok (.aload_n 0, 1) := by decide +kernel
theorem dX12_comesAt_41 : decode cX12_comesAt 41 = .ok (.getfield 198, 3) := by decide +kernel
theorem dX12_comesAt_44 : decode cX12_comesAt 44 = .ok (.iload 4, 2) := by decide +kernel
theorem dX12_comesAt_46 : decode cX12_comesAt 46 = .ok (.iadd, 1) := by decide +kernel
theorem dX12_comesAt_47 : decode cX12_comesAt 47 = .ok (.iload_n 3, 1) := by decide +kernel
theorem dX12_comesAt_48 : decode cX12_comesAt 48 = .ok (.iload_n 2, 1) := by decide +kernel
theorem dX12_comesAt_49 : decode cX12_comesAt 49 = .ok (.iconst 1, 1) := by decide +kernel
theorem dX12_comesAt_50 : decode cX12_comesAt 50 = .ok (.isub, 1) := by decide +kernel
theorem dX12_comesAt_51 : decode cX12_comesAt 51 = .ok (.invokevirtual 195, 3) := by decide +kernel
theorem dX12_comesAt_54 : decode cX12_comesAt 54 = .ok (.iadd, 1) := by decide +kernel
theorem dX12_comesAt_55 : decode cX12_comesAt 55 = .ok (.ireturn, 1) := by decide +kernel
theorem dX12_stopIn_0 : decode cX12_stopIn 0 = .ok (.aload_n 0, 1) := by decide +kernel
theorem dX12_stopIn_1 : decode cX12_stopIn 1 = .ok (.getfield 33, 3) := by decide +kernel
theorem dX12_stopIn_4 : decode cX12_stopIn 4 = .ok (.bipush 8, 2) := by decide +kernel
theorem dX12_stopIn_6 : decode cX12_stopIn 6 = .ok (.iload_n 1, 1) := by decide +kernel
theorem dX12_stopIn_7 : decode cX12_stopIn 7 = .ok (.bipush 24, 2) := by decide +kernel
theorem dX12_stopIn_9 : decode cX12_stopIn 9 = .ok (.irem, 1) := by decide +kernel
theorem dX12_stopIn_10 : decode cX12_stopIn 10 = .ok (.imul, 1) := by decide +kernel
theorem dX12_stopIn_11 : decode cX12_stopIn 11 = .ok (.iload_n 2, 1) := by decide +kernel
theorem dX12_stopIn_12 : decode cX12_stopIn 12 = .ok (.iadd, 1) := by decide +kernel
theorem dX12_stopIn_13 : decode cX12_stopIn 13 = .ok (.iaload, 1) := by decide +kernel
theorem dX12_stopIn_14 : decode cX12_stopIn 14 = .ok (.ireturn, 1) := by decide +kernel
theorem dX12_nowhere_0 : decode cX12_nowhere 0 = .ok (.iconst 0, 1) := by decide +kernel
theorem dX12_nowhere_1 : decode cX12_nowhere 1 = .ok (.istore_n 1, 1) := by decide +kernel
theorem dX12_nowhere_2 : decode cX12_nowhere 2 = .ok (.iload_n 1, 1) := by decide +kernel
theorem dX12_nowhere_3 : decode cX12_nowhere 3 = .ok (.bipush 12, 2) := by decide +kernel
theorem dX12_nowhere_5 : decode cX12_nowhere 5 = .ok (.if_icmp .ge 25, 3) := by decide +kernel
theorem dX12_nowhere_8 : decode cX12_nowhere 8 = .ok (.aload_n 0, 1) := by decide +kernel
theorem dX12_nowhere_9 : decode cX12_nowhere 9 = .ok (.getfield 60, 3) := by decide +kernel
theorem dX12_nowhere_12 : decode cX12_nowhere 12 = .ok (.iload_n 1, 1) := by decide +kernel
theorem dX12_nowhere_13 : decode cX12_nowhere 13 = .ok (.ldc 150, 2) := by decide +kernel
theorem dX12_nowhere_15 : decode cX12_nowhere 15 = .ok (.iastore, 1) := by decide +kernel
theorem dX12_nowhere_16 : decode cX12_nowhere 16 = .ok (.aload_n 0, 1) := by decide +kernel
theorem dX12_nowhere_17 : decode cX12_nowhere 17 = .ok (.getfield 63, 3) := by decide +kernel
theorem dX12_nowhere_20 : decode cX12_nowhere 20 = .ok (.iload_n 1, 1) := by decide +kernel
theorem dX12_nowhere_21 : decode cX12_nowhere 21 = .ok (.ldc 150, 2) := by decide +kernel
theorem dX12_nowhere_23 : decode cX12_nowhere 23 = .ok (.iastore, 1) := by decide +kernel
theorem dX12_nowhere_24 : decode cX12_nowhere 24 = .ok (.iinc 1 1, 3) := by decide +kernel
theorem dX12_nowhere_27 : decode cX12_nowhere 27 = .ok (.goto (-25), 3) := by decide +kernel
theorem dX12_nowhere_30 : decode cX12_nowhere 30 = .ok (.return_, 1) := by decide +kernel
theorem dX12_begin_0 : decode cX12_begin 0 = .ok (.aload_n 0, 1) := by decide +kernel
theorem dX12_begin_1 : decode cX12_begin 1 = .ok (.invokevirtual 201, 3) := by decide +kernel
theorem dX12_begin_4 : decode cX12_begin 4 = .ok (.iconst 0, 1) := by decide +kernel
theorem dX12_begin_5 : decode cX12_begin 5 = .ok (.istore_n 3, 1) := by decide +kernel
theorem dX12_begin_6 : decode cX12_begin 6 = .ok (.iload_n 3, 1) := by decide +kernel
theorem dX12_begin_7 : decode cX12_begin 7 = .ok (.aload_n 0, 1) := by decide +kernel
theorem dX12_begin_8 : decode cX12_begin 8 = .ok (.getfield 123, 3) := by decide +kernel
theorem dX12_begin_11 : decode cX12_begin 11 = .ok (.if_icmp .ge 44, 3) := by decide +kernel
theorem dX12_begin_14 : decode cX12_begin 14 = .ok (.iload_n 2, 1) := by decide +kernel
theorem dX12_begin_15 : decode cX12_begin 15 = .ok (.aload_n 0, 1) := by decide +kernel
theorem dX12_begin_16 : decode cX12_begin 16 = .ok (.getfield 16, 3) := by decide +kernel
theorem dX12_begin_19 : decode cX12_begin 19 = .ok (.bipush 12, 2) := by decide +kernel
theorem dX12_begin_21 : decode cX12_begin 21 = .ok (.iload_n 1, 1) := by decide +kernel
theorem dX12_begin_22 : decode cX12_begin 22 = .ok (.imul, 1) := by decide +kernel
theorem dX12_begin_23 : decode cX12_begin 23 = .ok (.iload_n 3, 1) := by decide +kernel
theorem dX12_begin_24 : decode cX12_begin 24 = .ok (.iadd, 1) := by decide +kernel
theorem dX12_begin_25 : decode cX12_begin 25 = .ok (.iaload, 1) := by decide +kernel
theorem dX12_begin_26 : decode cX12_begin 26 = .ok (.iadd, 1) := by decide +kernel
theorem dX12_begin_27 : decode cX12_begin 27 = .ok (.istore 4, 2) := by decide +kernel
theorem dX12_begin_29 : decode cX12_begin 29 = .ok (.aload_n 0, 1) := by decide +kernel
theorem dX12_begin_30 : decode cX12_begin 30 = .ok (.getfield 60, 3) := by decide +kernel
theorem dX12_begin_33 : decode cX12_begin 33 = .ok (.iload_n 3, 1) := by decide +kernel
theorem dX12_begin_34 : decode cX12_begin 34 = .ok (.iload 4, 2) := by decide +kernel
theorem dX12_begin_36 : decode cX12_begin 36 = .ok (.ldc 150, 2) := by decide +kernel
theorem dX12_begin_38 : decode cX12_begin 38 = .ok (.if_icmp .ge 8, 3) := by decide +kernel
theorem dX12_begin_41 : decode cX12_begin 41 = .ok (.iload 4, 2) := by decide +kernel
theorem dX12_begin_43 : decode cX12_begin 43 = .ok (.goto 5, 3) := by decide +kernel
theorem dX12_begin_46 : decode cX12_begin 46 = .ok (.ldc 150, 2) := by decide +kernel
theorem dX12_begin_48 : decode cX12_begin 48 = .ok (.iastore, 1) := by decide +kernel
theorem dX12_begin_49 : decode cX12_begin 49 = .ok (.iinc 3 1, 3) := by decide +kernel
theorem dX12_begin_52 : decode cX12_begin 52 = .ok (.goto (-46), 3) := by decide +kernel
theorem dX12_begin_55 : decode cX12_begin 55 = .ok (.return_, 1) := by decide +kernel
theorem dX12_getsOn_0 : decode cX12_getsOn 0 = .ok (.iload_n 2, 1) := by decide +kernel
theorem dX12_getsOn_1 : decode cX12_getsOn 1 = .ok (.ifCond .lt 42, 3) := by decide +kernel
theorem dX12_getsOn_4 : decode cX12_getsOn 4 = .ok (.iload_n 1, 1) := by decide +kernel
theorem dX12_getsOn_5 : decode cX12_getsOn 5 = .ok (.aload_n 0, 1) := by decide +kernel
theorem dX12_getsOn_6 : decode cX12_getsOn 6 = .ok (.getfield 19, 3) := by decide +kernel
theorem dX12_getsOn_9 : decode cX12_getsOn 9 = .ok (.if_icmp .eq 34, 3) := by decide +kernel
theorem dX12_getsOn_12 : decode cX12_getsOn 12 = .ok (.aload_n 0, 1) := by decide +kernel
theorem dX12_getsOn_13 : decode cX12_getsOn 13 = .ok (.getfield 60, 3) := by decide +kernel
theorem dX12_getsOn_16 : decode cX12_getsOn 16 = .ok (.iload_n 1, 1) := by decide +kernel
theorem dX12_getsOn_17 : decode cX12_getsOn 17 = .ok (.iaload, 1) := by decide +kernel
theorem dX12_getsOn_18 : decode cX12_getsOn 18 = .ok (.iload_n 2, 1) := by decide +kernel
theorem dX12_getsOn_19 : decode cX12_getsOn 19 = .ok (.if_icmp .le 20, 3) := by decide +kernel
theorem dX12_getsOn_22 : decode cX12_getsOn 22 = .ok (.aload_n 0, 1) := by decide +kernel
theorem dX12_getsOn_23 : decode cX12_getsOn 23 = .ok (.getfield 63, 3) := by decide +kernel
theorem dX12_getsOn_26 : decode cX12_getsOn 26 = .ok (.iload_n 1, 1) := by decide +kernel
theorem dX12_getsOn_27 : decode cX12_getsOn 27 = .ok (.iaload, 1) := by decide +kernel
theorem dX12_getsOn_28 : decode cX12_getsOn 28 = .ok (.aload_n 0, 1) := by decide +kernel
theorem dX12_getsOn_29 : decode cX12_getsOn 29 = .ok (.getfield 9, 3) := by decide +kernel
theorem dX12_getsOn_32 : decode cX12_getsOn 32 = .ok (.iload_n 1, 1) := by decide +kernel
theorem dX12_getsOn_33 : decode cX12_getsOn 33 = .ok (.iaload, 1) := by decide +kernel
theorem dX12_getsOn_34 : decode cX12_getsOn 34 = .ok (.iadd, 1) := by decide +kernel
theorem dX12_getsOn_35 : decode cX12_getsOn 35 = .ok (.iload_n 2, 1) := by decide +kernel
theorem dX12_getsOn_36 : decode cX12_getsOn 36 = .ok (.if_icmp .gt 7, 3) := by decide +kernel
theorem dX12_getsOn_39 : decode cX12_getsOn 39 = .ok (.iconst 1, 1) := by decide +kernel
theorem dX12_getsOn_40 : decode cX12_getsOn 40 = .ok (.goto 4, 3) := by decide +kernel
theorem dX12_getsOn_43 : decode cX12_getsOn 43 = .ok (.iconst 0, 1) := by decide +kernel
theorem dX12_getsOn_44 : decode cX12_getsOn 44 = .ok (.ireturn, 1) := by decide +kernel
theorem dX12_getsOff_0 : decode cX12_getsOff 0 = .ok (.iload_n 1, 1) := by decide +kernel
theorem dX12_getsOff_1 : decode cX12_getsOff 1 = .ok (.aload_n 0, 1) := by decide +kernel
theorem dX12_getsOff_2 : decode cX12_getsOff 2 = .ok (.getfield 19, 3) := by decide +kernel
theorem dX12_getsOff_5 : decode cX12_getsOff 5 = .ok (.if_icmp .eq 13, 3) := by decide +kernel
theorem dX12_getsOff_8 : decode cX12_getsOff 8 = .ok (.iload_n 2, 1) := by decide +kernel
theorem dX12_getsOff_9 : decode cX12_getsOff 9 = .ok (.aload_n 0, 1) := by decide +kernel
theorem dX12_getsOff_10 : decode cX12_getsOff 10 = .ok (.getfield 63, 3) := by decide +kernel
theorem dX12_getsOff_13 : decode cX12_getsOff 13 = .ok (.iload_n 1, 1) := by decide +kernel
theorem dX12_getsOff_14 : decode cX12_getsOff 14 = .ok (.iaload, 1) := by decide +kernel
theorem dX12_getsOff_15 : decode cX12_getsOff 15 = .ok (.if_icmp .lt 4, 3) := by decide +kernel
theorem dX12_getsOff_18 : decode cX12_getsOff 18 = .ok (.return_, 1) := by decide +kernel
theorem dX12_getsOff_19 : decode cX12_getsOff 19 = .ok (.aload_n 0, 1) := by decide +kernel
theorem dX12_getsOff_20 : decode cX12_getsOff 20 = .ok (.getfield 63, 3) := by decide +kernel
theorem dX12_getsOff_23 : decode cX12_getsOff 23 = .ok (.iload_n 1, 1) := by decide +kernel
theorem dX12_getsOff_24 : decode cX12_getsOff 24 = .ok (.iload_n 2, 1) := by decide +kernel
theorem dX12_getsOff_25 : decode cX12_getsOff 25 = .ok (.iastore, 1) := by decide +kernel
theorem dX12_getsOff_26 : decode cX12_getsOff 26 = .ok (.aload_n 0, 1) := by decide +kernel
theorem dX12_getsOff_27 : decode cX12_getsOff 27 = .ok (.iconst 1, 1) := by decide +kernel
theorem dX12_getsOff_28 : decode cX12_getsOff 28 = .ok (.putfield 204, 3) := by decide +kernel
theorem dX12_getsOff_31 : decode cX12_getsOff 31 = .ok (.iconst 0, 1) := by decide +kernel
theorem dX12_getsOff_32 : decode cX12_getsOff 32 = .ok (.istore_n 3, 1) := by decide +kernel
theorem dX12_getsOff_33 : decode cX12_getsOff 33 = .ok (.iload_n 3, 1) := by decide +kernel
theorem dX12_getsOff_34 : decode cX12_getsOff 34 = .ok (.aload_n 0, 1) := by decide +kernel
theorem dX12_getsOff_35 : decode cX12_getsOff 35 = .ok (.getfield 123, 3) := by decide +kernel
theorem dX12_getsOff_38 : decode cX12_getsOff 38 = .ok (.if_icmp .ge 48, 3) := by decide +kernel
theorem dX12_getsOff_41 : decode cX12_getsOff 41 = .ok (.iload_n 2, 1) := by decide +kernel
theorem dX12_getsOff_42 : decode cX12_getsOff 42 = .ok (.aload_n 0, 1) := by decide +kernel
theorem dX12_getsOff_43 : decode cX12_getsOff 43 = .ok (.getfield 16, 3) := by decide +kernel
theorem dX12_getsOff_46 : decode cX12_getsOff 46 = .ok (.bipush 12, 2) := by decide +kernel
theorem dX12_getsOff_48 : decode cX12_getsOff 48 = .ok (.iload_n 1, 1) := by decide +kernel
theorem dX12_getsOff_49 : decode cX12_getsOff 49 = .ok (.imul, 1) := by decide +kernel
theorem dX12_getsOff_50 : decode cX12_getsOff 50 = .ok (.iload_n 3, 1) := by decide +kernel
theorem dX12_getsOff_51 : decode cX12_getsOff 51 = .ok (.iadd, 1) := by decide +kernel
theorem dX12_getsOff_52 : decode cX12_getsOff 52 = .ok (.iaload, 1) := by decide +kernel
theorem dX12_getsOff_53 : decode cX12_getsOff 53 = .ok (.iadd, 1) := by decide +kernel
theorem dX12_getsOff_54 : decode cX12_getsOff 54 = .ok (.istore 4, 2) := by decide +kernel
theorem dX12_getsOff_56 : decode cX12_getsOff 56 = .ok (.iload_n 3, 1) := by decide +kernel
theorem dX12_getsOff_57 : decode cX12_getsOff 57 = .ok (.iload_n 1, 1) := by decide +kernel
theorem dX12_getsOff_58 : decode cX12_getsOff 58 = .ok (.if_icmp .eq 22, 3) := by decide +kernel
theorem dX12_getsOff_61 : decode cX12_getsOff 61 = .ok (.iload 4, 2) := by decide +kernel
theorem dX12_getsOff_63 : decode cX12_getsOff 63 = .ok (.aload_n 0, 1) := by decide +kernel
theorem dX12_getsOff_64 : decode cX12_getsOff 64 = .ok (.getfield 60, 3) := by decide +kernel
theorem dX12_getsOff_67 : decode cX12_getsOff 67 = .ok (.iload_n 3, 1) := by decide +kernel
theorem dX12_getsOff_68 : decode cX12_getsOff 68 = .ok (.iaload, 1) := by decide +kernel
theorem dX12_getsOff_69 : decode cX12_getsOff 69 = .ok (.if_icmp .ge 11, 3) := by decide +kernel
theorem dX12_getsOff_72 : decode cX12_getsOff 72 = .ok (.aload_n 0, 1) := by decide +kernel
theorem dX12_getsOff_73 : decode cX12_getsOff 73 = .ok (.getfield 60, 3) := by decide +kernel
theorem dX12_getsOff_76 : decode cX12_getsOff 76 = .ok (.iload_n 3, 1) := by decide +kernel
theorem dX12_getsOff_77 : decode cX12_getsOff 77 = .ok (.iload 4, 2) := by decide +kernel
theorem dX12_getsOff_79 : decode cX12_getsOff 79 = .ok (.iastore, 1) := by decide +kernel
theorem dX12_getsOff_80 : decode cX12_getsOff 80 = .ok (.iinc 3 1, 3) := by decide +kernel
theorem dX12_getsOff_83 : decode cX12_getsOff 83 = .ok (.goto (-50), 3) := by decide +kernel
theorem dX12_getsOff_86 : decode cX12_getsOff 86 = .ok (.return_, 1) := by decide +kernel
theorem dX12_settle_0 : decode cX12_settle 0 = .ok (.aload_n 0, 1) := by decide +kernel
theorem dX12_settle_1 : decode cX12_settle 1 = .ok (.iconst 1, 1) := by decide +kernel
theorem dX12_settle_2 : decode cX12_settle 2 = .ok (.putfield 204, 3) := by decide +kernel
theorem dX12_settle_5 : decode cX12_settle 5 = .ok (.aload_n 0, 1) := by decide +kernel
theorem dX12_settle_6 : decode cX12_settle 6 = .ok (.getfield 204, 3) := by decide +kernel
theorem dX12_settle_9 : decode cX12_settle 9 = .ok (.ifCond .eq 38, 3) := by decide +kernel
theorem dX12_settle_12 : decode cX12_settle 12 = .ok (.aload_n 0, 1) := by decide +kernel
theorem dX12_settle_13 : decode cX12_settle 13 = .ok (.iconst 0, 1) := by decide +kernel
theorem dX12_settle_14 : decode cX12_settle 14 = .ok (.putfield 204, 3) := by decide +kernel
theorem dX12_settle_17 : decode cX12_settle 17 = .ok (.iconst 0, 1) := by decide +kernel
theorem dX12_settle_18 : decode cX12_settle 18 = .ok (.istore_n 1, 1) := by decide +kernel
theorem dX12_settle_19 : decode cX12_settle 19 = .ok (.iload_n 1, 1) := by decide +kernel
theorem dX12_settle_20 : decode cX12_settle 20 = .ok (.bipush 72, 2) := by decide +kernel
theorem dX12_settle_22 : decode cX12_settle 22 = .ok (.if_icmp .ge 22, 3) := by decide +kernel
theorem dX12_settle_25 : decode cX12_settle 25 = .ok (.aload_n 0, 1) := by decide +kernel
theorem dX12_settle_26 : decode cX12_settle 26 = .ok (.iload_n 1, 1) := by decide +kernel
theorem dX12_settle_27 : decode cX12_settle 27 = .ok (.invokevirtual 208, 3) := by decide +kernel
theorem dX12_settle_30 : decode cX12_settle 30 = .ok (.ifCond .eq 8, 3) := by decide +kernel
theorem dX12_settle_33 : decode cX12_settle 33 = .ok (.aload_n 0, 1) := by decide +kernel
theorem dX12_settle_34 : decode cX12_settle 34 = .ok (.iload_n 1, 1) := by decide +kernel
theorem dX12_settle_35 : decode cX12_settle 35 = .ok (.invokevirtual 211, 3) := by decide +kernel
theorem dX12_settle_38 : decode cX12_settle 38 = .ok (.iinc 1 1, 3) := by decide +kernel
theorem dX12_settle_41 : decode cX12_settle 41 = .ok (.goto (-22), 3) := by decide +kernel
theorem dX12_settle_44 : decode cX12_settle 44 = .ok (.goto (-39), 3) := by decide +kernel
theorem dX12_settle_47 : decode cX12_settle 47 = .ok (.return_, 1) := by decide +kernel
theorem dX12_rideOn_0 : decode cX12_rideOn 0 = .ok (.iconst 0, 1) := by decide +kernel
theorem dX12_rideOn_1 : decode cX12_rideOn 1 = .ok (.istore_n 2, 1) := by decide +kernel
theorem dX12_rideOn_2 : decode cX12_rideOn 2 = .ok (.iconst 0, 1) := by decide +kernel
theorem dX12_rideOn_3 : decode cX12_rideOn 3 = .ok (.istore_n 3, 1) := by decide +kernel
theorem dX12_rideOn_4 : decode cX12_rideOn 4 = .ok (.iload_n 3, 1) := by decide +kernel
theorem dX12_rideOn_5 : decode cX12_rideOn 5 = .ok (.aload_n 0, 1) := by decide +kernel
theorem dX12_rideOn_6 : decode cX12_rideOn 6 = .ok (.getfield 30, 3) := by decide +kernel
theorem dX12_rideOn_9 : decode cX12_rideOn 9 = .ok (.iload_n 1, 1) := by decide +kernel
theorem dX12_rideOn_10 : decode cX12_rideOn 10 = .ok (.bipush 24, 2) := by decide +kernel
theorem dX12_rideOn_12 : decode cX12_rideOn 12 = .ok (.irem, 1) := by decide +kernel
theorem dX12_rideOn_13 : decode cX12_rideOn 13 = .ok (.iaload, 1) := by decide +kernel
theorem dX12_rideOn_14 : decode cX12_rideOn 14 = .ok (.if_icmp .ge 58, 3) := by decide +kernel
theorem dX12_rideOn_17 : decode cX12_rideOn 17 = .ok (.iload_n 2, 1) := by decide +kernel
theorem dX12_rideOn_18 : decode cX12_rideOn 18 = .ok (.ifCond .eq 19, 3) := by decide +kernel
theorem dX12_rideOn_21 : decode cX12_rideOn 21 = .ok (.aload_n 0, 1) := by decide +kernel
theorem dX12_rideOn_22 : decode cX12_rideOn 22 = .ok (.aload_n 0, 1) := by decide +kernel
theorem dX12_rideOn_23 : decode cX12_rideOn 23 = .ok (.iload_n 1, 1) := by decide +kernel
theorem dX12_rideOn_24 : decode cX12_rideOn 24 = .ok (.iload_n 3, 1) := by decide +kernel
theorem dX12_rideOn_25 : decode cX12_rideOn 25 = .ok (.invokevirtual 214, 3) := by decide +kernel
theorem dX12_rideOn_28 : decode cX12_rideOn 28 = .ok (.aload_n 0, 1) := by decide +kernel
theorem dX12_rideOn_29 : decode cX12_rideOn 29 = .ok (.iload_n 1, 1) := by decide +kernel
theorem dX12_rideOn_30 : decode cX12_rideOn 30 = .ok (.iload_n 3, 1) := by decide +kernel
theorem dX12_rideOn_31 : decode cX12_rideOn 31 = .ok (.invokevirtual 217, 3) := by decide +kernel
theorem dX12_rideOn_34 : decode cX12_rideOn 34 = .ok (.invokevirtual 220, 3) := by decide +kernel
theorem dX12_rideOn_37 : decode cX12_rideOn 37 = .ok (.iload_n 2, 1) := by decide +kernel
theorem dX12_rideOn_38 : decode cX12_rideOn 38 = .ok (.ifCond .ne 22, 3) := by decide +kernel
theorem dX12_rideOn_41 : decode cX12_rideOn 41 = .ok (.aload_n 0, 1) := by decide +kernel
theorem dX12_rideOn_42 : decode cX12_rideOn 42 = .ok (.aload_n 0, 1) := by decide +kernel
theorem dX12_rideOn_43 : decode cX12_rideOn 43 = .ok (.iload_n 1, 1) := by decide +kernel
theorem dX12_rideOn_44 : decode cX12_rideOn 44 = .ok (.iload_n 3, 1) := by decide +kernel
theorem dX12_rideOn_45 : decode cX12_rideOn 45 = .ok (.invokevirtual 214, 3) := by decide +kernel
theorem dX12_rideOn_48 : decode cX12_rideOn 48 = .ok (.aload_n 0, 1) := by decide +kernel
theorem dX12_rideOn_49 : decode cX12_rideOn 49 = .ok (.iload_n 1, 1) := by decide +kernel
theorem dX12_rideOn_50 : decode cX12_rideOn 50 = .ok (.iload_n 3, 1) := by decide +kernel
theorem dX12_rideOn_51 : decode cX12_rideOn 51 = .ok (.invokevirtual 223, 3) := by decide +kernel
theorem dX12_rideOn_54 : decode cX12_rideOn 54 = .ok (.invokevirtual 226, 3) := by decide +kernel
theorem dX12_rideOn_57 : decode cX12_rideOn 57 = .ok (.ifCond .eq 7, 3) := by decide +kernel
theorem dX12_rideOn_60 : decode cX12_rideOn 60 = .ok (.iconst 1, 1) := by decide +kernel
theorem dX12_rideOn_61 : decode cX12_rideOn 61 = .ok (.goto 4, 3) := by decide +kernel
theorem dX12_rideOn_64 : decode cX12_rideOn 64 = .ok (.iconst 0, 1) := by decide +kernel
theorem dX12_rideOn_65 : decode cX12_rideOn 65 = .ok (.istore_n 2, 1) := by decide +kernel
theorem dX12_rideOn_66 : decode cX12_rideOn 66 = .ok (.iinc 3 1, 3) := by decide +kernel
theorem dX12_rideOn_69 : decode cX12_rideOn 69 = .ok (.goto (-65), 3) := by decide +kernel
theorem dX12_rideOn_72 : decode cX12_rideOn 72 = .ok (.return_, 1) := by decide +kernel
theorem dX12_at_0 : decode cX12_at 0 = .ok (.aload_n 0, 1) := by decide +kernel
theorem dX12_at_1 : decode cX12_at 1 = .ok (.getfield 60, 3) := by decide +kernel
theorem dX12_at_4 : decode cX12_at 4 = .ok (.iload_n 1, 1) := by decide +kernel
theorem dX12_at_5 : decode cX12_at 5 = .ok (.iaload, 1) := by decide +kernel
theorem dX12_at_6 : decode cX12_at 6 = .ok (.aload_n 0, 1) := by decide +kernel
theorem dX12_at_7 : decode cX12_at 7 = .ok (.getfield 63, 3) := by decide +kernel
theorem dX12_at_10 : decode cX12_at 10 = .ok (.iload_n 1, 1) := by decide +kernel
theorem dX12_at_11 : decode cX12_at 11 = .ok (.iaload, 1) := by decide +kernel
theorem dX12_at_12 : decode cX12_at 12 = .ok (.if_icmp .ge 12, 3) := by decide +kernel
theorem dX12_at_15 : decode cX12_at 15 = .ok (.aload_n 0, 1) := by decide +kernel
theorem dX12_at_16 : decode cX12_at 16 = .ok (.getfield 60, 3) := by decide +kernel
theorem dX12_at_19 : decode cX12_at 19 = .ok (.iload_n 1, 1) := by decide +kernel
theorem dX12_at_20 : decode cX12_at 20 = .ok (.iaload, 1) := by decide +kernel
theorem dX12_at_21 : decode cX12_at 21 = .ok (.goto 9, 3) := by decide +kernel
theorem dX12_at_24 : decode cX12_at 24 = .ok (.aload_n 0, 1) := by decide +kernel
theorem dX12_at_25 : decode cX12_at 25 = .ok (.getfield 63, 3) := by decide +kernel
theorem dX12_at_28 : decode cX12_at 28 = .ok (.iload_n 1, 1) := by decide +kernel
theorem dX12_at_29 : decode cX12_at 29 = .ok (.iaload, 1) := by decide +kernel
theorem dX12_at_30 : decode cX12_at 30 = .ok (.ireturn, 1) := by decide +kernel
theorem dX12_byRide_0 : decode cX12_byRide 0 = .ok (.aload_n 0, 1) := by decide +kernel
theorem dX12_byRide_1 : decode cX12_byRide 1 = .ok (.getfield 63, 3) := by decide +kernel
theorem dX12_byRide_4 : decode cX12_byRide 4 = .ok (.iload_n 1, 1) := by decide +kernel
theorem dX12_byRide_5 : decode cX12_byRide 5 = .ok (.iaload, 1) := by decide +kernel
theorem dX12_byRide_6 : decode cX12_byRide 6 = .ok (.istore_n 2, 1) := by decide +kernel
theorem dX12_byRide_7 : decode cX12_byRide 7 = .ok (.iconst 0, 1) := by decide +kernel
theorem dX12_byRide_8 : decode cX12_byRide 8 = .ok (.istore_n 3, 1) := by decide +kernel
theorem dX12_byRide_9 : decode cX12_byRide 9 = .ok (.iload_n 3, 1) := by decide +kernel
theorem dX12_byRide_10 : decode cX12_byRide 10 = .ok (.aload_n 0, 1) := by decide +kernel
theorem dX12_byRide_11 : decode cX12_byRide 11 = .ok (.getfield 123, 3) := by decide +kernel
theorem dX12_byRide_14 : decode cX12_byRide 14 = .ok (.if_icmp .ge 42, 3) := by decide +kernel
theorem dX12_byRide_17 : decode cX12_byRide 17 = .ok (.aload_n 0, 1) := by decide +kernel
theorem dX12_byRide_18 : decode cX12_byRide 18 = .ok (.getfield 63, 3) := by decide +kernel
theorem dX12_byRide_21 : decode cX12_byRide 21 = .ok (.iload_n 3, 1) := by decide +kernel
theorem dX12_byRide_22 : decode cX12_byRide 22 = .ok (.iaload, 1) := by decide +kernel
theorem dX12_byRide_23 : decode cX12_byRide 23 = .ok (.aload_n 0, 1) := by decide +kernel
theorem dX12_byRide_24 : decode cX12_byRide 24 = .ok (.getfield 16, 3) := by decide +kernel
theorem dX12_byRide_27 : decode cX12_byRide 27 = .ok (.bipush 12, 2) := by decide +kernel
theorem dX12_byRide_29 : decode cX12_byRide 29 = .ok (.iload_n 3, 1) := by decide +kernel
theorem dX12_byRide_30 : decode cX12_byRide 30 = .ok (.imul, 1) := by decide +kernel
theorem dX12_byRide_31 : decode cX12_byRide 31 = .ok (.iload_n 1, 1) := by decide +kernel
theorem dX12_byRide_32 : decode cX12_byRide 32 = .ok (.iadd, 1) := by decide +kernel
theorem dX12_byRide_33 : decode cX12_byRide 33 = .ok (.iaload, 1) := by decide +kernel
theorem dX12_byRide_34 : decode cX12_byRide 34 = .ok (.iadd, 1) := by decide +kernel
theorem dX12_byRide_35 : decode cX12_byRide 35 = .ok (.istore 4, 2) := by decide +kernel
theorem dX12_byRide_37 : decode cX12_byRide 37 = .ok (.iload 4, 2) := by decide +kernel
theorem dX12_byRide_39 : decode cX12_byRide 39 = .ok (.iload_n 2, 1) := by decide +kernel
theorem dX12_byRide_40 : decode cX12_byRide 40 = .ok (.if_icmp .ge 8, 3) := by decide +kernel
theorem dX12_byRide_43 : decode cX12_byRide 43 = .ok (.iload 4, 2) := by decide +kernel
theorem dX12_byRide_45 : decode cX12_byRide 45 = .ok (.goto 4, 3) := by decide +kernel
theorem dX12_byRide_48 : decode cX12_byRide 48 = .ok (.iload_n 2, 1) := by decide +kernel
theorem dX12_byRide_49 : decode cX12_byRide 49 = .ok (.istore_n 2, 1) := by decide +kernel
theorem dX12_byRide_50 : decode cX12_byRide 50 = .ok (.iinc 3 1, 3) := by decide +kernel
theorem dX12_byRide_53 : decode cX12_byRide 53 = .ok (.goto (-44), 3) := by decide +kernel
theorem dX12_byRide_56 : decode cX12_byRide 56 = .ok (.iload_n 2, 1) := by decide +kernel
theorem dX12_byRide_57 : decode cX12_byRide 57 = .ok (.ireturn, 1) := by decide +kernel
theorem dX12_earliestOf_0 : decode cX12_earliestOf 0 = .ok (.aload_n 0, 1) := by decide +kernel
theorem dX12_earliestOf_1 : decode cX12_earliestOf 1 = .ok (.iload_n 3, 1) := by decide +kernel
theorem dX12_earliestOf_2 : decode cX12_earliestOf 2 = .ok (.putfield 198, 3) := by decide +kernel
theorem dX12_earliestOf_5 : decode cX12_earliestOf 5 = .ok (.aload_n 0, 1) := by decide +kernel
theorem dX12_earliestOf_6 : decode cX12_earliestOf 6 = .ok (.iload_n 1, 1) := by decide +kernel
theorem dX12_earliestOf_7 : decode cX12_earliestOf 7 = .ok (.iload 4, 2) := by decide +kernel
theorem dX12_earliestOf_9 : decode cX12_earliestOf 9 = .ok (.invokevirtual 229, 3) := by decide +kernel
theorem dX12_earliestOf_12 : decode cX12_earliestOf 12 = .ok (.aload_n 0, 1) := by decide +kernel
theorem dX12_earliestOf_13 : decode cX12_earliestOf 13 = .ok (.invokevirtual 232, 3) := by decide +kernel
theorem dX12_earliestOf_16 : decode cX12_earliestOf 16 = .ok (.aload_n 0, 1) := by decide +kernel
theorem dX12_earliestOf_17 : decode cX12_earliestOf 17 = .ok (.iload_n 2, 1) := by decide +kernel
theorem dX12_earliestOf_18 : decode cX12_earliestOf 18 = .ok (.invokevirtual 235, 3) := by decide +kernel
theorem dX12_earliestOf_21 : decode cX12_earliestOf 21 = .ok (.ireturn, 1) := by decide +kernel
theorem dX12_isAskedWrong_0 : decode cX12_isAskedWrong 0 = .ok (.aload_n 0, 1) := by decide +kernel
theorem dX12_isAskedWrong_1 : decode cX12_isAskedWrong 1 = .ok (.iload_n 1, 1) := by decide +kernel
theorem dX12_isAskedWrong_2 : decode cX12_isAskedWrong 2 = .ok (.invokevirtual 147, 3) := by decide +kernel
theorem dX12_isAskedWrong_5 : decode cX12_isAskedWrong 5 = .ok (.ifCond .ne 46, 3) := by decide +kernel
theorem dX12_isAskedWrong_8 : decode cX12_isAskedWrong 8 = .ok (.aload_n 0, 1) := by decide +kernel
theorem dX12_isAskedWrong_9 : decode cX12_isAskedWrong 9 = .ok (.iload_n 2, 1) := by decide +kernel
theorem dX12_isAskedWrong_10 : decode cX12_isAskedWrong 10 = .ok (.invokevirtual 147, 3) := by decide +kernel
theorem dX12_isAskedWrong_13 : decode cX12_isAskedWrong 13 = .ok (.ifCond .ne 38, 3) := by decide +kernel
theorem dX12_isAskedWrong_16 : decode cX12_isAskedWrong 16 = .ok (.aload_n 0, 1) := by decide +kernel
theorem dX12_isAskedWrong_17 : decode cX12_isAskedWrong 17 = .ok (.iload_n 3, 1) := by decide +kernel
theorem dX12_isAskedWrong_18 : decode cX12_isAskedWrong 18 = .ok (.iconst 0, 1) := by decide +kernel
theorem dX12_isAskedWrong_19 : decode cX12_isAskedWrong 19 = .ok (.bipush 27, 2) := by decide +kernel
theorem dX12_isAskedWrong_21 : decode cX12_isAskedWrong 21 = .ok (.invokestatic 126, 3) := by decide +kernel
theorem dX12_isAskedWrong_24 : decode cX12_isAskedWrong 24 = .ok (.ifCond .eq 15, 3) := by decide +kernel
theorem dX12_isAskedWrong_27 : decode cX12_isAskedWrong 27 = .ok (.iload 4, 2) := by decide +kernel
theorem dX12_isAskedWrong_29 : decode cX12_isAskedWrong 29 = .ok (.iconst 0, 1) := by decide +kernel
theorem dX12_isAskedWrong_30 : decode cX12_isAskedWrong 30 = .ok (.sipush 1439, 3) := by decide +kernel
theorem dX12_isAskedWrong_33 : decode cX12_isAskedWrong 33 = .ok (.invokestatic 126, 3) := by decide +kernel
theorem dX12_isAskedWrong_36 : decode cX12_isAskedWrong 36 = .ok (.ifCond .ne 7, 3) := by decide +kernel
theorem dX12_isAskedWrong_39 : decode cX12_isAskedWrong 39 = .ok (.iconst 1, 1) := by decide +kernel
theorem dX12_isAskedWrong_40 : decode cX12_isAskedWrong 40 = .ok (.goto 4, 3) := by decide +kernel
theorem dX12_isAskedWrong_43 : decode cX12_isAskedWrong 43 = .ok (.iconst 0, 1) := by decide +kernel
theorem dX12_isAskedWrong_44 : decode cX12_isAskedWrong 44 = .ok (.iconst 2, 1) := by decide +kernel
theorem dX12_isAskedWrong_45 : decode cX12_isAskedWrong 45 = .ok (.invokevirtual 130, 3) := by decide +kernel
theorem dX12_isAskedWrong_48 : decode cX12_isAskedWrong 48 = .ok (.ifCond .eq 7, 3) := by decide +kernel
theorem dX12_isAskedWrong_51 : decode cX12_isAskedWrong 51 = .ok (.iconst 1, 1) := by decide +kernel
theorem dX12_isAskedWrong_52 : decode cX12_isAskedWrong 52 = .ok (.goto 4, 3) := by decide +kernel
theorem dX12_isAskedWrong_55 : decode cX12_isAskedWrong 55 = .ok (.iconst 0, 1) := by decide +kernel
theorem dX12_isAskedWrong_56 : decode cX12_isAskedWrong 56 = .ok (.ireturn, 1) := by decide +kernel
theorem dX12_earliest_0 : decode cX12_earliest 0 = .ok (.aload_n 0, 1) := by decide +kernel
theorem dX12_earliest_1 : decode cX12_earliest 1 = .ok (.iload_n 1, 1) := by decide +kernel
theorem dX12_earliest_2 : decode cX12_earliest 2 = .ok (.iload_n 2, 1) := by decide +kernel
theorem dX12_earliest_3 : decode cX12_earliest 3 = .ok (.iload_n 3, 1) := by decide +kernel
theorem dX12_earliest_4 : decode cX12_earliest 4 = .ok (.iload 4, 2) := by decide +kernel
theorem dX12_earliest_6 : decode cX12_earliest 6 = .ok (.invokevirtual 239, 3) := by decide +kernel
theorem dX12_earliest_9 : decode cX12_earliest 9 = .ok (.ifCond .eq 5, 3) := by decide +kernel
theorem dX12_earliest_12 : decode cX12_earliest 12 = .ok (.iconst 0, 1) := by decide +kernel
theorem dX12_earliest_13 : decode cX12_earliest 13 = .ok (.ireturn, 1) := by decide +kernel
theorem dX12_earliest_14 : decode cX12_earliest 14 = .ok (.aload_n 0, 1) := by decide +kernel
theorem dX12_earliest_15 : decode cX12_earliest 15 = .ok (.iload_n 1, 1) := by decide +kernel
theorem dX12_earliest_16 : decode cX12_earliest 16 = .ok (.iload_n 2, 1) := by decide +kernel
theorem dX12_earliest_17 : decode cX12_earliest 17 = .ok (.iload_n 3, 1) := by decide +kernel
theorem dX12_earliest_18 : decode cX12_earliest 18 = .ok (.iload 4, 2) := by decide +kernel
theorem dX12_earliest_20 : decode cX12_earliest 20 = .ok (.invokevirtual 243, 3) := by decide +kernel
theorem dX12_earliest_23 : decode cX12_earliest 23 = .ok (.istore 5, 2) := by decide +kernel
theorem dX12_earliest_25 : decode cX12_earliest 25 = .ok (.aload_n 0, 1) := by decide +kernel
theorem dX12_earliest_26 : decode cX12_earliest 26 = .ok (.iload 5, 2) := by decide +kernel
theorem dX12_earliest_28 : decode cX12_earliest 28 = .ok (.ldc 150, 2) := by decide +kernel
theorem dX12_earliest_30 : decode cX12_earliest 30 = .ok (.if_icmp .lt 7, 3) := by decide +kernel
theorem dX12_earliest_33 : decode cX12_earliest 33 = .ok (.iconst 1, 1) := by decide +kernel
theorem dX12_earliest_34 : decode cX12_earliest 34 = .ok (.goto 4, 3) := by decide +kernel
theorem dX12_earliest_37 : decode cX12_earliest 37 = .ok (.iconst 0, 1) := by decide +kernel
theorem dX12_earliest_38 : decode cX12_earliest 38 = .ok (.iconst 3, 1) := by decide +kernel
theorem dX12_earliest_39 : decode cX12_earliest 39 = .ok (.invokevirtual 130, 3) := by decide +kernel
theorem dX12_earliest_42 : decode cX12_earliest 42 = .ok (.ifCond .eq 7, 3) := by decide +kernel
theorem dX12_earliest_45 : decode cX12_earliest 45 = .ok (.iconst 0, 1) := by decide +kernel
theorem dX12_earliest_46 : decode cX12_earliest 46 = .ok (.goto 5, 3) := by decide +kernel
theorem dX12_earliest_49 : decode cX12_earliest 49 = .ok (.iload 5, 2) := by decide +kernel
theorem dX12_earliest_51 : decode cX12_earliest 51 = .ok (.ireturn, 1) := by decide +kernel
theorem dX12_earliestByQueue_0 : decode cX12_earliestByQueue 0 = .ok (.aload_n 0, 1) := by decide +kernel
theorem dX12_earliestByQueue_1 : decode cX12_earliestByQueue 1 = .ok (.iload_n 1, 1) := by decide +kernel
theorem dX12_earliestByQueue_2 : decode cX12_earliestByQueue 2 = .ok (.iload_n 2, 1) := by decide +kernel
theorem dX12_earliestByQueue_3 : decode cX12_earliestByQueue 3 = .ok (.iload_n 3, 1) := by decide +kernel
theorem dX12_earliestByQueue_4 : decode cX12_earliestByQueue 4 = .ok (.iload 4, 2) := by decide +kernel
theorem dX12_earliestByQueue_6 : decode cX12_earliestByQueue 6 = .ok (.invokevirtual 247, 3) := by decide +kernel
theorem dX12_earliestByQueue_9 : decode cX12_earliestByQueue 9 = .ok (.ireturn, 1) := by decide +kernel
theorem dX12_earliestByRounds_0 : decode cX12_earliestByRounds 0 = .ok (.aload_n 0, 1) := by decide +kernel
theorem dX12_earliestByRounds_1 : decode cX12_earliestByRounds 1 = .ok (.iload_n 1, 1) := by decide +kernel
theorem dX12_earliestByRounds_2 : decode cX12_earliestByRounds 2 = .ok (.iload_n 2, 1) := by decide +kernel
theorem dX12_earliestByRounds_3 : decode cX12_earliestByRounds 3 = .ok (.iload_n 3, 1) := by decide +kernel
theorem dX12_earliestByRounds_4 : decode cX12_earliestByRounds 4 = .ok (.iload 4, 2) := by decide +kernel
theorem dX12_earliestByRounds_6 : decode cX12_earliestByRounds 6 = .ok (.invokevirtual 247, 3) := by decide +kernel
theorem dX12_earliestByRounds_9 : decode cX12_earliestByRounds 9 = .ok (.ireturn, 1) := by decide +kernel
theorem dX12_byPairs_0 : decode cX12_byPairs 0 = .ok (.aload_n 0, 1) := by decide +kernel
theorem dX12_byPairs_1 : decode cX12_byPairs 1 = .ok (.iload_n 1, 1) := by decide +kernel
theorem dX12_byPairs_2 : decode cX12_byPairs 2 = .ok (.iload_n 2, 1) := by decide +kernel
theorem dX12_byPairs_3 : decode cX12_byPairs 3 = .ok (.iload_n 3, 1) := by decide +kernel
theorem dX12_byPairs_4 : decode cX12_byPairs 4 = .ok (.iload 4, 2) := by decide +kernel
theorem dX12_byPairs_6 : decode cX12_byPairs 6 = .ok (.invokevirtual 247, 3) := by decide +kernel
theorem dX12_byPairs_9 : decode cX12_byPairs 9 = .ok (.ireturn, 1) := by decide +kernel
theorem dX12_wall_0 : decode cX12_wall 0 = .ok (.aload_n 0, 1) := by decide +kernel
theorem dX12_wall_1 : decode cX12_wall 1 = .ok (.iload_n 1, 1) := by decide +kernel
theorem dX12_wall_2 : decode cX12_wall 2 = .ok (.invokevirtual 147, 3) := by decide +kernel
theorem dX12_wall_5 : decode cX12_wall 5 = .ok (.ifCond .ne 49, 3) := by decide +kernel
theorem dX12_wall_8 : decode cX12_wall 8 = .ok (.aload_n 0, 1) := by decide +kernel
theorem dX12_wall_9 : decode cX12_wall 9 = .ok (.iload_n 2, 1) := by decide +kernel
theorem dX12_wall_10 : decode cX12_wall 10 = .ok (.iconst 0, 1) := by decide +kernel
theorem dX12_wall_11 : decode cX12_wall 11 = .ok (.bipush 27, 2) := by decide +kernel
theorem dX12_wall_13 : decode cX12_wall 13 = .ok (.invokestatic 126, 3) := by decide +kernel
theorem dX12_wall_16 : decode cX12_wall 16 = .ok (.ifCond .eq 26, 3) := by decide +kernel
theorem dX12_wall_19 : decode cX12_wall 19 = .ok (.iload_n 3, 1) := by decide +kernel
theorem dX12_wall_20 : decode cX12_wall 20 = .ok (.iconst 0, 1) := by decide +kernel
theorem dX12_wall_21 : decode cX12_wall 21 = .ok (.sipush 1439, 3) := by decide +kernel
theorem dX12_wall_24 : decode cX12_wall 24 = .ok (.invokestatic 126, 3) := by decide +kernel
theorem dX12_wall_27 : decode cX12_wall 27 = .ok (.ifCond .eq 15, 3) := by decide +kernel
theorem dX12_wall_30 : decode cX12_wall 30 = .ok (.iload 4, 2) := by decide +kernel
theorem dX12_wall_32 : decode cX12_wall 32 = .ok (.iconst 0, 1) := by decide +kernel
theorem dX12_wall_33 : decode cX12_wall 33 = .ok (.sipush 4319, 3) := by decide +kernel
theorem dX12_wall_36 : decode cX12_wall 36 = .ok (.invokestatic 126, 3) := by decide +kernel
theorem dX12_wall_39 : decode cX12_wall 39 = .ok (.ifCond .ne 7, 3) := by decide +kernel
theorem dX12_wall_42 : decode cX12_wall 42 = .ok (.iconst 1, 1) := by decide +kernel
theorem dX12_wall_43 : decode cX12_wall 43 = .ok (.goto 4, 3) := by decide +kernel
theorem dX12_wall_46 : decode cX12_wall 46 = .ok (.iconst 0, 1) := by decide +kernel
theorem dX12_wall_47 : decode cX12_wall 47 = .ok (.iconst 2, 1) := by decide +kernel
theorem dX12_wall_48 : decode cX12_wall 48 = .ok (.invokevirtual 130, 3) := by decide +kernel
theorem dX12_wall_51 : decode cX12_wall 51 = .ok (.ifCond .eq 5, 3) := by decide +kernel
theorem dX12_wall_54 : decode cX12_wall 54 = .ok (.iconst 0, 1) := by decide +kernel
theorem dX12_wall_55 : decode cX12_wall 55 = .ok (.ireturn, 1) := by decide +kernel
theorem dX12_wall_56 : decode cX12_wall 56 = .ok (.aload_n 0, 1) := by decide +kernel
theorem dX12_wall_57 : decode cX12_wall 57 = .ok (.iload_n 1, 1) := by decide +kernel
theorem dX12_wall_58 : decode cX12_wall 58 = .ok (.iload_n 1, 1) := by decide +kernel
theorem dX12_wall_59 : decode cX12_wall 59 = .ok (.iload_n 2, 1) := by decide +kernel
theorem dX12_wall_60 : decode cX12_wall 60 = .ok (.iload_n 3, 1) := by decide +kernel
theorem dX12_wall_61 : decode cX12_wall 61 = .ok (.invokevirtual 243, 3) := by decide +kernel
theorem dX12_wall_64 : decode cX12_wall 64 = .ok (.istore 5, 2) := by decide +kernel
theorem dX12_wall_66 : decode cX12_wall 66 = .ok (.iconst 0, 1) := by decide +kernel
theorem dX12_wall_67 : decode cX12_wall 67 = .ok (.istore 6, 2) := by decide +kernel
theorem dX12_wall_69 : decode cX12_wall 69 = .ok (.iconst 0, 1) := by decide +kernel
theorem dX12_wall_70 : decode cX12_wall 70 = .ok (.istore 7, 2) := by decide +kernel
theorem dX12_wall_72 : decode cX12_wall 72 = .ok (.iload 7, 2) := by decide +kernel
theorem dX12_wall_74 : decode cX12_wall 74 = .ok (.aload_n 0, 1) := by decide +kernel
theorem dX12_wall_75 : decode cX12_wall 75 = .ok (.getfield 123, 3) := by decide +kernel
theorem dX12_wall_78 : decode cX12_wall 78 = .ok (.if_icmp .ge 33, 3) := by decide +kernel
theorem dX12_wall_81 : decode cX12_wall 81 = .ok (.iload 6, 2) := by decide +kernel
theorem dX12_wall_83 : decode cX12_wall 83 = .ok (.aload_n 0, 1) := by decide +kernel
theorem dX12_wall_84 : decode cX12_wall 84 = .ok (.iload 7, 2) := by decide +kernel
theorem dX12_wall_86 : decode cX12_wall 86 = .ok (.invokevirtual 235, 3) := by decide +kernel
theorem dX12_wall_89 : decode cX12_wall 89 = .ok (.iload 4, 2) := by decide +kernel
theorem dX12_wall_91 : decode cX12_wall 91 = .ok (.if_icmp .ge 10, 3) := by decide +kernel
theorem dX12_wall_94 : decode cX12_wall 94 = .ok (.iconst 1, 1) := by decide +kernel
theorem dX12_wall_95 : decode cX12_wall 95 = .ok (.iload 7, 2) := by decide +kernel
theorem dX12_wall_97 : decode cX12_wall 97 = .ok (.ishl, 1) := by decide +kernel
theorem dX12_wall_98 : decode cX12_wall 98 = .ok (.goto 4, 3) := by decide +kernel
theorem dX12_wall_101 : decode cX12_wall 101 = .ok (.iconst 0, 1) := by decide +kernel
theorem dX12_wall_102 : decode cX12_wall 102 = .ok (.ior, 1) := by decide +kernel
theorem dX12_wall_103 : decode cX12_wall 103 = .ok (.istore 6, 2) := by decide +kernel
theorem dX12_wall_105 : decode cX12_wall 105 = .ok (.iinc 7 1, 3) := by decide +kernel
theorem dX12_wall_108 : decode cX12_wall 108 = .ok (.goto (-36), 3) := by decide +kernel
theorem dX12_wall_111 : decode cX12_wall 111 = .ok (.iload 6, 2) := by decide +kernel
theorem dX12_wall_113 : decode cX12_wall 113 = .ok (.ireturn, 1) := by decide +kernel
theorem dX12_last_0 : decode cX12_last 0 = .ok (.aload_n 0, 1) := by decide +kernel
theorem dX12_last_1 : decode cX12_last 1 = .ok (.iload_n 1, 1) := by decide +kernel
theorem dX12_last_2 : decode cX12_last 2 = .ok (.invokevirtual 147, 3) := by decide +kernel
theorem dX12_last_5 : decode cX12_last 5 = .ok (.ifCond .ne 46, 3) := by decide +kernel
theorem dX12_last_8 : decode cX12_last 8 = .ok (.aload_n 0, 1) := by decide +kernel
theorem dX12_last_9 : decode cX12_last 9 = .ok (.iload_n 2, 1) := by decide +kernel
theorem dX12_last_10 : decode cX12_last 10 = .ok (.invokevirtual 147, 3) := by decide +kernel
theorem dX12_last_13 : decode cX12_last 13 = .ok (.ifCond .ne 38, 3) := by decide +kernel
theorem dX12_last_16 : decode cX12_last 16 = .ok (.aload_n 0, 1) := by decide +kernel
theorem dX12_last_17 : decode cX12_last 17 = .ok (.iload_n 3, 1) := by decide +kernel
theorem dX12_last_18 : decode cX12_last 18 = .ok (.iconst 0, 1) := by decide +kernel
theorem dX12_last_19 : decode cX12_last 19 = .ok (.bipush 27, 2) := by decide +kernel
theorem dX12_last_21 : decode cX12_last 21 = .ok (.invokestatic 126, 3) := by decide +kernel
theorem dX12_last_24 : decode cX12_last 24 = .ok (.ifCond .eq 15, 3) := by decide +kernel
theorem dX12_last_27 : decode cX12_last 27 = .ok (.iload 4, 2) := by decide +kernel
theorem dX12_last_29 : decode cX12_last 29 = .ok (.iconst 0, 1) := by decide +kernel
theorem dX12_last_30 : decode cX12_last 30 = .ok (.sipush 2879, 3) := by decide +kernel
theorem dX12_last_33 : decode cX12_last 33 = .ok (.invokestatic 126, 3) := by decide +kernel
theorem dX12_last_36 : decode cX12_last 36 = .ok (.ifCond .ne 7, 3) := by decide +kernel
theorem dX12_last_39 : decode cX12_last 39 = .ok (.iconst 1, 1) := by decide +kernel
theorem dX12_last_40 : decode cX12_last 40 = .ok (.goto 4, 3) := by decide +kernel
theorem dX12_last_43 : decode cX12_last 43 = .ok (.iconst 0, 1) := by decide +kernel
theorem dX12_last_44 : decode cX12_last 44 = .ok (.iconst 2, 1) := by decide +kernel
theorem dX12_last_45 : decode cX12_last 45 = .ok (.invokevirtual 130, 3) := by decide +kernel
theorem dX12_last_48 : decode cX12_last 48 = .ok (.ifCond .eq 5, 3) := by decide +kernel
theorem dX12_last_51 : decode cX12_last 51 = .ok (.iconst 0, 1) := by decide +kernel
theorem dX12_last_52 : decode cX12_last 52 = .ok (.ireturn, 1) := by decide +kernel
theorem dX12_last_53 : decode cX12_last 53 = .ok (.aload_n 0, 1) := by decide +kernel
theorem dX12_last_54 : decode cX12_last 54 = .ok (.aload_n 0, 1) := by decide +kernel
theorem dX12_last_55 : decode cX12_last 55 = .ok (.iload_n 1, 1) := by decide +kernel
theorem dX12_last_56 : decode cX12_last 56 = .ok (.iload_n 2, 1) := by decide +kernel
theorem dX12_last_57 : decode cX12_last 57 = .ok (.iload_n 3, 1) := by decide +kernel
theorem dX12_last_58 : decode cX12_last 58 = .ok (.iconst 0, 1) := by decide +kernel
theorem dX12_last_59 : decode cX12_last 59 = .ok (.invokevirtual 243, 3) := by decide +kernel
theorem dX12_last_62 : decode cX12_last 62 = .ok (.iload 4, 2) := by decide +kernel
theorem dX12_last_64 : decode cX12_last 64 = .ok (.if_icmp .le 7, 3) := by decide +kernel
theorem dX12_last_67 : decode cX12_last 67 = .ok (.iconst 1, 1) := by decide +kernel
theorem dX12_last_68 : decode cX12_last 68 = .ok (.goto 4, 3) := by decide +kernel
theorem dX12_last_71 : decode cX12_last 71 = .ok (.iconst 0, 1) := by decide +kernel
theorem dX12_last_72 : decode cX12_last 72 = .ok (.iconst 3, 1) := by decide +kernel
theorem dX12_last_73 : decode cX12_last 73 = .ok (.invokevirtual 130, 3) := by decide +kernel
theorem dX12_last_76 : decode cX12_last 76 = .ok (.ifCond .eq 5, 3) := by decide +kernel
theorem dX12_last_79 : decode cX12_last 79 = .ok (.iconst 0, 1) := by decide +kernel
theorem dX12_last_80 : decode cX12_last 80 = .ok (.ireturn, 1) := by decide +kernel
theorem dX12_last_81 : decode cX12_last 81 = .ok (.iconst 0, 1) := by decide +kernel
theorem dX12_last_82 : decode cX12_last 82 = .ok (.istore 5, 2) := by decide +kernel
theorem dX12_last_84 : decode cX12_last 84 = .ok (.iload 4, 2) := by decide +kernel
theorem dX12_last_86 : decode cX12_last 86 = .ok (.istore 6, 2) := by decide +kernel
theorem dX12_last_88 : decode cX12_last 88 = .ok (.iload 5, 2) := by decide +kernel
theorem dX12_last_90 : decode cX12_last 90 = .ok (.iload 6, 2) := by decide +kernel
theorem dX12_last_92 : decode cX12_last 92 = .ok (.if_icmp .ge 44, 3) := by decide +kernel
theorem dX12_last_95 : decode cX12_last 95 = .ok (.iload 5, 2) := by decide +kernel
theorem dX12_last_97 : decode cX12_last 97 = .ok (.iload 6, 2) := by decide +kernel
theorem dX12_last_99 : decode cX12_last 99 = .ok (.iadd, 1) := by decide +kernel
theorem dX12_last_100 : decode cX12_last 100 = .ok (.iconst 1, 1) := by decide +kernel
theorem dX12_last_101 : decode cX12_last 101 = .ok (.iadd, 1) := by decide +kernel
theorem dX12_last_102 : decode cX12_last 102 = .ok (.iconst 2, 1) := by decide +kernel
theorem dX12_last_103 : decode cX12_last 103 = .ok (.idiv, 1) := by decide +kernel
theorem dX12_last_104 : decode cX12_last 104 = .ok (.istore 7, 2) := by decide +kernel
theorem dX12_last_106 : decode cX12_last 106 = .ok (.aload_n 0, 1) := by decide +kernel
theorem dX12_last_107 : decode cX12_last 107 = .ok (.iload_n 1, 1) := by decide +kernel
theorem dX12_last_108 : decode cX12_last 108 = .ok (.iload_n 2, 1) := by decide +kernel
theorem dX12_last_109 : decode cX12_last 109 = .ok (.iload_n 3, 1) := by decide +kernel
theorem dX12_last_110 : decode cX12_last 110 = .ok (.iload 7, 2) := by decide +kernel
theorem dX12_last_112 : decode cX12_last 112 = .ok (.invokevirtual 243, 3) := by decide +kernel
theorem dX12_last_115 : decode cX12_last 115 = .ok (.iload 4, 2) := by decide +kernel
theorem dX12_last_117 : decode cX12_last 117 = .ok (.if_icmp .gt 10, 3) := by decide +kernel
theorem dX12_last_120 : decode cX12_last 120 = .ok (.iload 7, 2) := by decide +kernel
theorem dX12_last_122 : decode cX12_last 122 = .ok (.istore 5, 2) := by decide +kernel
theorem dX12_last_124 : decode cX12_last 124 = .ok (.goto 9, 3) := by decide +kernel
theorem dX12_last_127 : decode cX12_last 127 = .ok (.iload 7, 2) := by decide +kernel
theorem dX12_last_129 : decode cX12_last 129 = .ok (.iconst 1, 1) := by decide +kernel
theorem dX12_last_130 : decode cX12_last 130 = .ok (.isub, 1) := by decide +kernel
theorem dX12_last_131 : decode cX12_last 131 = .ok (.istore 6, 2) := by decide +kernel
theorem dX12_last_133 : decode cX12_last 133 = .ok (.goto (-45), 3) := by decide +kernel
theorem dX12_last_136 : decode cX12_last 136 = .ok (.iload 5, 2) := by decide +kernel
theorem dX12_last_138 : decode cX12_last 138 = .ok (.ireturn, 1) := by decide +kernel
theorem dX12_onBoard_0 : decode cX12_onBoard 0 = .ok (.aload_n 0, 1) := by decide +kernel
theorem dX12_onBoard_1 : decode cX12_onBoard 1 = .ok (.iload_n 2, 1) := by decide +kernel
theorem dX12_onBoard_2 : decode cX12_onBoard 2 = .ok (.iload_n 3, 1) := by decide +kernel
theorem dX12_onBoard_3 : decode cX12_onBoard 3 = .ok (.invokevirtual 162, 3) := by decide +kernel
theorem dX12_onBoard_6 : decode cX12_onBoard 6 = .ok (.ifCond .ne 65, 3) := by decide +kernel
theorem dX12_onBoard_9 : decode cX12_onBoard 9 = .ok (.aload_n 0, 1) := by decide +kernel
theorem dX12_onBoard_10 : decode cX12_onBoard 10 = .ok (.iload 4, 2) := by decide +kernel
theorem dX12_onBoard_12 : decode cX12_onBoard 12 = .ok (.invokevirtual 147, 3) := by decide +kernel
theorem dX12_onBoard_15 : decode cX12_onBoard 15 = .ok (.ifCond .ne 56, 3) := by decide +kernel
theorem dX12_onBoard_18 : decode cX12_onBoard 18 = .ok (.aload_n 0, 1) := by decide +kernel
theorem dX12_onBoard_19 : decode cX12_onBoard 19 = .ok (.iload_n 1, 1) := by decide +kernel
theorem dX12_onBoard_20 : decode cX12_onBoard 20 = .ok (.iconst 2, 1) := by decide +kernel
theorem dX12_onBoard_21 : decode cX12_onBoard 21 = .ok (.invokevirtual 154, 3) := by decide +kernel
theorem dX12_onBoard_24 : decode cX12_onBoard 24 = .ok (.ifCond .ne 47, 3) := by decide +kernel
theorem dX12_onBoard_27 : decode cX12_onBoard 27 = .ok (.aload_n 0, 1) := by decide +kernel
theorem dX12_onBoard_28 : decode cX12_onBoard 28 = .ok (.aload_n 0, 1) := by decide +kernel
theorem dX12_onBoard_29 : decode cX12_onBoard 29 = .ok (.getfield 23, 3) := by decide +kernel
theorem dX12_onBoard_32 : decode cX12_onBoard 32 = .ok (.bipush 28, 2) := by decide +kernel
theorem dX12_onBoard_34 : decode cX12_onBoard 34 = .ok (.aload_n 0, 1) := by decide +kernel
theorem dX12_onBoard_35 : decode cX12_onBoard 35 = .ok (.getfield 27, 3) := by decide +kernel
theorem dX12_onBoard_38 : decode cX12_onBoard 38 = .ok (.iload_n 2, 1) := by decide +kernel
theorem dX12_onBoard_39 : decode cX12_onBoard 39 = .ok (.iaload, 1) := by decide +kernel
theorem dX12_onBoard_40 : decode cX12_onBoard 40 = .ok (.imul, 1) := by decide +kernel
theorem dX12_onBoard_41 : decode cX12_onBoard 41 = .ok (.iload_n 1, 1) := by decide +kernel
theorem dX12_onBoard_42 : decode cX12_onBoard 42 = .ok (.iadd, 1) := by decide +kernel
theorem dX12_onBoard_43 : decode cX12_onBoard 43 = .ok (.baload, 1) := by decide +kernel
theorem dX12_onBoard_44 : decode cX12_onBoard 44 = .ok (.ifCond .eq 15, 3) := by decide +kernel
theorem dX12_onBoard_47 : decode cX12_onBoard 47 = .ok (.iload_n 3, 1) := by decide +kernel
theorem dX12_onBoard_48 : decode cX12_onBoard 48 = .ok (.aload_n 0, 1) := by decide +kernel
theorem dX12_onBoard_49 : decode cX12_onBoard 49 = .ok (.getfield 30, 3) := by decide +kernel
theorem dX12_onBoard_52 : decode cX12_onBoard 52 = .ok (.iload_n 2, 1) := by decide +kernel
theorem dX12_onBoard_53 : decode cX12_onBoard 53 = .ok (.iaload, 1) := by decide +kernel
theorem dX12_onBoard_54 : decode cX12_onBoard 54 = .ok (.iconst 1, 1) := by decide +kernel
theorem dX12_onBoard_55 : decode cX12_onBoard 55 = .ok (.isub, 1) := by decide +kernel
theorem dX12_onBoard_56 : decode cX12_onBoard 56 = .ok (.if_icmp .ne 7, 3) := by decide +kernel
theorem dX12_onBoard_59 : decode cX12_onBoard 59 = .ok (.iconst 1, 1) := by decide +kernel
theorem dX12_onBoard_60 : decode cX12_onBoard 60 = .ok (.goto 4, 3) := by decide +kernel
theorem dX12_onBoard_63 : decode cX12_onBoard 63 = .ok (.iconst 0, 1) := by decide +kernel
theorem dX12_onBoard_64 : decode cX12_onBoard 64 = .ok (.iconst 3, 1) := by decide +kernel
theorem dX12_onBoard_65 : decode cX12_onBoard 65 = .ok (.invokevirtual 130, 3) := by decide +kernel
theorem dX12_onBoard_68 : decode cX12_onBoard 68 = .ok (.ifCond .eq 5, 3) := by decide +kernel
theorem dX12_onBoard_71 : decode cX12_onBoard 71 = .ok (.iconst 0, 1) := by decide +kernel
theorem dX12_onBoard_72 : decode cX12_onBoard 72 = .ok (.ireturn, 1) := by decide +kernel
theorem dX12_onBoard_73 : decode cX12_onBoard 73 = .ok (.aload_n 0, 1) := by decide +kernel
theorem dX12_onBoard_74 : decode cX12_onBoard 74 = .ok (.iload_n 1, 1) := by decide +kernel
theorem dX12_onBoard_75 : decode cX12_onBoard 75 = .ok (.putfield 198, 3) := by decide +kernel
theorem dX12_onBoard_78 : decode cX12_onBoard 78 = .ok (.aload_n 0, 1) := by decide +kernel
theorem dX12_onBoard_79 : decode cX12_onBoard 79 = .ok (.invokevirtual 201, 3) := by decide +kernel
theorem dX12_onBoard_82 : decode cX12_onBoard 82 = .ok (.iload_n 3, 1) := by decide +kernel
theorem dX12_onBoard_83 : decode cX12_onBoard 83 = .ok (.iconst 1, 1) := by decide +kernel
theorem dX12_onBoard_84 : decode cX12_onBoard 84 = .ok (.iadd, 1) := by decide +kernel
theorem dX12_onBoard_85 : decode cX12_onBoard 85 = .ok (.istore 5, 2) := by decide +kernel
theorem dX12_onBoard_87 : decode cX12_onBoard 87 = .ok (.iload 5, 2) := by decide +kernel
theorem dX12_onBoard_89 : decode cX12_onBoard 89 = .ok (.aload_n 0, 1) := by decide +kernel
theorem dX12_onBoard_90 : decode cX12_onBoard 90 = .ok (.getfield 30, 3) := by decide +kernel
theorem dX12_onBoard_93 : decode cX12_onBoard 93 = .ok (.iload_n 2, 1) := by decide +kernel
theorem dX12_onBoard_94 : decode cX12_onBoard 94 = .ok (.iaload, 1) := by decide +kernel
theorem dX12_onBoard_95 : decode cX12_onBoard 95 = .ok (.if_icmp .ge 33, 3) := by decide +kernel
theorem dX12_onBoard_98 : decode cX12_onBoard 98 = .ok (.aload_n 0, 1) := by decide +kernel
theorem dX12_onBoard_99 : decode cX12_onBoard 99 = .ok (.aload_n 0, 1) := by decide +kernel
theorem dX12_onBoard_100 : decode cX12_onBoard 100 = .ok (.bipush 24, 2) := by decide +kernel
theorem dX12_onBoard_102 : decode cX12_onBoard 102 = .ok (.iload_n 2, 1) := by decide +kernel
theorem dX12_onBoard_103 : decode cX12_onBoard 103 = .ok (.iadd, 1) := by decide +kernel
theorem dX12_onBoard_104 : decode cX12_onBoard 104 = .ok (.iload 5, 2) := by decide +kernel
theorem dX12_onBoard_106 : decode cX12_onBoard 106 = .ok (.invokevirtual 214, 3) := by decide +kernel
theorem dX12_onBoard_109 : decode cX12_onBoard 109 = .ok (.aload_n 0, 1) := by decide +kernel
theorem dX12_onBoard_110 : decode cX12_onBoard 110 = .ok (.bipush 24, 2) := by decide +kernel
theorem dX12_onBoard_112 : decode cX12_onBoard 112 = .ok (.iload_n 2, 1) := by decide +kernel
theorem dX12_onBoard_113 : decode cX12_onBoard 113 = .ok (.iadd, 1) := by decide +kernel
theorem dX12_onBoard_114 : decode cX12_onBoard 114 = .ok (.iload 5, 2) := by decide +kernel
theorem dX12_onBoard_116 : decode cX12_onBoard 116 = .ok (.invokevirtual 217, 3) := by decide +kernel
theorem dX12_onBoard_119 : decode cX12_onBoard 119 = .ok (.invokevirtual 220, 3) := by decide +kernel
theorem dX12_onBoard_122 : decode cX12_onBoard 122 = .ok (.iinc 5 1, 3) := by decide +kernel
theorem dX12_onBoard_125 : decode cX12_onBoard 125 = .ok (.goto (-38), 3) := by decide +kernel
theorem dX12_onBoard_128 : decode cX12_onBoard 128 = .ok (.aload_n 0, 1) := by decide +kernel
theorem dX12_onBoard_129 : decode cX12_onBoard 129 = .ok (.invokevirtual 232, 3) := by decide +kernel
theorem dX12_onBoard_132 : decode cX12_onBoard 132 = .ok (.aload_n 0, 1) := by decide +kernel
theorem dX12_onBoard_133 : decode cX12_onBoard 133 = .ok (.aload_n 0, 1) := by decide +kernel
theorem dX12_onBoard_134 : decode cX12_onBoard 134 = .ok (.iload 4, 2) := by decide +kernel
theorem dX12_onBoard_136 : decode cX12_onBoard 136 = .ok (.invokevirtual 235, 3) := by decide +kernel
theorem dX12_onBoard_139 : decode cX12_onBoard 139 = .ok (.ldc 150, 2) := by decide +kernel
theorem dX12_onBoard_141 : decode cX12_onBoard 141 = .ok (.if_icmp .lt 7, 3) := by decide +kernel
theorem dX12_onBoard_144 : decode cX12_onBoard 144 = .ok (.iconst 1, 1) := by decide +kernel
theorem dX12_onBoard_145 : decode cX12_onBoard 145 = .ok (.goto 4, 3) := by decide +kernel
theorem dX12_onBoard_148 : decode cX12_onBoard 148 = .ok (.iconst 0, 1) := by decide +kernel
theorem dX12_onBoard_149 : decode cX12_onBoard 149 = .ok (.iconst 4, 1) := by decide +kernel
theorem dX12_onBoard_150 : decode cX12_onBoard 150 = .ok (.invokevirtual 130, 3) := by decide +kernel
theorem dX12_onBoard_153 : decode cX12_onBoard 153 = .ok (.ifCond .eq 7, 3) := by decide +kernel
theorem dX12_onBoard_156 : decode cX12_onBoard 156 = .ok (.iconst 0, 1) := by decide +kernel
theorem dX12_onBoard_157 : decode cX12_onBoard 157 = .ok (.goto 9, 3) := by decide +kernel
theorem dX12_onBoard_160 : decode cX12_onBoard 160 = .ok (.aload_n 0, 1) := by decide +kernel
theorem dX12_onBoard_161 : decode cX12_onBoard 161 = .ok (.iload 4, 2) := by decide +kernel
theorem dX12_onBoard_163 : decode cX12_onBoard 163 = .ok (.invokevirtual 235, 3) := by decide +kernel
theorem dX12_onBoard_166 : decode cX12_onBoard 166 = .ok (.ireturn, 1) := by decide +kernel
theorem dX12_keepRound_0 : decode cX12_keepRound 0 = .ok (.iconst 0, 1) := by decide +kernel
theorem dX12_keepRound_1 : decode cX12_keepRound 1 = .ok (.istore_n 1, 1) := by decide +kernel
theorem dX12_keepRound_2 : decode cX12_keepRound 2 = .ok (.iload_n 1, 1) := by decide +kernel
theorem dX12_keepRound_3 : decode cX12_keepRound 3 = .ok (.bipush 12, 2) := by decide +kernel
theorem dX12_keepRound_5 : decode cX12_keepRound 5 = .ok (.if_icmp .ge 49, 3) := by decide +kernel
theorem dX12_keepRound_8 : decode cX12_keepRound 8 = .ok (.aload_n 0, 1) := by decide +kernel
theorem dX12_keepRound_9 : decode cX12_keepRound 9 = .ok (.getfield 66, 3) := by decide +kernel
theorem dX12_keepRound_12 : decode cX12_keepRound 12 = .ok (.bipush 12, 2) := by decide +kernel
theorem dX12_keepRound_14 : decode cX12_keepRound 14 = .ok (.aload_n 0, 1) := by decide +kernel
theorem dX12_keepRound_15 : decode cX12_keepRound 15 = .ok (.getfield 250, 3) := by decide +kernel
theorem dX12_keepRound_18 : decode cX12_keepRound 18 = .ok (.imul, 1) := by decide +kernel
theorem dX12_keepRound_19 : decode cX12_keepRound 19 = .ok (.iload_n 1, 1) := by decide +kernel
theorem dX12_keepRound_20 : decode cX12_keepRound 20 = .ok (.iadd, 1) := by decide +kernel
theorem dX12_keepRound_21 : decode cX12_keepRound 21 = .ok (.aload_n 0, 1) := by decide +kernel
theorem dX12_keepRound_22 : decode cX12_keepRound 22 = .ok (.getfield 60, 3) := by decide +kernel
theorem dX12_keepRound_25 : decode cX12_keepRound 25 = .ok (.iload_n 1, 1) := by decide +kernel
theorem dX12_keepRound_26 : decode cX12_keepRound 26 = .ok (.iaload, 1) := by decide +kernel
theorem dX12_keepRound_27 : decode cX12_keepRound 27 = .ok (.iastore, 1) := by decide +kernel
theorem dX12_keepRound_28 : decode cX12_keepRound 28 = .ok (.aload_n 0, 1) := by decide +kernel
theorem dX12_keepRound_29 : decode cX12_keepRound 29 = .ok (.getfield 69, 3) := by decide +kernel
theorem dX12_keepRound_32 : decode cX12_keepRound 32 = .ok (.bipush 12, 2) := by decide +kernel
theorem dX12_keepRound_34 : decode cX12_keepRound 34 = .ok (.aload_n 0, 1) := by decide +kernel
theorem dX12_keepRound_35 : decode cX12_keepRound 35 = .ok (.getfield 250, 3) := by decide +kernel
theorem dX12_keepRound_38 : decode cX12_keepRound 38 = .ok (.imul, 1) := by decide +kernel
theorem dX12_keepRound_39 : decode cX12_keepRound 39 = .ok (.iload_n 1, 1) := by decide +kernel
theorem dX12_keepRound_40 : decode cX12_keepRound 40 = .ok (.iadd, 1) := by decide +kernel
theorem dX12_keepRound_41 : decode cX12_keepRound 41 = .ok (.aload_n 0, 1) := by decide +kernel
theorem dX12_keepRound_42 : decode cX12_keepRound 42 = .ok (.getfield 63, 3) := by decide +kernel
theorem dX12_keepRound_45 : decode cX12_keepRound 45 = .ok (.iload_n 1, 1) := by decide +kernel
theorem dX12_keepRound_46 : decode cX12_keepRound 46 = .ok (.iaload, 1) := by decide +kernel
theorem dX12_keepRound_47 : decode cX12_keepRound 47 = .ok (.iastore, 1) := by decide +kernel
theorem dX12_keepRound_48 : decode cX12_keepRound 48 = .ok (.iinc 1 1, 3) := by decide +kernel
theorem dX12_keepRound_51 : decode cX12_keepRound 51 = .ok (.goto (-49), 3) := by decide +kernel
theorem dX12_keepRound_54 : decode cX12_keepRound 54 = .ok (.aload_n 0, 1) := by decide +kernel
theorem dX12_keepRound_55 : decode cX12_keepRound 55 = .ok (.dup, 1) := by decide +kernel
theorem dX12_keepRound_56 : decode cX12_keepRound 56 = .ok (.getfield 250, 3) := by decide +kernel
theorem dX12_keepRound_59 : decode cX12_keepRound 59 = .ok (.iconst 1, 1) := by decide +kernel
theorem dX12_keepRound_60 : decode cX12_keepRound 60 = .ok (.iadd, 1) := by decide +kernel
theorem dX12_keepRound_61 : decode cX12_keepRound 61 = .ok (.putfield 250, 3) := by decide +kernel
theorem dX12_keepRound_64 : decode cX12_keepRound 64 = .ok (.return_, 1) := by decide +kernel
theorem dX12_getsOnBy_0 : decode cX12_getsOnBy 0 = .ok (.iload_n 3, 1) := by decide +kernel
theorem dX12_getsOnBy_1 : decode cX12_getsOnBy 1 = .ok (.ifCond .lt 44, 3) := by decide +kernel
theorem dX12_getsOnBy_4 : decode cX12_getsOnBy 4 = .ok (.aload_n 0, 1) := by decide +kernel
theorem dX12_getsOnBy_5 : decode cX12_getsOnBy 5 = .ok (.getfield 66, 3) := by decide +kernel
theorem dX12_getsOnBy_8 : decode cX12_getsOnBy 8 = .ok (.bipush 12, 2) := by decide +kernel
theorem dX12_getsOnBy_10 : decode cX12_getsOnBy 10 = .ok (.iload_n 1, 1) := by decide +kernel
theorem dX12_getsOnBy_11 : decode cX12_getsOnBy 11 = .ok (.imul, 1) := by decide +kernel
theorem dX12_getsOnBy_12 : decode cX12_getsOnBy 12 = .ok (.iload_n 2, 1) := by decide +kernel
theorem dX12_getsOnBy_13 : decode cX12_getsOnBy 13 = .ok (.iadd, 1) := by decide +kernel
theorem dX12_getsOnBy_14 : decode cX12_getsOnBy 14 = .ok (.iaload, 1) := by decide +kernel
theorem dX12_getsOnBy_15 : decode cX12_getsOnBy 15 = .ok (.iload_n 3, 1) := by decide +kernel
theorem dX12_getsOnBy_16 : decode cX12_getsOnBy 16 = .ok (.if_icmp .le 25, 3) := by decide +kernel
theorem dX12_getsOnBy_19 : decode cX12_getsOnBy 19 = .ok (.aload_n 0, 1) := by decide +kernel
theorem dX12_getsOnBy_20 : decode cX12_getsOnBy 20 = .ok (.getfield 69, 3) := by decide +kernel
theorem dX12_getsOnBy_23 : decode cX12_getsOnBy 23 = .ok (.bipush 12, 2) := by decide +kernel
theorem dX12_getsOnBy_25 : decode cX12_getsOnBy 25 = .ok (.iload_n 1, 1) := by decide +kernel
theorem dX12_getsOnBy_26 : decode cX12_getsOnBy 26 = .ok (.imul, 1) := by decide +kernel
theorem dX12_getsOnBy_27 : decode cX12_getsOnBy 27 = .ok (.iload_n 2, 1) := by decide +kernel
theorem dX12_getsOnBy_28 : decode cX12_getsOnBy 28 = .ok (.iadd, 1) := by decide +kernel
theorem dX12_getsOnBy_29 : decode cX12_getsOnBy 29 = .ok (.iaload, 1) := by decide +kernel
theorem dX12_getsOnBy_30 : decode cX12_getsOnBy 30 = .ok (.aload_n 0, 1) := by decide +kernel
theorem dX12_getsOnBy_31 : decode cX12_getsOnBy 31 = .ok (.getfield 9, 3) := by decide +kernel
theorem dX12_getsOnBy_34 : decode cX12_getsOnBy 34 = .ok (.iload_n 2, 1) := by decide +kernel
theorem dX12_getsOnBy_35 : decode cX12_getsOnBy 35 = .ok (.iaload, 1) := by decide +kernel
theorem dX12_getsOnBy_36 : decode cX12_getsOnBy 36 = .ok (.iadd, 1) := by decide +kernel
theorem dX12_getsOnBy_37 : decode cX12_getsOnBy 37 = .ok (.iload_n 3, 1) := by decide +kernel
theorem dX12_getsOnBy_38 : decode cX12_getsOnBy 38 = .ok (.if_icmp .gt 7, 3) := by decide +kernel
theorem dX12_getsOnBy_41 : decode cX12_getsOnBy 41 = .ok (.iconst 1, 1) := by decide +kernel
theorem dX12_getsOnBy_42 : decode cX12_getsOnBy 42 = .ok (.goto 4, 3) := by decide +kernel
theorem dX12_getsOnBy_45 : decode cX12_getsOnBy 45 = .ok (.iconst 0, 1) := by decide +kernel
theorem dX12_getsOnBy_46 : decode cX12_getsOnBy 46 = .ok (.ireturn, 1) := by decide +kernel
theorem dX12_tellRounds_0 : decode cX12_tellRounds 0 = .ok (.aload_n 0, 1) := by decide +kernel
theorem dX12_tellRounds_1 : decode cX12_tellRounds 1 = .ok (.iload_n 2, 1) := by decide +kernel
theorem dX12_tellRounds_2 : decode cX12_tellRounds 2 = .ok (.putfield 198, 3) := by decide +kernel
theorem dX12_tellRounds_5 : decode cX12_tellRounds 5 = .ok (.aload_n 0, 1) := by decide +kernel
theorem dX12_tellRounds_6 : decode cX12_tellRounds 6 = .ok (.iload_n 1, 1) := by decide +kernel
theorem dX12_tellRounds_7 : decode cX12_tellRounds 7 = .ok (.iload_n 3, 1) := by decide +kernel
theorem dX12_tellRounds_8 : decode cX12_tellRounds 8 = .ok (.invokevirtual 229, 3) := by decide +kernel
theorem dX12_tellRounds_11 : decode cX12_tellRounds 11 = .ok (.aload_n 0, 1) := by decide +kernel
theorem dX12_tellRounds_12 : decode cX12_tellRounds 12 = .ok (.iconst 0, 1) := by decide +kernel
theorem dX12_tellRounds_13 : decode cX12_tellRounds 13 = .ok (.putfield 250, 3) := by decide +kernel
theorem dX12_tellRounds_16 : decode cX12_tellRounds 16 = .ok (.aload_n 0, 1) := by decide +kernel
theorem dX12_tellRounds_17 : decode cX12_tellRounds 17 = .ok (.invokevirtual 253, 3) := by decide +kernel
theorem dX12_tellRounds_20 : decode cX12_tellRounds 20 = .ok (.aload_n 0, 1) := by decide +kernel
theorem dX12_tellRounds_21 : decode cX12_tellRounds 21 = .ok (.iconst 1, 1) := by decide +kernel
theorem dX12_tellRounds_22 : decode cX12_tellRounds 22 = .ok (.putfield 204, 3) := by decide +kernel
theorem dX12_tellRounds_25 : decode cX12_tellRounds 25 = .ok (.aload_n 0, 1) := by decide +kernel
theorem dX12_tellRounds_26 : decode cX12_tellRounds 26 = .ok (.getfield 204, 3) := by decide +kernel
theorem dX12_tellRounds_29 : decode cX12_tellRounds 29 = .ok (.ifCond .eq 142, 3) := by decide +kernel
theorem dX12_tellRounds_32 : decode cX12_tellRounds 32 = .ok (.aload_n 0, 1) := by decide +kernel
theorem dX12_tellRounds_33 : decode cX12_tellRounds 33 = .ok (.getfield 250, 3) := by decide +kernel
theorem dX12_tellRounds_36 : decode cX12_tellRounds 36 = .ok (.bipush 74, 2) := by decide +kernel
theorem dX12_tellRounds_38 : decode cX12_tellRounds 38 = .ok (.if_icmp .ge 133, 3) := by decide +kernel
theorem dX12_tellRounds_41 : decode cX12_tellRounds 41 = .ok (.aload_n 0, 1) := by decide +kernel
theorem dX12_tellRounds_42 : decode cX12_tellRounds 42 = .ok (.iconst 0, 1) := by decide +kernel
theorem dX12_tellRounds_43 : decode cX12_tellRounds 43 = .ok (.putfield 204, 3) := by decide +kernel
theorem dX12_tellRounds_46 : decode cX12_tellRounds 46 = .ok (.iconst 0, 1) := by decide +kernel
theorem dX12_tellRounds_47 : decode cX12_tellRounds 47 = .ok (.istore 4, 2) := by decide +kernel
theorem dX12_tellRounds_49 : decode cX12_tellRounds 49 = .ok (.iload 4, 2) := by decide +kernel
theorem dX12_tellRounds_51 : decode cX12_tellRounds 51 = .ok (.bipush 72, 2) := by decide +kernel
theorem dX12_tellRounds_53 : decode cX12_tellRounds 53 = .ok (.if_icmp .ge 111, 3) := by decide +kernel
theorem dX12_tellRounds_56 : decode cX12_tellRounds 56 = .ok (.iconst 0, 1) := by decide +kernel
theorem dX12_tellRounds_57 : decode cX12_tellRounds 57 = .ok (.istore 5, 2) := by decide +kernel
theorem dX12_tellRounds_59 : decode cX12_tellRounds 59 = .ok (.iconst 0, 1) := by decide +kernel
theorem dX12_tellRounds_60 : decode cX12_tellRounds 60 = .ok (.istore 6, 2) := by decide +kernel
theorem dX12_tellRounds_62 : decode cX12_tellRounds 62 = .ok (.aload_n 0, 1) := by decide +kernel
theorem dX12_tellRounds_63 : decode cX12_tellRounds 63 = .ok (.iload 4, 2) := by decide +kernel
theorem dX12_tellRounds_65 : decode cX12_tellRounds 65 = .ok (.invokevirtual 208, 3) := by decide +kernel
theorem dX12_tellRounds_68 : decode cX12_tellRounds 68 = .ok (.ifCond .eq 90, 3) := by decide +kernel
theorem dX12_tellRounds_71 : decode cX12_tellRounds 71 = .ok (.iload 6, 2) := by decide +kernel
theorem dX12_tellRounds_73 : decode cX12_tellRounds 73 = .ok (.aload_n 0, 1) := by decide +kernel
theorem dX12_tellRounds_74 : decode cX12_tellRounds 74 = .ok (.getfield 30, 3) := by decide +kernel
theorem dX12_tellRounds_77 : decode cX12_tellRounds 77 = .ok (.iload 4, 2) := by decide +kernel
theorem dX12_tellRounds_79 : decode cX12_tellRounds 79 = .ok (.bipush 24, 2) := by decide +kernel
theorem dX12_tellRounds_81 : decode cX12_tellRounds 81 = .ok (.irem, 1) := by decide +kernel
theorem dX12_tellRounds_82 : decode cX12_tellRounds 82 = .ok (.iaload, 1) := by decide +kernel
theorem dX12_tellRounds_83 : decode cX12_tellRounds 83 = .ok (.if_icmp .ge 75, 3) := by decide +kernel
theorem dX12_tellRounds_86 : decode cX12_tellRounds 86 = .ok (.iload 5, 2) := by decide +kernel
theorem dX12_tellRounds_88 : decode cX12_tellRounds 88 = .ok (.ifCond .eq 23, 3) := by decide +kernel
theorem dX12_tellRounds_91 : decode cX12_tellRounds 91 = .ok (.aload_n 0, 1) := by decide +kernel
theorem dX12_tellRounds_92 : decode cX12_tellRounds 92 = .ok (.aload_n 0, 1) := by decide +kernel
theorem dX12_tellRounds_93 : decode cX12_tellRounds 93 = .ok (.iload 4, 2) := by decide +kernel
theorem dX12_tellRounds_95 : decode cX12_tellRounds 95 = .ok (.iload 6, 2) := by decide +kernel
theorem dX12_tellRounds_97 : decode cX12_tellRounds 97 = .ok (.invokevirtual 214, 3) := by decide +kernel
theorem dX12_tellRounds_100 : decode cX12_tellRounds 100 = .ok (.aload_n 0, 1) := by decide +kernel
theorem dX12_tellRounds_101 : decode cX12_tellRounds 101 = .ok (.iload 4, 2) := by decide +kernel
theorem dX12_tellRounds_103 : decode cX12_tellRounds 103 = .ok (.iload 6, 2) := by decide +kernel
theorem dX12_tellRounds_105 : decode cX12_tellRounds 105 = .ok (.invokevirtual 217, 3) := by decide +kernel
theorem dX12_tellRounds_108 : decode cX12_tellRounds 108 = .ok (.invokevirtual 220, 3) := by decide +kernel
theorem dX12_tellRounds_111 : decode cX12_tellRounds 111 = .ok (.iload 5, 2) := by decide +kernel
theorem dX12_tellRounds_113 : decode cX12_tellRounds 113 = .ok (.ifCond .ne 32, 3) := by decide +kernel
theorem dX12_tellRounds_116 : decode cX12_tellRounds 116 = .ok (.aload_n 0, 1) := by decide +kernel
theorem dX12_tellRounds_117 : decode cX12_tellRounds 117 = .ok (.aload_n 0, 1) := by decide +kernel
theorem dX12_tellRounds_118 : decode cX12_tellRounds 118 = .ok (.getfield 250, 3) := by decide +kernel
theorem dX12_tellRounds_121 : decode cX12_tellRounds 121 = .ok (.iconst 1, 1) := by decide +kernel
theorem dX12_tellRounds_122 : decode cX12_tellRounds 122 = .ok (.isub, 1) := by decide +kernel
theorem dX12_tellRounds_123 : decode cX12_tellRounds 123 = .ok (.aload_n 0, 1) := by decide +kernel
theorem dX12_tellRounds_124 : decode cX12_tellRounds 124 = .ok (.iload 4, 2) := by decide +kernel
theorem dX12_tellRounds_126 : decode cX12_tellRounds 126 = .ok (.iload 6, 2) := by decide +kernel
theorem dX12_tellRounds_128 : decode cX12_tellRounds 128 = .ok (.invokevirtual 214, 3) := by decide +kernel
theorem dX12_tellRounds_131 : decode cX12_tellRounds 131 = .ok (.aload_n 0, 1) := by decide +kernel
theorem dX12_tellRounds_132 : decode cX12_tellRounds 132 = .ok (.iload 4, 2) := by decide +kernel
theorem dX12_tellRounds_134 : decode cX12_tellRounds 134 = .ok (.iload 6, 2) := by decide +kernel
theorem dX12_tellRounds_136 : decode cX12_tellRounds 136 = .ok (.invokevirtual 223, 3) := by decide +kernel
theorem dX12_tellRounds_139 : decode cX12_tellRounds 139 = .ok (.invokevirtual 256, 3) := by decide +kernel
theorem dX12_tellRounds_142 : decode cX12_tellRounds 142 = .ok (.ifCond .eq 7, 3) := by decide +kernel
theorem dX12_tellRounds_145 : decode cX12_tellRounds 145 = .ok (.iconst 1, 1) := by decide +kernel
theorem dX12_tellRounds_146 : decode cX12_tellRounds 146 = .ok (.goto 4, 3) := by decide +kernel
theorem dX12_tellRounds_149 : decode cX12_tellRounds 149 = .ok (.iconst 0, 1) := by decide +kernel
theorem dX12_tellRounds_150 : decode cX12_tellRounds 150 = .ok (.istore 5, 2) := by decide +kernel
theorem dX12_tellRounds_152 : decode cX12_tellRounds 152 = .ok (.iinc 6 1, 3) := by decide +kernel
theorem dX12_tellRounds_155 : decode cX12_tellRounds 155 = .ok (.goto (-93), 3) := by decide +kernel
theorem dX12_tellRounds_158 : decode cX12_tellRounds 158 = .ok (.iinc 4 1, 3) := by decide +kernel
theorem dX12_tellRounds_161 : decode cX12_tellRounds 161 = .ok (.goto (-112), 3) := by decide +kernel
theorem dX12_tellRounds_164 : decode cX12_tellRounds 164 = .ok (.aload_n 0, 1) := by decide +kernel
theorem dX12_tellRounds_165 : decode cX12_tellRounds 165 = .ok (.invokevirtual 253, 3) := by decide +kernel
theorem dX12_tellRounds_168 : decode cX12_tellRounds 168 = .ok (.goto (-143), 3) := by decide +kernel
theorem dX12_tellRounds_171 : decode cX12_tellRounds 171 = .ok (.return_, 1) := by decide +kernel
theorem dX12_atBy_0 : decode cX12_atBy 0 = .ok (.aload_n 0, 1) := by decide +kernel
theorem dX12_atBy_1 : decode cX12_atBy 1 = .ok (.getfield 66, 3) := by decide +kernel
theorem dX12_atBy_4 : decode cX12_atBy 4 = .ok (.bipush 12, 2) := by decide +kernel
theorem dX12_atBy_6 : decode cX12_atBy 6 = .ok (.iload_n 1, 1) := by decide +kernel
theorem dX12_atBy_7 : decode cX12_atBy 7 = .ok (.imul, 1) := by decide +kernel
theorem dX12_atBy_8 : decode cX12_atBy 8 = .ok (.iload_n 2, 1) := by decide +kernel
theorem dX12_atBy_9 : decode cX12_atBy 9 = .ok (.iadd, 1) := by decide +kernel
theorem dX12_atBy_10 : decode cX12_atBy 10 = .ok (.iaload, 1) := by decide +kernel
theorem dX12_atBy_11 : decode cX12_atBy 11 = .ok (.istore_n 3, 1) := by decide +kernel
theorem dX12_atBy_12 : decode cX12_atBy 12 = .ok (.aload_n 0, 1) := by decide +kernel
theorem dX12_atBy_13 : decode cX12_atBy 13 = .ok (.getfield 69, 3) := by decide +kernel
theorem dX12_atBy_16 : decode cX12_atBy 16 = .ok (.bipush 12, 2) := by decide +kernel
theorem dX12_atBy_18 : decode cX12_atBy 18 = .ok (.iload_n 1, 1) := by decide +kernel
theorem dX12_atBy_19 : decode cX12_atBy 19 = .ok (.imul, 1) := by decide +kernel
theorem dX12_atBy_20 : decode cX12_atBy 20 = .ok (.iload_n 2, 1) := by decide +kernel
theorem dX12_atBy_21 : decode cX12_atBy 21 = .ok (.iadd, 1) := by decide +kernel
theorem dX12_atBy_22 : decode cX12_atBy 22 = .ok (.iaload, 1) := by decide +kernel
theorem dX12_atBy_23 : decode cX12_atBy 23 = .ok (.istore 4, 2) := by decide +kernel
theorem dX12_atBy_25 : decode cX12_atBy 25 = .ok (.iload_n 3, 1) := by decide +kernel
theorem dX12_atBy_26 : decode cX12_atBy 26 = .ok (.iload 4, 2) := by decide +kernel
theorem dX12_atBy_28 : decode cX12_atBy 28 = .ok (.if_icmp .ge 7, 3) := by decide +kernel
theorem dX12_atBy_31 : decode cX12_atBy 31 = .ok (.iload_n 3, 1) := by decide +kernel
theorem dX12_atBy_32 : decode cX12_atBy 32 = .ok (.goto 5, 3) := by decide +kernel
theorem dX12_atBy_35 : decode cX12_atBy 35 = .ok (.iload 4, 2) := by decide +kernel
theorem dX12_atBy_37 : decode cX12_atBy 37 = .ok (.ireturn, 1) := by decide +kernel
theorem dX12_choicesOf_0 : decode cX12_choicesOf 0 = .ok (.iconst 0, 1) := by decide +kernel
theorem dX12_choicesOf_1 : decode cX12_choicesOf 1 = .ok (.istore_n 3, 1) := by decide +kernel
theorem dX12_choicesOf_2 : decode cX12_choicesOf 2 = .ok (.ldc 150, 2) := by decide +kernel
theorem dX12_choicesOf_4 : decode cX12_choicesOf 4 = .ok (.istore 4, 2) := by decide +kernel
theorem dX12_choicesOf_6 : decode cX12_choicesOf 6 = .ok (.iconst 0, 1) := by decide +kernel
theorem dX12_choicesOf_7 : decode cX12_choicesOf 7 = .ok (.istore 5, 2) := by decide +kernel
theorem dX12_choicesOf_9 : decode cX12_choicesOf 9 = .ok (.iload 5, 2) := by decide +kernel
theorem dX12_choicesOf_11 : decode cX12_choicesOf 11 = .ok (.aload_n 0, 1) := by decide +kernel
theorem dX12_choicesOf_12 : decode cX12_choicesOf 12 = .ok (.getfield 250, 3) := by decide +kernel
theorem dX12_choicesOf_15 : decode cX12_choicesOf 15 = .ok (.if_icmp .ge 49, 3) := by decide +kernel
theorem dX12_choicesOf_18 : decode cX12_choicesOf 18 = .ok (.aload_n 0, 1) := by decide +kernel
theorem dX12_choicesOf_19 : decode cX12_choicesOf 19 = .ok (.iload 5, 2) := by decide +kernel
theorem dX12_choicesOf_21 : decode cX12_choicesOf 21 = .ok (.iload_n 1, 1) := by decide +kernel
theorem dX12_choicesOf_22 : decode cX12_choicesOf 22 = .ok (.invokevirtual 259, 3) := by decide +kernel
theorem dX12_choicesOf_25 : decode cX12_choicesOf 25 = .ok (.istore 6, 2) := by decide +kernel
theorem dX12_choicesOf_27 : decode cX12_choicesOf 27 = .ok (.iload 6, 2) := by decide +kernel
theorem dX12_choicesOf_29 : decode cX12_choicesOf 29 = .ok (.iload 4, 2) := by decide +kernel
theorem dX12_choicesOf_31 : decode cX12_choicesOf 31 = .ok (.if_icmp .ge 27, 3) := by decide +kernel
theorem dX12_choicesOf_34 : decode cX12_choicesOf 34 = .ok (.iload_n 3, 1) := by decide +kernel
theorem dX12_choicesOf_35 : decode cX12_choicesOf 35 = .ok (.iload_n 2, 1) := by decide +kernel
theorem dX12_choicesOf_36 : decode cX12_choicesOf 36 = .ok (.if_icmp .ne 15, 3) := by decide +kernel
theorem dX12_choicesOf_39 : decode cX12_choicesOf 39 = .ok (.aload_n 0, 1) := by decide +kernel
theorem dX12_choicesOf_40 : decode cX12_choicesOf 40 = .ok (.iload 5, 2) := by decide +kernel
theorem dX12_choicesOf_42 : decode cX12_choicesOf 42 = .ok (.putfield 262, 3) := by decide +kernel
theorem dX12_choicesOf_45 : decode cX12_choicesOf 45 = .ok (.aload_n 0, 1) := by decide +kernel
theorem dX12_choicesOf_46 : decode cX12_choicesOf 46 = .ok (.iload 6, 2) := by decide +kernel
theorem dX12_choicesOf_48 : decode cX12_choicesOf 48 = .ok (.putfield 265, 3) := by decide +kernel
theorem dX12_choicesOf_51 : decode cX12_choicesOf 51 = .ok (.iload 6, 2) := by decide +kernel
theorem dX12_choicesOf_53 : decode cX12_choicesOf 53 = .ok (.istore 4, 2) := by decide +kernel
theorem dX12_choicesOf_55 : decode cX12_choicesOf 55 = .ok (.iinc 3 1, 3) := by decide +kernel
theorem dX12_choicesOf_58 : decode cX12_choicesOf 58 = .ok (.iinc 5 1, 3) := by decide +kernel
theorem dX12_choicesOf_61 : decode cX12_choicesOf 61 = .ok (.goto (-52), 3) := by decide +kernel
theorem dX12_choicesOf_64 : decode cX12_choicesOf 64 = .ok (.iload_n 3, 1) := by decide +kernel
theorem dX12_choicesOf_65 : decode cX12_choicesOf 65 = .ok (.ireturn, 1) := by decide +kernel
theorem dX12_choices_0 : decode cX12_choices 0 = .ok (.aload_n 0, 1) := by decide +kernel
theorem dX12_choices_1 : decode cX12_choices 1 = .ok (.iload_n 1, 1) := by decide +kernel
theorem dX12_choices_2 : decode cX12_choices 2 = .ok (.iload_n 2, 1) := by decide +kernel
theorem dX12_choices_3 : decode cX12_choices 3 = .ok (.iload_n 3, 1) := by decide +kernel
theorem dX12_choices_4 : decode cX12_choices 4 = .ok (.iload 4, 2) := by decide +kernel
theorem dX12_choices_6 : decode cX12_choices 6 = .ok (.invokevirtual 239, 3) := by decide +kernel
theorem dX12_choices_9 : decode cX12_choices 9 = .ok (.ifCond .eq 5, 3) := by decide +kernel
theorem dX12_choices_12 : decode cX12_choices 12 = .ok (.iconst 0, 1) := by decide +kernel
theorem dX12_choices_13 : decode cX12_choices 13 = .ok (.ireturn, 1) := by decide +kernel
theorem dX12_choices_14 : decode cX12_choices 14 = .ok (.aload_n 0, 1) := by decide +kernel
theorem dX12_choices_15 : decode cX12_choices 15 = .ok (.iload_n 1, 1) := by decide +kernel
theorem dX12_choices_16 : decode cX12_choices 16 = .ok (.iload_n 3, 1) := by decide +kernel
theorem dX12_choices_17 : decode cX12_choices 17 = .ok (.iload 4, 2) := by decide +kernel
theorem dX12_choices_19 : decode cX12_choices 19 = .ok (.invokevirtual 268, 3) := by decide +kernel
theorem dX12_choices_22 : decode cX12_choices 22 = .ok (.aload_n 0, 1) := by decide +kernel
theorem dX12_choices_23 : decode cX12_choices 23 = .ok (.iload_n 2, 1) := by decide +kernel
theorem dX12_choices_24 : decode cX12_choices 24 = .ok (.iconst (-1), 1) := by decide +kernel
theorem dX12_choices_25 : decode cX12_choices 25 = .ok (.invokevirtual 272, 3) := by decide +kernel
theorem dX12_choices_28 : decode cX12_choices 28 = .ok (.ireturn, 1) := by decide +kernel
theorem dX12_choice_0 : decode cX12_choice 0 = .ok (.aload_n 0, 1) := by decide +kernel
theorem dX12_choice_1 : decode cX12_choice 1 = .ok (.iload_n 1, 1) := by decide +kernel
theorem dX12_choice_2 : decode cX12_choice 2 = .ok (.iload_n 2, 1) := by decide +kernel
theorem dX12_choice_3 : decode cX12_choice 3 = .ok (.iload_n 3, 1) := by decide +kernel
theorem dX12_choice_4 : decode cX12_choice 4 = .ok (.iload 4, 2) := by decide +kernel
theorem dX12_choice_6 : decode cX12_choice 6 = .ok (.invokevirtual 239, 3) := by decide +kernel
theorem dX12_choice_9 : decode cX12_choice 9 = .ok (.ifCond .eq 5, 3) := by decide +kernel
theorem dX12_choice_12 : decode cX12_choice 12 = .ok (.iconst 0, 1) := by decide +kernel
theorem dX12_choice_13 : decode cX12_choice 13 = .ok (.ireturn, 1) := by decide +kernel
theorem dX12_choice_14 : decode cX12_choice 14 = .ok (.aload_n 0, 1) := by decide +kernel
theorem dX12_choice_15 : decode cX12_choice 15 = .ok (.iload_n 1, 1) := by decide +kernel
theorem dX12_choice_16 : decode cX12_choice 16 = .ok (.iload_n 3, 1) := by decide +kernel
theorem dX12_choice_17 : decode cX12_choice 17 = .ok (.iload 4, 2) := by decide +kernel
theorem dX12_choice_19 : decode cX12_choice 19 = .ok (.invokevirtual 268, 3) := by decide +kernel
theorem dX12_choice_22 : decode cX12_choice 22 = .ok (.aload_n 0, 1) := by decide +kernel
theorem dX12_choice_23 : decode cX12_choice 23 = .ok (.iload 5, 2) := by decide +kernel
theorem dX12_choice_25 : decode cX12_choice 25 = .ok (.iconst 0, 1) := by decide +kernel
theorem dX12_choice_26 : decode cX12_choice 26 = .ok (.aload_n 0, 1) := by decide +kernel
theorem dX12_choice_27 : decode cX12_choice 27 = .ok (.iload_n 2, 1) := by decide +kernel
theorem dX12_choice_28 : decode cX12_choice 28 = .ok (.iload 5, 2) := by decide +kernel
theorem dX12_choice_30 : decode cX12_choice 30 = .ok (.invokevirtual 272, 3) := by decide +kernel
theorem dX12_choice_33 : decode cX12_choice 33 = .ok (.iconst 1, 1) := by decide +kernel
theorem dX12_choice_34 : decode cX12_choice 34 = .ok (.isub, 1) := by decide +kernel
theorem dX12_choice_35 : decode cX12_choice 35 = .ok (.invokestatic 126, 3) := by decide +kernel
theorem dX12_choice_38 : decode cX12_choice 38 = .ok (.ifCond .ne 7, 3) := by decide +kernel
theorem dX12_choice_41 : decode cX12_choice 41 = .ok (.iconst 1, 1) := by decide +kernel
theorem dX12_choice_42 : decode cX12_choice 42 = .ok (.goto 4, 3) := by decide +kernel
theorem dX12_choice_45 : decode cX12_choice 45 = .ok (.iconst 0, 1) := by decide +kernel
theorem dX12_choice_46 : decode cX12_choice 46 = .ok (.iconst 3, 1) := by decide +kernel
theorem dX12_choice_47 : decode cX12_choice 47 = .ok (.invokevirtual 130, 3) := by decide +kernel
theorem dX12_choice_50 : decode cX12_choice 50 = .ok (.ifCond .eq 7, 3) := by decide +kernel
theorem dX12_choice_53 : decode cX12_choice 53 = .ok (.iconst 0, 1) := by decide +kernel
theorem dX12_choice_54 : decode cX12_choice 54 = .ok (.goto 16, 3) := by decide +kernel
theorem dX12_choice_57 : decode cX12_choice 57 = .ok (.sipush 5000, 3) := by decide +kernel
theorem dX12_choice_60 : decode cX12_choice 60 = .ok (.aload_n 0, 1) := by decide +kernel
theorem dX12_choice_61 : decode cX12_choice 61 = .ok (.getfield 262, 3) := by decide +kernel
theorem dX12_choice_64 : decode cX12_choice 64 = .ok (.imul, 1) := by decide +kernel
theorem dX12_choice_65 : decode cX12_choice 65 = .ok (.aload_n 0, 1) := by decide +kernel
theorem dX12_choice_66 : decode cX12_choice 66 = .ok (.getfield 265, 3) := by decide +kernel
theorem dX12_choice_69 : decode cX12_choice 69 = .ok (.iadd, 1) := by decide +kernel
theorem dX12_choice_70 : decode cX12_choice 70 = .ok (.ireturn, 1) := by decide +kernel
theorem dX12_chain_0 : decode cX12_chain 0 = .ok (.aload_n 0, 1) := by decide +kernel
theorem dX12_chain_1 : decode cX12_chain 1 = .ok (.iload_n 1, 1) := by decide +kernel
theorem dX12_chain_2 : decode cX12_chain 2 = .ok (.iload_n 2, 1) := by decide +kernel
theorem dX12_chain_3 : decode cX12_chain 3 = .ok (.iload_n 3, 1) := by decide +kernel
theorem dX12_chain_4 : decode cX12_chain 4 = .ok (.iload 4, 2) := by decide +kernel
theorem dX12_chain_6 : decode cX12_chain 6 = .ok (.invokevirtual 239, 3) := by decide +kernel
theorem dX12_chain_9 : decode cX12_chain 9 = .ok (.ifCond .eq 5, 3) := by decide +kernel
theorem dX12_chain_12 : decode cX12_chain 12 = .ok (.iconst 0, 1) := by decide +kernel
theorem dX12_chain_13 : decode cX12_chain 13 = .ok (.ireturn, 1) := by decide +kernel
theorem dX12_chain_14 : decode cX12_chain 14 = .ok (.aload_n 0, 1) := by decide +kernel
theorem dX12_chain_15 : decode cX12_chain 15 = .ok (.iload_n 1, 1) := by decide +kernel
theorem dX12_chain_16 : decode cX12_chain 16 = .ok (.iload_n 3, 1) := by decide +kernel
theorem dX12_chain_17 : decode cX12_chain 17 = .ok (.iload 4, 2) := by decide +kernel
theorem dX12_chain_19 : decode cX12_chain 19 = .ok (.invokevirtual 268, 3) := by decide +kernel
theorem dX12_chain_22 : decode cX12_chain 22 = .ok (.aload_n 0, 1) := by decide +kernel
theorem dX12_chain_23 : decode cX12_chain 23 = .ok (.aload_n 0, 1) := by decide +kernel
theorem dX12_chain_24 : decode cX12_chain 24 = .ok (.getfield 250, 3) := by decide +kernel
theorem dX12_chain_27 : decode cX12_chain 27 = .ok (.iconst 1, 1) := by decide +kernel
theorem dX12_chain_28 : decode cX12_chain 28 = .ok (.isub, 1) := by decide +kernel
theorem dX12_chain_29 : decode cX12_chain 29 = .ok (.iload_n 2, 1) := by decide +kernel
theorem dX12_chain_30 : decode cX12_chain 30 = .ok (.invokevirtual 259, 3) := by decide +kernel
theorem dX12_chain_33 : decode cX12_chain 33 = .ok (.istore 5, 2) := by decide +kernel
theorem dX12_chain_35 : decode cX12_chain 35 = .ok (.aload_n 0, 1) := by decide +kernel
theorem dX12_chain_36 : decode cX12_chain 36 = .ok (.iload 5, 2) := by decide +kernel
theorem dX12_chain_38 : decode cX12_chain 38 = .ok (.ldc 150, 2) := by decide +kernel
theorem dX12_chain_40 : decode cX12_chain 40 = .ok (.if_icmp .lt 7, 3) := by decide +kernel
theorem dX12_chain_43 : decode cX12_chain 43 = .ok (.iconst 1, 1) := by decide +kernel
theorem dX12_chain_44 : decode cX12_chain 44 = .ok (.goto 4, 3) := by decide +kernel
theorem dX12_chain_47 : decode cX12_chain 47 = .ok (.iconst 0, 1) := by decide +kernel
theorem dX12_chain_48 : decode cX12_chain 48 = .ok (.iconst 3, 1) := by decide +kernel
theorem dX12_chain_49 : decode cX12_chain 49 = .ok (.invokevirtual 130, 3) := by decide +kernel
theorem dX12_chain_52 : decode cX12_chain 52 = .ok (.ifCond .eq 5, 3) := by decide +kernel
theorem dX12_chain_55 : decode cX12_chain 55 = .ok (.iconst 0, 1) := by decide +kernel
theorem dX12_chain_56 : decode cX12_chain 56 = .ok (.ireturn, 1) := by decide +kernel
theorem dX12_chain_57 : decode cX12_chain 57 = .ok (.iconst 0, 1) := by decide +kernel
theorem dX12_chain_58 : decode cX12_chain 58 = .ok (.istore 6, 2) := by decide +kernel
theorem dX12_chain_60 : decode cX12_chain 60 = .ok (.aload_n 0, 1) := by decide +kernel
theorem dX12_chain_61 : decode cX12_chain 61 = .ok (.iload 6, 2) := by decide +kernel
theorem dX12_chain_63 : decode cX12_chain 63 = .ok (.iload_n 2, 1) := by decide +kernel
theorem dX12_chain_64 : decode cX12_chain 64 = .ok (.invokevirtual 259, 3) := by decide +kernel
theorem dX12_chain_67 : decode cX12_chain 67 = .ok (.iload 5, 2) := by decide +kernel
theorem dX12_chain_69 : decode cX12_chain 69 = .ok (.if_icmp .le 9, 3) := by decide +kernel
theorem dX12_chain_72 : decode cX12_chain 72 = .ok (.iinc 6 1, 3) := by decide +kernel
theorem dX12_chain_75 : decode cX12_chain 75 = .ok (.goto (-15), 3) := by decide +kernel
theorem dX12_chain_78 : decode cX12_chain 78 = .ok (.aload_n 0, 1) := by decide +kernel
theorem dX12_chain_79 : decode cX12_chain 79 = .ok (.iload 6, 2) := by decide +kernel
theorem dX12_chain_81 : decode cX12_chain 81 = .ok (.putfield 72, 3) := by decide +kernel
theorem dX12_chain_84 : decode cX12_chain 84 = .ok (.iload_n 2, 1) := by decide +kernel
theorem dX12_chain_85 : decode cX12_chain 85 = .ok (.istore 7, 2) := by decide +kernel
theorem dX12_chain_87 : decode cX12_chain 87 = .ok (.iconst 1, 1) := by decide +kernel
theorem dX12_chain_88 : decode cX12_chain 88 = .ok (.istore 8, 2) := by decide +kernel
theorem dX12_chain_90 : decode cX12_chain 90 = .ok (.iload 6, 2) := by decide +kernel
theorem dX12_chain_92 : decode cX12_chain 92 = .ok (.iconst 1, 1) := by decide +kernel
theorem dX12_chain_93 : decode cX12_chain 93 = .ok (.isub, 1) := by decide +kernel
theorem dX12_chain_94 : decode cX12_chain 94 = .ok (.istore 9, 2) := by decide +kernel
theorem dX12_chain_96 : decode cX12_chain 96 = .ok (.iload 9, 2) := by decide +kernel
theorem dX12_chain_98 : decode cX12_chain 98 = .ok (.ifCond .lt 64, 3) := by decide +kernel
theorem dX12_chain_101 : decode cX12_chain 101 = .ok (.aload_n 0, 1) := by decide +kernel
theorem dX12_chain_102 : decode cX12_chain 102 = .ok (.iload 9, 2) := by decide +kernel
theorem dX12_chain_104 : decode cX12_chain 104 = .ok (.iload 7, 2) := by decide +kernel
theorem dX12_chain_106 : decode cX12_chain 106 = .ok (.iload 5, 2) := by decide +kernel
theorem dX12_chain_108 : decode cX12_chain 108 = .ok (.iload 8, 2) := by decide +kernel
theorem dX12_chain_110 : decode cX12_chain 110 = .ok (.invokevirtual 275, 3) := by decide +kernel
theorem dX12_chain_113 : decode cX12_chain 113 = .ok (.aload_n 0, 1) := by decide +kernel
theorem dX12_chain_114 : decode cX12_chain 114 = .ok (.aload_n 0, 1) := by decide +kernel
theorem dX12_chain_115 : decode cX12_chain 115 = .ok (.getfield 75, 3) := by decide +kernel
theorem dX12_chain_118 : decode cX12_chain 118 = .ok (.iload 9, 2) := by decide +kernel
theorem dX12_chain_120 : decode cX12_chain 120 = .ok (.iaload, 1) := by decide +kernel
theorem dX12_chain_121 : decode cX12_chain 121 = .ok (.aload_n 0, 1) := by decide +kernel
theorem dX12_chain_122 : decode cX12_chain 122 = .ok (.getfield 78, 3) := by decide +kernel
theorem dX12_chain_125 : decode cX12_chain 125 = .ok (.iload 9, 2) := by decide +kernel
theorem dX12_chain_127 : decode cX12_chain 127 = .ok (.iaload, 1) := by decide +kernel
theorem dX12_chain_128 : decode cX12_chain 128 = .ok (.invokevirtual 214, 3) := by decide +kernel
theorem dX12_chain_131 : decode cX12_chain 131 = .ok (.istore 7, 2) := by decide +kernel
theorem dX12_chain_133 : decode cX12_chain 133 = .ok (.aload_n 0, 1) := by decide +kernel
theorem dX12_chain_134 : decode cX12_chain 134 = .ok (.aload_n 0, 1) := by decide +kernel
theorem dX12_chain_135 : decode cX12_chain 135 = .ok (.getfield 75, 3) := by decide +kernel
theorem dX12_chain_138 : decode cX12_chain 138 = .ok (.iload 9, 2) := by decide +kernel
theorem dX12_chain_140 : decode cX12_chain 140 = .ok (.iaload, 1) := by decide +kernel
theorem dX12_chain_141 : decode cX12_chain 141 = .ok (.aload_n 0, 1) := by decide +kernel
theorem dX12_chain_142 : decode cX12_chain 142 = .ok (.getfield 78, 3) := by decide +kernel
theorem dX12_chain_145 : decode cX12_chain 145 = .ok (.iload 9, 2) := by decide +kernel
theorem dX12_chain_147 : decode cX12_chain 147 = .ok (.iaload, 1) := by decide +kernel
theorem dX12_chain_148 : decode cX12_chain 148 = .ok (.invokevirtual 223, 3) := by decide +kernel
theorem dX12_chain_151 : decode cX12_chain 151 = .ok (.istore 5, 2) := by decide +kernel
theorem dX12_chain_153 : decode cX12_chain 153 = .ok (.iconst 0, 1) := by decide +kernel
theorem dX12_chain_154 : decode cX12_chain 154 = .ok (.istore 8, 2) := by decide +kernel
theorem dX12_chain_156 : decode cX12_chain 156 = .ok (.iinc 9 (-1), 3) := by decide +kernel
theorem dX12_chain_159 : decode cX12_chain 159 = .ok (.goto (-63), 3) := by decide +kernel
theorem dX12_chain_162 : decode cX12_chain 162 = .ok (.aload_n 0, 1) := by decide +kernel
theorem dX12_chain_163 : decode cX12_chain 163 = .ok (.getfield 72, 3) := by decide +kernel
theorem dX12_chain_166 : decode cX12_chain 166 = .ok (.ireturn, 1) := by decide +kernel
theorem dX12_findRide_0 : decode cX12_findRide 0 = .ok (.aload_n 0, 1) := by decide +kernel
theorem dX12_findRide_1 : decode cX12_findRide 1 = .ok (.getfield 75, 3) := by decide +kernel
theorem dX12_findRide_4 : decode cX12_findRide 4 = .ok (.iload_n 1, 1) := by decide +kernel
theorem dX12_findRide_5 : decode cX12_findRide 5 = .ok (.iconst (-1), 1) := by decide +kernel
theorem dX12_findRide_6 : decode cX12_findRide 6 = .ok (.iastore, 1) := by decide +kernel
theorem dX12_findRide_7 : decode cX12_findRide 7 = .ok (.iconst 0, 1) := by decide +kernel
theorem dX12_findRide_8 : decode cX12_findRide 8 = .ok (.istore 5, 2) := by decide +kernel
theorem dX12_findRide_10 : decode cX12_findRide 10 = .ok (.iload 5, 2) := by decide +kernel
theorem dX12_findRide_12 : decode cX12_findRide 12 = .ok (.bipush 72, 2) := by decide +kernel
theorem dX12_findRide_14 : decode cX12_findRide 14 = .ok (.if_icmp .ge 203, 3) := by decide +kernel
theorem dX12_findRide_17 : decode cX12_findRide 17 = .ok (.aload_n 0, 1) := by decide +kernel
theorem dX12_findRide_18 : decode cX12_findRide 18 = .ok (.getfield 75, 3) := by decide +kernel
theorem dX12_findRide_21 : decode cX12_findRide 21 = .ok (.iload_n 1, 1) := by decide +kernel
theorem dX12_findRide_22 : decode cX12_findRide 22 = .ok (.iaload, 1) := by decide +kernel
theorem dX12_findRide_23 : decode cX12_findRide 23 = .ok (.iconst (-1), 1) := by decide +kernel
theorem dX12_findRide_24 : decode cX12_findRide 24 = .ok (.if_icmp .ne 193, 3) := by decide +kernel
theorem dX12_findRide_27 : decode cX12_findRide 27 = .ok (.iconst 1, 1) := by decide +kernel
theorem dX12_findRide_28 : decode cX12_findRide 28 = .ok (.istore 6, 2) := by decide +kernel
theorem dX12_findRide_30 : decode cX12_findRide 30 = .ok (.aload_n 0, 1) := by decide +kernel
theorem dX12_findRide_31 : decode cX12_findRide 31 = .ok (.iload 5, 2) := by decide +kernel
theorem dX12_findRide_33 : decode cX12_findRide 33 = .ok (.invokevirtual 208, 3) := by decide +kernel
theorem dX12_findRide_36 : decode cX12_findRide 36 = .ok (.ifCond .eq 175, 3) := by decide +kernel
theorem dX12_findRide_39 : decode cX12_findRide 39 = .ok (.iload 6, 2) := by decide +kernel
theorem dX12_findRide_41 : decode cX12_findRide 41 = .ok (.aload_n 0, 1) := by decide +kernel
theorem dX12_findRide_42 : decode cX12_findRide 42 = .ok (.getfield 30, 3) := by decide +kernel
theorem dX12_findRide_45 : decode cX12_findRide 45 = .ok (.iload 5, 2) := by decide +kernel
theorem dX12_findRide_47 : decode cX12_findRide 47 = .ok (.bipush 24, 2) := by decide +kernel
theorem dX12_findRide_49 : decode cX12_findRide 49 = .ok (.irem, 1) := by decide +kernel
theorem dX12_findRide_50 : decode cX12_findRide 50 = .ok (.iaload, 1) := by decide +kernel
theorem dX12_findRide_51 : decode cX12_findRide 51 = .ok (.if_icmp .ge 160, 3) := by decide +kernel
theorem dX12_findRide_54 : decode cX12_findRide 54 = .ok (.aload_n 0, 1) := by decide +kernel
theorem dX12_findRide_55 : decode cX12_findRide 55 = .ok (.getfield 75, 3) := by decide +kernel
theorem dX12_findRide_58 : decode cX12_findRide 58 = .ok (.iload_n 1, 1) := by decide +kernel
theorem dX12_findRide_59 : decode cX12_findRide 59 = .ok (.iaload, 1) := by decide +kernel
theorem dX12_findRide_60 : decode cX12_findRide 60 = .ok (.iconst (-1), 1) := by decide +kernel
theorem dX12_findRide_61 : decode cX12_findRide 61 = .ok (.if_icmp .ne 150, 3) := by decide +kernel
theorem dX12_findRide_64 : decode cX12_findRide 64 = .ok (.aload_n 0, 1) := by decide +kernel
theorem dX12_findRide_65 : decode cX12_findRide 65 = .ok (.iload 5, 2) := by decide +kernel
theorem dX12_findRide_67 : decode cX12_findRide 67 = .ok (.iload 6, 2) := by decide +kernel
theorem dX12_findRide_69 : decode cX12_findRide 69 = .ok (.invokevirtual 214, 3) := by decide +kernel
theorem dX12_findRide_72 : decode cX12_findRide 72 = .ok (.istore 7, 2) := by decide +kernel
theorem dX12_findRide_74 : decode cX12_findRide 74 = .ok (.iload 7, 2) := by decide +kernel
theorem dX12_findRide_76 : decode cX12_findRide 76 = .ok (.iload_n 2, 1) := by decide +kernel
theorem dX12_findRide_77 : decode cX12_findRide 77 = .ok (.if_icmp .eq 18, 3) := by decide +kernel
theorem dX12_findRide_80 : decode cX12_findRide 80 = .ok (.aload_n 0, 1) := by decide +kernel
theorem dX12_findRide_81 : decode cX12_findRide 81 = .ok (.getfield 16, 3) := by decide +kernel
theorem dX12_findRide_84 : decode cX12_findRide 84 = .ok (.bipush 12, 2) := by decide +kernel
theorem dX12_findRide_86 : decode cX12_findRide 86 = .ok (.iload 7, 2) := by decide +kernel
theorem dX12_findRide_88 : decode cX12_findRide 88 = .ok (.imul, 1) := by decide +kernel
theorem dX12_findRide_89 : decode cX12_findRide 89 = .ok (.iload_n 2, 1) := by decide +kernel
theorem dX12_findRide_90 : decode cX12_findRide 90 = .ok (.iadd, 1) := by decide +kernel
theorem dX12_findRide_91 : decode cX12_findRide 91 = .ok (.iaload, 1) := by decide +kernel
theorem dX12_findRide_92 : decode cX12_findRide 92 = .ok (.goto 18, 3) := by decide +kernel
theorem dX12_findRide_95 : decode cX12_findRide 95 = .ok (.iload 4, 2) := by decide +kernel
theorem dX12_findRide_97 : decode cX12_findRide 97 = .ok (.ifCond .eq 7, 3) := by decide +kernel
theorem dX12_findRide_100 : decode cX12_findRide 100 = .ok (.iconst 0, 1) := by decide +kernel
theorem dX12_findRide_101 : decode cX12_findRide 101 = .ok (.goto 9, 3) := by decide +kernel
theorem dX12_findRide_104 : decode cX12_findRide 104 = .ok (.aload_n 0, 1) := by decide +kernel
theorem dX12_findRide_105 : decode cX12_findRide 105 = .ok (.getfield 9, 3) := by decide +kernel
theorem dX12_findRide_108 : decode cX12_findRide 108 = .ok (.iload_n 2, 1) := by decide +kernel
theorem dX12_findRide_109 : decode cX12_findRide 109 = .ok (.iaload, 1) := by decide +kernel
theorem dX12_findRide_110 : decode cX12_findRide 110 = .ok (.istore 8, 2) := by decide +kernel
theorem dX12_findRide_112 : decode cX12_findRide 112 = .ok (.aload_n 0, 1) := by decide +kernel
theorem dX12_findRide_113 : decode cX12_findRide 113 = .ok (.iload 5, 2) := by decide +kernel
theorem dX12_findRide_115 : decode cX12_findRide 115 = .ok (.iload 6, 2) := by decide +kernel
theorem dX12_findRide_117 : decode cX12_findRide 117 = .ok (.invokevirtual 217, 3) := by decide +kernel
theorem dX12_findRide_120 : decode cX12_findRide 120 = .ok (.iload 8, 2) := by decide +kernel
theorem dX12_findRide_122 : decode cX12_findRide 122 = .ok (.iadd, 1) := by decide +kernel
theorem dX12_findRide_123 : decode cX12_findRide 123 = .ok (.iload_n 3, 1) := by decide +kernel
theorem dX12_findRide_124 : decode cX12_findRide 124 = .ok (.if_icmp .le 6, 3) := by decide +kernel
theorem dX12_findRide_127 : decode cX12_findRide 127 = .ok (.goto 78, 3) := by decide +kernel
theorem dX12_findRide_130 : decode cX12_findRide 130 = .ok (.iload 6, 2) := by decide +kernel
theorem dX12_findRide_132 : decode cX12_findRide 132 = .ok (.iconst 1, 1) := by decide +kernel
theorem dX12_findRide_133 : decode cX12_findRide 133 = .ok (.isub, 1) := by decide +kernel
theorem dX12_findRide_134 : decode cX12_findRide 134 = .ok (.istore 9, 2) := by decide +kernel
theorem dX12_findRide_136 : decode cX12_findRide 136 = .ok (.iload 9, 2) := by decide +kernel
theorem dX12_findRide_138 : decode cX12_findRide 138 = .ok (.ifCond .lt 67, 3) := by decide +kernel
theorem dX12_findRide_141 : decode cX12_findRide 141 = .ok (.aload_n 0, 1) := by decide +kernel
theorem dX12_findRide_142 : decode cX12_findRide 142 = .ok (.getfield 75, 3) := by decide +kernel
theorem dX12_findRide_145 : decode cX12_findRide 145 = .ok (.iload_n 1, 1) := by decide +kernel
theorem dX12_findRide_146 : decode cX12_findRide 146 = .ok (.iaload, 1) := by decide +kernel
theorem dX12_findRide_147 : decode cX12_findRide 147 = .ok (.iconst (-1), 1) := by decide +kernel
theorem dX12_findRide_148 : decode cX12_findRide 148 = .ok (.if_icmp .ne 57, 3) := by decide +kernel
theorem dX12_findRide_151 : decode cX12_findRide 151 = .ok (.aload_n 0, 1) := by decide +kernel
theorem dX12_findRide_152 : decode cX12_findRide 152 = .ok (.iload_n 1, 1) := by decide +kernel
theorem dX12_findRide_153 : decode cX12_findRide 153 = .ok (.aload_n 0, 1) := by decide +kernel
theorem dX12_findRide_154 : decode cX12_findRide 154 = .ok (.iload 5, 2) := by decide +kernel
theorem dX12_findRide_156 : decode cX12_findRide 156 = .ok (.iload 9, 2) := by decide +kernel
theorem dX12_findRide_158 : decode cX12_findRide 158 = .ok (.invokevirtual 214, 3) := by decide +kernel
theorem dX12_findRide_161 : decode cX12_findRide 161 = .ok (.aload_n 0, 1) := by decide +kernel
theorem dX12_findRide_162 : decode cX12_findRide 162 = .ok (.iload 5, 2) := by decide +kernel
theorem dX12_findRide_164 : decode cX12_findRide 164 = .ok (.iload 9, 2) := by decide +kernel
theorem dX12_findRide_166 : decode cX12_findRide 166 = .ok (.invokevirtual 223, 3) := by decide +kernel
theorem dX12_findRide_169 : decode cX12_findRide 169 = .ok (.invokevirtual 256, 3) := by decide +kernel
theorem dX12_findRide_172 : decode cX12_findRide 172 = .ok (.ifCond .eq 27, 3) := by decide +kernel
theorem dX12_findRide_175 : decode cX12_findRide 175 = .ok (.aload_n 0, 1) := by decide +kernel
theorem dX12_findRide_176 : decode cX12_findRide 176 = .ok (.getfield 75, 3) := by decide +kernel
theorem dX12_findRide_179 : decode cX12_findRide 179 = .ok (.iload_n 1, 1) := by decide +kernel
theorem dX12_findRide_180 : decode cX12_findRide 180 = .ok (.iload 5, 2) := by decide +kernel
theorem dX12_findRide_182 : decode cX12_findRide 182 = .ok (.iastore, 1) := by decide +kernel
theorem dX12_findRide_183 : decode cX12_findRide 183 = .ok (.aload_n 0, 1) := by decide +kernel
theorem dX12_findRide_184 : decode cX12_findRide 184 = .ok (.getfield 78, 3) := by decide +kernel
theorem dX12_findRide_187 : decode cX12_findRide 187 = .ok (.iload_n 1, 1) := by decide +kernel
theorem dX12_findRide_188 : decode cX12_findRide 188 = .ok (.iload 9, 2) := by decide +kernel
theorem dX12_findRide_190 : decode cX12_findRide 190 = .ok (.iastore, 1) := by decide +kernel
theorem dX12_findRide_191 : decode cX12_findRide 191 = .ok (.aload_n 0, 1) := by decide +kernel
theorem dX12_findRide_192 : decode cX12_findRide 192 = .ok (.getfield 81, 3) := by decide +kernel
theorem dX12_findRide_195 : decode cX12_findRide 195 = .ok (.iload_n 1, 1) := by decide +kernel
theorem dX12_findRide_196 : decode cX12_findRide 196 = .ok (.iload 6, 2) := by decide +kernel
theorem dX12_findRide_198 : decode cX12_findRide 198 = .ok (.iastore, 1) := by decide +kernel
theorem dX12_findRide_199 : decode cX12_findRide 199 = .ok (.iinc 9 (-1), 3) := by decide +kernel
theorem dX12_findRide_202 : decode cX12_findRide 202 = .ok (.goto (-66), 3) := by decide +kernel
theorem dX12_findRide_205 : decode cX12_findRide 205 = .ok (.iinc 6 1, 3) := by decide +kernel
theorem dX12_findRide_208 : decode cX12_findRide 208 = .ok (.goto (-178), 3) := by decide +kernel
theorem dX12_findRide_211 : decode cX12_findRide 211 = .ok (.iinc 5 1, 3) := by decide +kernel
theorem dX12_findRide_214 : decode cX12_findRide 214 = .ok (.goto (-204), 3) := by decide +kernel
theorem dX12_findRide_217 : decode cX12_findRide 217 = .ok (.return_, 1) := by decide +kernel
theorem dX12_ride_0 : decode cX12_ride 0 = .ok (.aload_n 0, 1) := by decide +kernel
theorem dX12_ride_1 : decode cX12_ride 1 = .ok (.iload_n 2, 1) := by decide +kernel
theorem dX12_ride_2 : decode cX12_ride 2 = .ok (.bipush 116, 2) := by decide +kernel
theorem dX12_ride_4 : decode cX12_ride 4 = .ok (.if_icmp .eq 25, 3) := by decide +kernel
theorem dX12_ride_7 : decode cX12_ride 7 = .ok (.iload_n 2, 1) := by decide +kernel
theorem dX12_ride_8 : decode cX12_ride 8 = .ok (.bipush 100, 2) := by decide +kernel
theorem dX12_ride_10 : decode cX12_ride 10 = .ok (.if_icmp .eq 19, 3) := by decide +kernel
theorem dX12_ride_13 : decode cX12_ride 13 = .ok (.iload_n 2, 1) := by decide +kernel
theorem dX12_ride_14 : decode cX12_ride 14 = .ok (.bipush 111, 2) := by decide +kernel
theorem dX12_ride_16 : decode cX12_ride 16 = .ok (.if_icmp .eq 13, 3) := by decide +kernel
theorem dX12_ride_19 : decode cX12_ride 19 = .ok (.iload_n 2, 1) := by decide +kernel
theorem dX12_ride_20 : decode cX12_ride 20 = .ok (.bipush 102, 2) := by decide +kernel
theorem dX12_ride_22 : decode cX12_ride 22 = .ok (.if_icmp .eq 7, 3) := by decide +kernel
theorem dX12_ride_25 : decode cX12_ride 25 = .ok (.iconst 1, 1) := by decide +kernel
theorem dX12_ride_26 : decode cX12_ride 26 = .ok (.goto 4, 3) := by decide +kernel
theorem dX12_ride_29 : decode cX12_ride 29 = .ok (.iconst 0, 1) := by decide +kernel
theorem dX12_ride_30 : decode cX12_ride 30 = .ok (.iconst 1, 1) := by decide +kernel
theorem dX12_ride_31 : decode cX12_ride 31 = .ok (.invokevirtual 130, 3) := by decide +kernel
theorem dX12_ride_34 : decode cX12_ride 34 = .ok (.ifCond .ne 30, 3) := by decide +kernel
theorem dX12_ride_37 : decode cX12_ride 37 = .ok (.aload_n 0, 1) := by decide +kernel
theorem dX12_ride_38 : decode cX12_ride 38 = .ok (.iload_n 1, 1) := by decide +kernel
theorem dX12_ride_39 : decode cX12_ride 39 = .ok (.iconst 0, 1) := by decide +kernel
theorem dX12_ride_40 : decode cX12_ride 40 = .ok (.aload_n 0, 1) := by decide +kernel
theorem dX12_ride_41 : decode cX12_ride 41 = .ok (.getfield 72, 3) := by decide +kernel
theorem dX12_ride_44 : decode cX12_ride 44 = .ok (.iconst 1, 1) := by decide +kernel
theorem dX12_ride_45 : decode cX12_ride 45 = .ok (.isub, 1) := by decide +kernel
theorem dX12_ride_46 : decode cX12_ride 46 = .ok (.invokestatic 126, 3) := by decide +kernel
theorem dX12_ride_49 : decode cX12_ride 49 = .ok (.ifCond .ne 7, 3) := by decide +kernel
theorem dX12_ride_52 : decode cX12_ride 52 = .ok (.iconst 1, 1) := by decide +kernel
theorem dX12_ride_53 : decode cX12_ride 53 = .ok (.goto 4, 3) := by decide +kernel
theorem dX12_ride_56 : decode cX12_ride 56 = .ok (.iconst 0, 1) := by decide +kernel
theorem dX12_ride_57 : decode cX12_ride 57 = .ok (.iconst 2, 1) := by decide +kernel
theorem dX12_ride_58 : decode cX12_ride 58 = .ok (.invokevirtual 130, 3) := by decide +kernel
theorem dX12_ride_61 : decode cX12_ride 61 = .ok (.ifCond .eq 5, 3) := by decide +kernel
theorem dX12_ride_64 : decode cX12_ride 64 = .ok (.iconst 0, 1) := by decide +kernel
theorem dX12_ride_65 : decode cX12_ride 65 = .ok (.ireturn, 1) := by decide +kernel
theorem dX12_ride_66 : decode cX12_ride 66 = .ok (.iload_n 2, 1) := by decide +kernel
theorem dX12_ride_67 : decode cX12_ride 67 = .ok (.bipush 116, 2) := by decide +kernel
theorem dX12_ride_69 : decode cX12_ride 69 = .ok (.if_icmp .ne 15, 3) := by decide +kernel
theorem dX12_ride_72 : decode cX12_ride 72 = .ok (.aload_n 0, 1) := by decide +kernel
theorem dX12_ride_73 : decode cX12_ride 73 = .ok (.getfield 75, 3) := by decide +kernel
theorem dX12_ride_76 : decode cX12_ride 76 = .ok (.iload_n 1, 1) := by decide +kernel
theorem dX12_ride_77 : decode cX12_ride 77 = .ok (.iaload, 1) := by decide +kernel
theorem dX12_ride_78 : decode cX12_ride 78 = .ok (.bipush 24, 2) := by decide +kernel
theorem dX12_ride_80 : decode cX12_ride 80 = .ok (.irem, 1) := by decide +kernel
theorem dX12_ride_81 : decode cX12_ride 81 = .ok (.goto 44, 3) := by decide +kernel
theorem dX12_ride_84 : decode cX12_ride 84 = .ok (.iload_n 2, 1) := by decide +kernel
theorem dX12_ride_85 : decode cX12_ride 85 = .ok (.bipush 100, 2) := by decide +kernel
theorem dX12_ride_87 : decode cX12_ride 87 = .ok (.if_icmp .ne 17, 3) := by decide +kernel
theorem dX12_ride_90 : decode cX12_ride 90 = .ok (.aload_n 0, 1) := by decide +kernel
theorem dX12_ride_91 : decode cX12_ride 91 = .ok (.getfield 75, 3) := by decide +kernel
theorem dX12_ride_94 : decode cX12_ride 94 = .ok (.iload_n 1, 1) := by decide +kernel
theorem dX12_ride_95 : decode cX12_ride 95 = .ok (.iaload, 1) := by decide +kernel
theorem dX12_ride_96 : decode cX12_ride 96 = .ok (.bipush 24, 2) := by decide +kernel
theorem dX12_ride_98 : decode cX12_ride 98 = .ok (.idiv, 1) := by decide +kernel
theorem dX12_ride_99 : decode cX12_ride 99 = .ok (.iconst 1, 1) := by decide +kernel
theorem dX12_ride_100 : decode cX12_ride 100 = .ok (.isub, 1) := by decide +kernel
theorem dX12_ride_101 : decode cX12_ride 101 = .ok (.goto 24, 3) := by decide +kernel
theorem dX12_ride_104 : decode cX12_ride 104 = .ok (.iload_n 2, 1) := by decide +kernel
theorem dX12_ride_105 : decode cX12_ride 105 = .ok (.bipush 111, 2) := by decide +kernel
theorem dX12_ride_107 : decode cX12_ride 107 = .ok (.if_icmp .ne 12, 3) := by decide +kernel
theorem dX12_ride_110 : decode cX12_ride 110 = .ok (.aload_n 0, 1) := by decide +kernel
theorem dX12_ride_111 : decode cX12_ride 111 = .ok (.getfield 78, 3) := by decide +kernel
theorem dX12_ride_114 : decode cX12_ride 114 = .ok (.iload_n 1, 1) := by decide +kernel
theorem dX12_ride_115 : decode cX12_ride 115 = .ok (.iaload, 1) := by decide +kernel
theorem dX12_ride_116 : decode cX12_ride 116 = .ok (.goto 9, 3) := by decide +kernel
theorem dX12_ride_119 : decode cX12_ride 119 = .ok (.aload_n 0, 1) := by decide +kernel
theorem dX12_ride_120 : decode cX12_ride 120 = .ok (.getfield 81, 3) := by decide +kernel
theorem dX12_ride_123 : decode cX12_ride 123 = .ok (.iload_n 1, 1) := by decide +kernel
theorem dX12_ride_124 : decode cX12_ride 124 = .ok (.iaload, 1) := by decide +kernel
theorem dX12_ride_125 : decode cX12_ride 125 = .ok (.ireturn, 1) := by decide +kernel
theorem dX12_tellPairs_0 : decode cX12_tellPairs 0 = .ok (.aload_n 0, 1) := by decide +kernel
theorem dX12_tellPairs_1 : decode cX12_tellPairs 1 = .ok (.iload_n 3, 1) := by decide +kernel
theorem dX12_tellPairs_2 : decode cX12_tellPairs 2 = .ok (.putfield 198, 3) := by decide +kernel
theorem dX12_tellPairs_5 : decode cX12_tellPairs 5 = .ok (.aload_n 0, 1) := by decide +kernel
theorem dX12_tellPairs_6 : decode cX12_tellPairs 6 = .ok (.iconst 0, 1) := by decide +kernel
theorem dX12_tellPairs_7 : decode cX12_tellPairs 7 = .ok (.putfield 279, 3) := by decide +kernel
theorem dX12_tellPairs_10 : decode cX12_tellPairs 10 = .ok (.ldc 150, 2) := by decide +kernel
theorem dX12_tellPairs_12 : decode cX12_tellPairs 12 = .ok (.istore 4, 2) := by decide +kernel
theorem dX12_tellPairs_14 : decode cX12_tellPairs 14 = .ok (.ldc 150, 2) := by decide +kernel
theorem dX12_tellPairs_16 : decode cX12_tellPairs 16 = .ok (.istore 5, 2) := by decide +kernel
theorem dX12_tellPairs_18 : decode cX12_tellPairs 18 = .ok (.aload_n 0, 1) := by decide +kernel
theorem dX12_tellPairs_19 : decode cX12_tellPairs 19 = .ok (.iload_n 1, 1) := by decide +kernel
theorem dX12_tellPairs_20 : decode cX12_tellPairs 20 = .ok (.iload 4, 2) := by decide +kernel
theorem dX12_tellPairs_22 : decode cX12_tellPairs 22 = .ok (.invokevirtual 282, 3) := by decide +kernel
theorem dX12_tellPairs_25 : decode cX12_tellPairs 25 = .ok (.istore 6, 2) := by decide +kernel
theorem dX12_tellPairs_27 : decode cX12_tellPairs 27 = .ok (.iload 6, 2) := by decide +kernel
theorem dX12_tellPairs_29 : decode cX12_tellPairs 29 = .ok (.ifCond .ge 6, 3) := by decide +kernel
theorem dX12_tellPairs_32 : decode cX12_tellPairs 32 = .ok (.goto 71, 3) := by decide +kernel
theorem dX12_tellPairs_35 : decode cX12_tellPairs 35 = .ok (.aload_n 0, 1) := by decide +kernel
theorem dX12_tellPairs_36 : decode cX12_tellPairs 36 = .ok (.iload_n 1, 1) := by decide +kernel
theorem dX12_tellPairs_37 : decode cX12_tellPairs 37 = .ok (.iload 6, 2) := by decide +kernel
theorem dX12_tellPairs_39 : decode cX12_tellPairs 39 = .ok (.invokevirtual 229, 3) := by decide +kernel
theorem dX12_tellPairs_42 : decode cX12_tellPairs 42 = .ok (.aload_n 0, 1) := by decide +kernel
theorem dX12_tellPairs_43 : decode cX12_tellPairs 43 = .ok (.invokevirtual 232, 3) := by decide +kernel
theorem dX12_tellPairs_46 : decode cX12_tellPairs 46 = .ok (.aload_n 0, 1) := by decide +kernel
theorem dX12_tellPairs_47 : decode cX12_tellPairs 47 = .ok (.iload_n 2, 1) := by decide +kernel
theorem dX12_tellPairs_48 : decode cX12_tellPairs 48 = .ok (.invokevirtual 285, 3) := by decide +kernel
theorem dX12_tellPairs_51 : decode cX12_tellPairs 51 = .ok (.istore 7, 2) := by decide +kernel
theorem dX12_tellPairs_53 : decode cX12_tellPairs 53 = .ok (.iload 7, 2) := by decide +kernel
theorem dX12_tellPairs_55 : decode cX12_tellPairs 55 = .ok (.iload 5, 2) := by decide +kernel
theorem dX12_tellPairs_57 : decode cX12_tellPairs 57 = .ok (.if_icmp .ge 39, 3) := by decide +kernel
theorem dX12_tellPairs_60 : decode cX12_tellPairs 60 = .ok (.iload 7, 2) := by decide +kernel
theorem dX12_tellPairs_62 : decode cX12_tellPairs 62 = .ok (.istore 5, 2) := by decide +kernel
theorem dX12_tellPairs_64 : decode cX12_tellPairs 64 = .ok (.aload_n 0, 1) := by decide +kernel
theorem dX12_tellPairs_65 : decode cX12_tellPairs 65 = .ok (.getfield 84, 3) := by decide +kernel
theorem dX12_tellPairs_68 : decode cX12_tellPairs 68 = .ok (.aload_n 0, 1) := by decide +kernel
theorem dX12_tellPairs_69 : decode cX12_tellPairs 69 = .ok (.getfield 279, 3) := by decide +kernel
theorem dX12_tellPairs_72 : decode cX12_tellPairs 72 = .ok (.iload 6, 2) := by decide +kernel
theorem dX12_tellPairs_74 : decode cX12_tellPairs 74 = .ok (.iastore, 1) := by decide +kernel
theorem dX12_tellPairs_75 : decode cX12_tellPairs 75 = .ok (.aload_n 0, 1) := by decide +kernel
theorem dX12_tellPairs_76 : decode cX12_tellPairs 76 = .ok (.getfield 87, 3) := by decide +kernel
theorem dX12_tellPairs_79 : decode cX12_tellPairs 79 = .ok (.aload_n 0, 1) := by decide +kernel
theorem dX12_tellPairs_80 : decode cX12_tellPairs 80 = .ok (.getfield 279, 3) := by decide +kernel
theorem dX12_tellPairs_83 : decode cX12_tellPairs 83 = .ok (.iload 7, 2) := by decide +kernel
theorem dX12_tellPairs_85 : decode cX12_tellPairs 85 = .ok (.iastore, 1) := by decide +kernel
theorem dX12_tellPairs_86 : decode cX12_tellPairs 86 = .ok (.aload_n 0, 1) := by decide +kernel
theorem dX12_tellPairs_87 : decode cX12_tellPairs 87 = .ok (.dup, 1) := by decide +kernel
theorem dX12_tellPairs_88 : decode cX12_tellPairs 88 = .ok (.getfield 279, 3) := by decide +kernel
theorem dX12_tellPairs_91 : decode cX12_tellPairs 91 = .ok (.iconst 1, 1) := by decide +kernel
theorem dX12_tellPairs_92 : decode cX12_tellPairs 92 = .ok (.iadd, 1) := by decide +kernel
theorem dX12_tellPairs_93 : decode cX12_tellPairs 93 = .ok (.putfield 279, 3) := by decide +kernel
theorem dX12_tellPairs_96 : decode cX12_tellPairs 96 = .ok (.iload 6, 2) := by decide +kernel
theorem dX12_tellPairs_98 : decode cX12_tellPairs 98 = .ok (.istore 4, 2) := by decide +kernel
theorem dX12_tellPairs_100 : decode cX12_tellPairs 100 = .ok (.goto (-82), 3) := by decide +kernel
theorem dX12_tellPairs_103 : decode cX12_tellPairs 103 = .ok (.return_, 1) := by decide +kernel
theorem dX12_leaveBefore_0 : decode cX12_leaveBefore 0 = .ok (.iconst (-1), 1) := by decide +kernel
theorem dX12_leaveBefore_1 : decode cX12_leaveBefore 1 = .ok (.istore_n 3, 1) := by decide +kernel
theorem dX12_leaveBefore_2 : decode cX12_leaveBefore 2 = .ok (.iconst 0, 1) := by decide +kernel
theorem dX12_leaveBefore_3 : decode cX12_leaveBefore 3 = .ok (.istore 4, 2) := by decide +kernel
theorem dX12_leaveBefore_5 : decode cX12_leaveBefore 5 = .ok (.iload 4, 2) := by decide +kernel
theorem dX12_leaveBefore_7 : decode cX12_leaveBefore 7 = .ok (.bipush 72, 2) := by decide +kernel
theorem dX12_leaveBefore_9 : decode cX12_leaveBefore 9 = .ok (.if_icmp .ge 106, 3) := by decide +kernel
theorem dX12_leaveBefore_12 : decode cX12_leaveBefore 12 = .ok (.iconst 0, 1) := by decide +kernel
theorem dX12_leaveBefore_13 : decode cX12_leaveBefore 13 = .ok (.istore 5, 2) := by decide +kernel
theorem dX12_leaveBefore_15 : decode cX12_leaveBefore 15 = .ok (.aload_n 0, 1) := by decide +kernel
theorem dX12_leaveBefore_16 : decode cX12_leaveBefore 16 = .ok (.iload 4, 2) := by decide +kernel
theorem dX12_leaveBefore_18 : decode cX12_leaveBefore 18 = .ok (.invokevirtual 208, 3) := by decide +kernel
theorem dX12_leaveBefore_21 : decode cX12_leaveBefore 21 = .ok (.ifCond .eq 88, 3) := by decide +kernel
theorem dX12_leaveBefore_24 : decode cX12_leaveBefore 24 = .ok (.iload 5, 2) := by decide +kernel
theorem dX12_leaveBefore_26 : decode cX12_leaveBefore 26 = .ok (.iconst 1, 1) := by decide +kernel
theorem dX12_leaveBefore_27 : decode cX12_leaveBefore 27 = .ok (.iadd, 1) := by decide +kernel
theorem dX12_leaveBefore_28 : decode cX12_leaveBefore 28 = .ok (.aload_n 0, 1) := by decide +kernel
theorem dX12_leaveBefore_29 : decode cX12_leaveBefore 29 = .ok (.getfield 30, 3) := by decide +kernel
theorem dX12_leaveBefore_32 : decode cX12_leaveBefore 32 = .ok (.iload 4, 2) := by decide +kernel
theorem dX12_leaveBefore_34 : decode cX12_leaveBefore 34 = .ok (.bipush 24, 2) := by decide +kernel
theorem dX12_leaveBefore_36 : decode cX12_leaveBefore 36 = .ok (.irem, 1) := by decide +kernel
theorem dX12_leaveBefore_37 : decode cX12_leaveBefore 37 = .ok (.iaload, 1) := by decide +kernel
theorem dX12_leaveBefore_38 : decode cX12_leaveBefore 38 = .ok (.if_icmp .ge 71, 3) := by decide +kernel
theorem dX12_leaveBefore_41 : decode cX12_leaveBefore 41 = .ok (.aload_n 0, 1) := by decide +kernel
theorem dX12_leaveBefore_42 : decode cX12_leaveBefore 42 = .ok (.iload 4, 2) := by decide +kernel
theorem dX12_leaveBefore_44 : decode cX12_leaveBefore 44 = .ok (.iload 5, 2) := by decide +kernel
theorem dX12_leaveBefore_46 : decode cX12_leaveBefore 46 = .ok (.invokevirtual 223, 3) := by decide +kernel
theorem dX12_leaveBefore_49 : decode cX12_leaveBefore 49 = .ok (.istore 6, 2) := by decide +kernel
theorem dX12_leaveBefore_51 : decode cX12_leaveBefore 51 = .ok (.iload 6, 2) := by decide +kernel
theorem dX12_leaveBefore_53 : decode cX12_leaveBefore 53 = .ok (.aload_n 0, 1) := by decide +kernel
theorem dX12_leaveBefore_54 : decode cX12_leaveBefore 54 = .ok (.getfield 16, 3) := by decide +kernel
theorem dX12_leaveBefore_57 : decode cX12_leaveBefore 57 = .ok (.bipush 12, 2) := by decide +kernel
theorem dX12_leaveBefore_59 : decode cX12_leaveBefore 59 = .ok (.iload_n 1, 1) := by decide +kernel
theorem dX12_leaveBefore_60 : decode cX12_leaveBefore 60 = .ok (.imul, 1) := by decide +kernel
theorem dX12_leaveBefore_61 : decode cX12_leaveBefore 61 = .ok (.aload_n 0, 1) := by decide +kernel
theorem dX12_leaveBefore_62 : decode cX12_leaveBefore 62 = .ok (.iload 4, 2) := by decide +kernel
theorem dX12_leaveBefore_64 : decode cX12_leaveBefore 64 = .ok (.iload 5, 2) := by decide +kernel
theorem dX12_leaveBefore_66 : decode cX12_leaveBefore 66 = .ok (.invokevirtual 214, 3) := by decide +kernel
theorem dX12_leaveBefore_69 : decode cX12_leaveBefore 69 = .ok (.iadd, 1) := by decide +kernel
theorem dX12_leaveBefore_70 : decode cX12_leaveBefore 70 = .ok (.iaload, 1) := by decide +kernel
theorem dX12_leaveBefore_71 : decode cX12_leaveBefore 71 = .ok (.isub, 1) := by decide +kernel
theorem dX12_leaveBefore_72 : decode cX12_leaveBefore 72 = .ok (.istore 7, 2) := by decide +kernel
theorem dX12_leaveBefore_74 : decode cX12_leaveBefore 74 = .ok (.iload 6, 2) := by decide +kernel
theorem dX12_leaveBefore_76 : decode cX12_leaveBefore 76 = .ok (.ifCond .lt 25, 3) := by decide +kernel
theorem dX12_leaveBefore_79 : decode cX12_leaveBefore 79 = .ok (.iload 7, 2) := by decide +kernel
theorem dX12_leaveBefore_81 : decode cX12_leaveBefore 81 = .ok (.ifCond .lt 20, 3) := by decide +kernel
theorem dX12_leaveBefore_84 : decode cX12_leaveBefore 84 = .ok (.iload 7, 2) := by decide +kernel
theorem dX12_leaveBefore_86 : decode cX12_leaveBefore 86 = .ok (.iload_n 2, 1) := by decide +kernel
theorem dX12_leaveBefore_87 : decode cX12_leaveBefore 87 = .ok (.if_icmp .ge 14, 3) := by decide +kernel
theorem dX12_leaveBefore_90 : decode cX12_leaveBefore 90 = .ok (.iload 7, 2) := by decide +kernel
theorem dX12_leaveBefore_92 : decode cX12_leaveBefore 92 = .ok (.iload_n 3, 1) := by decide +kernel
theorem dX12_leaveBefore_93 : decode cX12_leaveBefore 93 = .ok (.if_icmp .le 8, 3) := by decide +kernel
theorem dX12_leaveBefore_96 : decode cX12_leaveBefore 96 = .ok (.iload 7, 2) := by decide +kernel
theorem dX12_leaveBefore_98 : decode cX12_leaveBefore 98 = .ok (.goto 4, 3) := by decide +kernel
theorem dX12_leaveBefore_101 : decode cX12_leaveBefore 101 = .ok (.iload_n 3, 1) := by decide +kernel
theorem dX12_leaveBefore_102 : decode cX12_leaveBefore 102 = .ok (.istore_n 3, 1) := by decide +kernel
theorem dX12_leaveBefore_103 : decode cX12_leaveBefore 103 = .ok (.iinc 5 1, 3) := by decide +kernel
theorem dX12_leaveBefore_106 : decode cX12_leaveBefore 106 = .ok (.goto (-91), 3) := by decide +kernel
theorem dX12_leaveBefore_109 : decode cX12_leaveBefore 109 = .ok (.iinc 4 1, 3) := by decide +kernel
theorem dX12_leaveBefore_112 : decode cX12_leaveBefore 112 = .ok (.goto (-107), 3) := by decide +kernel
theorem dX12_leaveBefore_115 : decode cX12_leaveBefore 115 = .ok (.iload_n 3, 1) := by decide +kernel
theorem dX12_leaveBefore_116 : decode cX12_leaveBefore 116 = .ok (.ireturn, 1) := by decide +kernel
theorem dX12_pairs_0 : decode cX12_pairs 0 = .ok (.aload_n 0, 1) := by decide +kernel
theorem dX12_pairs_1 : decode cX12_pairs 1 = .ok (.iload_n 1, 1) := by decide +kernel
theorem dX12_pairs_2 : decode cX12_pairs 2 = .ok (.invokevirtual 147, 3) := by decide +kernel
theorem dX12_pairs_5 : decode cX12_pairs 5 = .ok (.ifCond .ne 39, 3) := by decide +kernel
theorem dX12_pairs_8 : decode cX12_pairs 8 = .ok (.aload_n 0, 1) := by decide +kernel
theorem dX12_pairs_9 : decode cX12_pairs 9 = .ok (.iload_n 2, 1) := by decide +kernel
theorem dX12_pairs_10 : decode cX12_pairs 10 = .ok (.invokevirtual 147, 3) := by decide +kernel
theorem dX12_pairs_13 : decode cX12_pairs 13 = .ok (.ifCond .ne 31, 3) := by decide +kernel
theorem dX12_pairs_16 : decode cX12_pairs 16 = .ok (.aload_n 0, 1) := by decide +kernel
theorem dX12_pairs_17 : decode cX12_pairs 17 = .ok (.iload_n 1, 1) := by decide +kernel
theorem dX12_pairs_18 : decode cX12_pairs 18 = .ok (.iload_n 2, 1) := by decide +kernel
theorem dX12_pairs_19 : decode cX12_pairs 19 = .ok (.if_icmp .eq 13, 3) := by decide +kernel
theorem dX12_pairs_22 : decode cX12_pairs 22 = .ok (.iload_n 3, 1) := by decide +kernel
theorem dX12_pairs_23 : decode cX12_pairs 23 = .ok (.iconst 0, 1) := by decide +kernel
theorem dX12_pairs_24 : decode cX12_pairs 24 = .ok (.bipush 27, 2) := by decide +kernel
theorem dX12_pairs_26 : decode cX12_pairs 26 = .ok (.invokestatic 126, 3) := by decide +kernel
theorem dX12_pairs_29 : decode cX12_pairs 29 = .ok (.ifCond .ne 7, 3) := by decide +kernel
theorem dX12_pairs_32 : decode cX12_pairs 32 = .ok (.iconst 1, 1) := by decide +kernel
theorem dX12_pairs_33 : decode cX12_pairs 33 = .ok (.goto 4, 3) := by decide +kernel
theorem dX12_pairs_36 : decode cX12_pairs 36 = .ok (.iconst 0, 1) := by decide +kernel
theorem dX12_pairs_37 : decode cX12_pairs 37 = .ok (.iconst 2, 1) := by decide +kernel
theorem dX12_pairs_38 : decode cX12_pairs 38 = .ok (.invokevirtual 130, 3) := by decide +kernel
theorem dX12_pairs_41 : decode cX12_pairs 41 = .ok (.ifCond .eq 5, 3) := by decide +kernel
theorem dX12_pairs_44 : decode cX12_pairs 44 = .ok (.iconst 0, 1) := by decide +kernel
theorem dX12_pairs_45 : decode cX12_pairs 45 = .ok (.ireturn, 1) := by decide +kernel
theorem dX12_pairs_46 : decode cX12_pairs 46 = .ok (.aload_n 0, 1) := by decide +kernel
theorem dX12_pairs_47 : decode cX12_pairs 47 = .ok (.iload_n 1, 1) := by decide +kernel
theorem dX12_pairs_48 : decode cX12_pairs 48 = .ok (.iload_n 2, 1) := by decide +kernel
theorem dX12_pairs_49 : decode cX12_pairs 49 = .ok (.iload_n 3, 1) := by decide +kernel
theorem dX12_pairs_50 : decode cX12_pairs 50 = .ok (.invokevirtual 288, 3) := by decide +kernel
theorem dX12_pairs_53 : decode cX12_pairs 53 = .ok (.aload_n 0, 1) := by decide +kernel
theorem dX12_pairs_54 : decode cX12_pairs 54 = .ok (.getfield 279, 3) := by decide +kernel
theorem dX12_pairs_57 : decode cX12_pairs 57 = .ok (.ireturn, 1) := by decide +kernel
theorem dX12_pair_0 : decode cX12_pair 0 = .ok (.aload_n 0, 1) := by decide +kernel
theorem dX12_pair_1 : decode cX12_pair 1 = .ok (.iload_n 1, 1) := by decide +kernel
theorem dX12_pair_2 : decode cX12_pair 2 = .ok (.invokevirtual 147, 3) := by decide +kernel
theorem dX12_pair_5 : decode cX12_pair 5 = .ok (.ifCond .ne 39, 3) := by decide +kernel
theorem dX12_pair_8 : decode cX12_pair 8 = .ok (.aload_n 0, 1) := by decide +kernel
theorem dX12_pair_9 : decode cX12_pair 9 = .ok (.iload_n 2, 1) := by decide +kernel
theorem dX12_pair_10 : decode cX12_pair 10 = .ok (.invokevirtual 147, 3) := by decide +kernel
theorem dX12_pair_13 : decode cX12_pair 13 = .ok (.ifCond .ne 31, 3) := by decide +kernel
theorem dX12_pair_16 : decode cX12_pair 16 = .ok (.aload_n 0, 1) := by decide +kernel
theorem dX12_pair_17 : decode cX12_pair 17 = .ok (.iload_n 1, 1) := by decide +kernel
theorem dX12_pair_18 : decode cX12_pair 18 = .ok (.iload_n 2, 1) := by decide +kernel
theorem dX12_pair_19 : decode cX12_pair 19 = .ok (.if_icmp .eq 13, 3) := by decide +kernel
theorem dX12_pair_22 : decode cX12_pair 22 = .ok (.iload_n 3, 1) := by decide +kernel
theorem dX12_pair_23 : decode cX12_pair 23 = .ok (.iconst 0, 1) := by decide +kernel
theorem dX12_pair_24 : decode cX12_pair 24 = .ok (.bipush 27, 2) := by decide +kernel
theorem dX12_pair_26 : decode cX12_pair 26 = .ok (.invokestatic 126, 3) := by decide +kernel
theorem dX12_pair_29 : decode cX12_pair 29 = .ok (.ifCond .ne 7, 3) := by decide +kernel
theorem dX12_pair_32 : decode cX12_pair 32 = .ok (.iconst 1, 1) := by decide +kernel
theorem dX12_pair_33 : decode cX12_pair 33 = .ok (.goto 4, 3) := by decide +kernel
theorem dX12_pair_36 : decode cX12_pair 36 = .ok (.iconst 0, 1) := by decide +kernel
theorem dX12_pair_37 : decode cX12_pair 37 = .ok (.iconst 2, 1) := by decide +kernel
theorem dX12_pair_38 : decode cX12_pair 38 = .ok (.invokevirtual 130, 3) := by decide +kernel
theorem dX12_pair_41 : decode cX12_pair 41 = .ok (.ifCond .eq 5, 3) := by decide +kernel
theorem dX12_pair_44 : decode cX12_pair 44 = .ok (.iconst 0, 1) := by decide +kernel
theorem dX12_pair_45 : decode cX12_pair 45 = .ok (.ireturn, 1) := by decide +kernel
theorem dX12_pair_46 : decode cX12_pair 46 = .ok (.aload_n 0, 1) := by decide +kernel
theorem dX12_pair_47 : decode cX12_pair 47 = .ok (.iload_n 1, 1) := by decide +kernel
theorem dX12_pair_48 : decode cX12_pair 48 = .ok (.iload_n 2, 1) := by decide +kernel
theorem dX12_pair_49 : decode cX12_pair 49 = .ok (.iload_n 3, 1) := by decide +kernel
theorem dX12_pair_50 : decode cX12_pair 50 = .ok (.invokevirtual 288, 3) := by decide +kernel
theorem dX12_pair_53 : decode cX12_pair 53 = .ok (.aload_n 0, 1) := by decide +kernel
theorem dX12_pair_54 : decode cX12_pair 54 = .ok (.iload 4, 2) := by decide +kernel
theorem dX12_pair_56 : decode cX12_pair 56 = .ok (.iconst 0, 1) := by decide +kernel
theorem dX12_pair_57 : decode cX12_pair 57 = .ok (.aload_n 0, 1) := by decide +kernel
theorem dX12_pair_58 : decode cX12_pair 58 = .ok (.getfield 279, 3) := by decide +kernel
theorem dX12_pair_61 : decode cX12_pair 61 = .ok (.iconst 1, 1) := by decide +kernel
theorem dX12_pair_62 : decode cX12_pair 62 = .ok (.isub, 1) := by decide +kernel
theorem dX12_pair_63 : decode cX12_pair 63 = .ok (.invokestatic 126, 3) := by decide +kernel
theorem dX12_pair_66 : decode cX12_pair 66 = .ok (.ifCond .ne 7, 3) := by decide +kernel
theorem dX12_pair_69 : decode cX12_pair 69 = .ok (.iconst 1, 1) := by decide +kernel
theorem dX12_pair_70 : decode cX12_pair 70 = .ok (.goto 4, 3) := by decide +kernel
theorem dX12_pair_73 : decode cX12_pair 73 = .ok (.iconst 0, 1) := by decide +kernel
theorem dX12_pair_74 : decode cX12_pair 74 = .ok (.iconst 3, 1) := by decide +kernel
theorem dX12_pair_75 : decode cX12_pair 75 = .ok (.invokevirtual 130, 3) := by decide +kernel
theorem dX12_pair_78 : decode cX12_pair 78 = .ok (.ifCond .eq 5, 3) := by decide +kernel
theorem dX12_pair_81 : decode cX12_pair 81 = .ok (.iconst 0, 1) := by decide +kernel
theorem dX12_pair_82 : decode cX12_pair 82 = .ok (.ireturn, 1) := by decide +kernel
theorem dX12_pair_83 : decode cX12_pair 83 = .ok (.iload 5, 2) := by decide +kernel
theorem dX12_pair_85 : decode cX12_pair 85 = .ok (.ifCond .eq 20, 3) := by decide +kernel
theorem dX12_pair_88 : decode cX12_pair 88 = .ok (.aload_n 0, 1) := by decide +kernel
theorem dX12_pair_89 : decode cX12_pair 89 = .ok (.getfield 87, 3) := by decide +kernel
theorem dX12_pair_92 : decode cX12_pair 92 = .ok (.aload_n 0, 1) := by decide +kernel
theorem dX12_pair_93 : decode cX12_pair 93 = .ok (.getfield 279, 3) := by decide +kernel
theorem dX12_pair_96 : decode cX12_pair 96 = .ok (.iconst 1, 1) := by decide +kernel
theorem dX12_pair_97 : decode cX12_pair 97 = .ok (.isub, 1) := by decide +kernel
theorem dX12_pair_98 : decode cX12_pair 98 = .ok (.iload 4, 2) := by decide +kernel
theorem dX12_pair_100 : decode cX12_pair 100 = .ok (.isub, 1) := by decide +kernel
theorem dX12_pair_101 : decode cX12_pair 101 = .ok (.iaload, 1) := by decide +kernel
theorem dX12_pair_102 : decode cX12_pair 102 = .ok (.goto 17, 3) := by decide +kernel
theorem dX12_pair_105 : decode cX12_pair 105 = .ok (.aload_n 0, 1) := by decide +kernel
theorem dX12_pair_106 : decode cX12_pair 106 = .ok (.getfield 84, 3) := by decide +kernel
theorem dX12_pair_109 : decode cX12_pair 109 = .ok (.aload_n 0, 1) := by decide +kernel
theorem dX12_pair_110 : decode cX12_pair 110 = .ok (.getfield 279, 3) := by decide +kernel
theorem dX12_pair_113 : decode cX12_pair 113 = .ok (.iconst 1, 1) := by decide +kernel
theorem dX12_pair_114 : decode cX12_pair 114 = .ok (.isub, 1) := by decide +kernel
theorem dX12_pair_115 : decode cX12_pair 115 = .ok (.iload 4, 2) := by decide +kernel
theorem dX12_pair_117 : decode cX12_pair 117 = .ok (.isub, 1) := by decide +kernel
theorem dX12_pair_118 : decode cX12_pair 118 = .ok (.iaload, 1) := by decide +kernel
theorem dX12_pair_119 : decode cX12_pair 119 = .ok (.ireturn, 1) := by decide +kernel
theorem dX12_runs_0 : decode cX12_runs 0 = .ok (.aload_n 0, 1) := by decide +kernel
theorem dX12_runs_1 : decode cX12_runs 1 = .ok (.getfield 23, 3) := by decide +kernel
theorem dX12_runs_4 : decode cX12_runs 4 = .ok (.bipush 28, 2) := by decide +kernel
theorem dX12_runs_6 : decode cX12_runs 6 = .ok (.aload_n 0, 1) := by decide +kernel
theorem dX12_runs_7 : decode cX12_runs 7 = .ok (.getfield 27, 3) := by decide +kernel
theorem dX12_runs_10 : decode cX12_runs 10 = .ok (.iload_n 1, 1) := by decide +kernel
theorem dX12_runs_11 : decode cX12_runs 11 = .ok (.iaload, 1) := by decide +kernel
theorem dX12_runs_12 : decode cX12_runs 12 = .ok (.imul, 1) := by decide +kernel
theorem dX12_runs_13 : decode cX12_runs 13 = .ok (.iload_n 2, 1) := by decide +kernel
theorem dX12_runs_14 : decode cX12_runs 14 = .ok (.iadd, 1) := by decide +kernel
theorem dX12_runs_15 : decode cX12_runs 15 = .ok (.baload, 1) := by decide +kernel
theorem dX12_runs_16 : decode cX12_runs 16 = .ok (.ireturn, 1) := by decide +kernel
theorem dX12_isChangeWrong_0 : decode cX12_isChangeWrong 0 = .ok (.iload_n 1, 1) := by decide +kernel
theorem dX12_isChangeWrong_1 : decode cX12_isChangeWrong 1 = .ok (.iload_n 3, 1) := by decide +kernel
theorem dX12_isChangeWrong_2 : decode cX12_isChangeWrong 2 = .ok (.if_icmp .eq 20, 3) := by decide +kernel
theorem dX12_isChangeWrong_5 : decode cX12_isChangeWrong 5 = .ok (.iload_n 2, 1) := by decide +kernel
theorem dX12_isChangeWrong_6 : decode cX12_isChangeWrong 6 = .ok (.ifCond .eq 16, 3) := by decide +kernel
theorem dX12_isChangeWrong_9 : decode cX12_isChangeWrong 9 = .ok (.iload 4, 2) := by decide +kernel
theorem dX12_isChangeWrong_11 : decode cX12_isChangeWrong 11 = .ok (.aload_n 0, 1) := by decide +kernel
theorem dX12_isChangeWrong_12 : decode cX12_isChangeWrong 12 = .ok (.getfield 30, 3) := by decide +kernel
theorem dX12_isChangeWrong_15 : decode cX12_isChangeWrong 15 = .ok (.iload_n 3, 1) := by decide +kernel
theorem dX12_isChangeWrong_16 : decode cX12_isChangeWrong 16 = .ok (.iaload, 1) := by decide +kernel
theorem dX12_isChangeWrong_17 : decode cX12_isChangeWrong 17 = .ok (.iconst 1, 1) := by decide +kernel
theorem dX12_isChangeWrong_18 : decode cX12_isChangeWrong 18 = .ok (.isub, 1) := by decide +kernel
theorem dX12_isChangeWrong_19 : decode cX12_isChangeWrong 19 = .ok (.if_icmp .ne 7, 3) := by decide +kernel
theorem dX12_isChangeWrong_22 : decode cX12_isChangeWrong 22 = .ok (.iconst 1, 1) := by decide +kernel
theorem dX12_isChangeWrong_23 : decode cX12_isChangeWrong 23 = .ok (.goto 4, 3) := by decide +kernel
theorem dX12_isChangeWrong_26 : decode cX12_isChangeWrong 26 = .ok (.iconst 0, 1) := by decide +kernel
theorem dX12_isChangeWrong_27 : decode cX12_isChangeWrong 27 = .ok (.ireturn, 1) := by decide +kernel
theorem dX12_holds_0 : decode cX12_holds 0 = .ok (.aload_n 0, 1) := by decide +kernel
theorem dX12_holds_1 : decode cX12_holds 1 = .ok (.iload_n 2, 1) := by decide +kernel
theorem dX12_holds_2 : decode cX12_holds 2 = .ok (.iload_n 3, 1) := by decide +kernel
theorem dX12_holds_3 : decode cX12_holds 3 = .ok (.invokevirtual 162, 3) := by decide +kernel
theorem dX12_holds_6 : decode cX12_holds 6 = .ok (.ifCond .ne 82, 3) := by decide +kernel
theorem dX12_holds_9 : decode cX12_holds 9 = .ok (.aload_n 0, 1) := by decide +kernel
theorem dX12_holds_10 : decode cX12_holds 10 = .ok (.iload 4, 2) := by decide +kernel
theorem dX12_holds_12 : decode cX12_holds 12 = .ok (.iload 5, 2) := by decide +kernel
theorem dX12_holds_14 : decode cX12_holds 14 = .ok (.invokevirtual 162, 3) := by decide +kernel
theorem dX12_holds_17 : decode cX12_holds 17 = .ok (.ifCond .ne 71, 3) := by decide +kernel
theorem dX12_holds_20 : decode cX12_holds 20 = .ok (.aload_n 0, 1) := by decide +kernel
theorem dX12_holds_21 : decode cX12_holds 21 = .ok (.iload_n 1, 1) := by decide +kernel
theorem dX12_holds_22 : decode cX12_holds 22 = .ok (.iconst 0, 1) := by decide +kernel
theorem dX12_holds_23 : decode cX12_holds 23 = .ok (.bipush 27, 2) := by decide +kernel
theorem dX12_holds_25 : decode cX12_holds 25 = .ok (.invokestatic 126, 3) := by decide +kernel
theorem dX12_holds_28 : decode cX12_holds 28 = .ok (.ifCond .eq 16, 3) := by decide +kernel
theorem dX12_holds_31 : decode cX12_holds 31 = .ok (.aload_n 0, 1) := by decide +kernel
theorem dX12_holds_32 : decode cX12_holds 32 = .ok (.iload_n 2, 1) := by decide +kernel
theorem dX12_holds_33 : decode cX12_holds 33 = .ok (.iload_n 3, 1) := by decide +kernel
theorem dX12_holds_34 : decode cX12_holds 34 = .ok (.iload 4, 2) := by decide +kernel
theorem dX12_holds_36 : decode cX12_holds 36 = .ok (.iload 5, 2) := by decide +kernel
theorem dX12_holds_38 : decode cX12_holds 38 = .ok (.invokevirtual 291, 3) := by decide +kernel
theorem dX12_holds_41 : decode cX12_holds 41 = .ok (.ifCond .eq 7, 3) := by decide +kernel
theorem dX12_holds_44 : decode cX12_holds 44 = .ok (.iconst 1, 1) := by decide +kernel
theorem dX12_holds_45 : decode cX12_holds 45 = .ok (.goto 4, 3) := by decide +kernel
theorem dX12_holds_48 : decode cX12_holds 48 = .ok (.iconst 0, 1) := by decide +kernel
theorem dX12_holds_49 : decode cX12_holds 49 = .ok (.iconst 2, 1) := by decide +kernel
theorem dX12_holds_50 : decode cX12_holds 50 = .ok (.invokevirtual 130, 3) := by decide +kernel
theorem dX12_holds_53 : decode cX12_holds 53 = .ok (.ifCond .ne 35, 3) := by decide +kernel
theorem dX12_holds_56 : decode cX12_holds 56 = .ok (.aload_n 0, 1) := by decide +kernel
theorem dX12_holds_57 : decode cX12_holds 57 = .ok (.aload_n 0, 1) := by decide +kernel
theorem dX12_holds_58 : decode cX12_holds 58 = .ok (.iload_n 2, 1) := by decide +kernel
theorem dX12_holds_59 : decode cX12_holds 59 = .ok (.iload_n 1, 1) := by decide +kernel
theorem dX12_holds_60 : decode cX12_holds 60 = .ok (.invokevirtual 294, 3) := by decide +kernel
theorem dX12_holds_63 : decode cX12_holds 63 = .ok (.ifCond .eq 13, 3) := by decide +kernel
theorem dX12_holds_66 : decode cX12_holds 66 = .ok (.aload_n 0, 1) := by decide +kernel
theorem dX12_holds_67 : decode cX12_holds 67 = .ok (.iload 4, 2) := by decide +kernel
theorem dX12_holds_69 : decode cX12_holds 69 = .ok (.iload_n 1, 1) := by decide +kernel
theorem dX12_holds_70 : decode cX12_holds 70 = .ok (.invokevirtual 294, 3) := by decide +kernel
theorem dX12_holds_73 : decode cX12_holds 73 = .ok (.ifCond .ne 7, 3) := by decide +kernel
theorem dX12_holds_76 : decode cX12_holds 76 = .ok (.iconst 1, 1) := by decide +kernel
theorem dX12_holds_77 : decode cX12_holds 77 = .ok (.goto 4, 3) := by decide +kernel
theorem dX12_holds_80 : decode cX12_holds 80 = .ok (.iconst 0, 1) := by decide +kernel
theorem dX12_holds_81 : decode cX12_holds 81 = .ok (.iconst 3, 1) := by decide +kernel
theorem dX12_holds_82 : decode cX12_holds 82 = .ok (.invokevirtual 130, 3) := by decide +kernel
theorem dX12_holds_85 : decode cX12_holds 85 = .ok (.ifCond .eq 5, 3) := by decide +kernel
theorem dX12_holds_88 : decode cX12_holds 88 = .ok (.iconst 0, 1) := by decide +kernel
theorem dX12_holds_89 : decode cX12_holds 89 = .ok (.ireturn, 1) := by decide +kernel
theorem dX12_holds_90 : decode cX12_holds 90 = .ok (.aload_n 0, 1) := by decide +kernel
theorem dX12_holds_91 : decode cX12_holds 91 = .ok (.iload_n 1, 1) := by decide +kernel
theorem dX12_holds_92 : decode cX12_holds 92 = .ok (.putfield 198, 3) := by decide +kernel
theorem dX12_holds_95 : decode cX12_holds 95 = .ok (.aload_n 0, 1) := by decide +kernel
theorem dX12_holds_96 : decode cX12_holds 96 = .ok (.getfield 33, 3) := by decide +kernel
theorem dX12_holds_99 : decode cX12_holds 99 = .ok (.bipush 8, 2) := by decide +kernel
theorem dX12_holds_101 : decode cX12_holds 101 = .ok (.iload_n 2, 1) := by decide +kernel
theorem dX12_holds_102 : decode cX12_holds 102 = .ok (.imul, 1) := by decide +kernel
theorem dX12_holds_103 : decode cX12_holds 103 = .ok (.iload_n 3, 1) := by decide +kernel
theorem dX12_holds_104 : decode cX12_holds 104 = .ok (.iadd, 1) := by decide +kernel
theorem dX12_holds_105 : decode cX12_holds 105 = .ok (.iaload, 1) := by decide +kernel
theorem dX12_holds_106 : decode cX12_holds 106 = .ok (.istore 6, 2) := by decide +kernel
theorem dX12_holds_108 : decode cX12_holds 108 = .ok (.aload_n 0, 1) := by decide +kernel
theorem dX12_holds_109 : decode cX12_holds 109 = .ok (.getfield 33, 3) := by decide +kernel
theorem dX12_holds_112 : decode cX12_holds 112 = .ok (.bipush 8, 2) := by decide +kernel
theorem dX12_holds_114 : decode cX12_holds 114 = .ok (.iload 4, 2) := by decide +kernel
theorem dX12_holds_116 : decode cX12_holds 116 = .ok (.imul, 1) := by decide +kernel
theorem dX12_holds_117 : decode cX12_holds 117 = .ok (.iload 5, 2) := by decide +kernel
theorem dX12_holds_119 : decode cX12_holds 119 = .ok (.iadd, 1) := by decide +kernel
theorem dX12_holds_120 : decode cX12_holds 120 = .ok (.iaload, 1) := by decide +kernel
theorem dX12_holds_121 : decode cX12_holds 121 = .ok (.istore 7, 2) := by decide +kernel
theorem dX12_holds_123 : decode cX12_holds 123 = .ok (.aload_n 0, 1) := by decide +kernel
theorem dX12_holds_124 : decode cX12_holds 124 = .ok (.aload_n 0, 1) := by decide +kernel
theorem dX12_holds_125 : decode cX12_holds 125 = .ok (.getfield 16, 3) := by decide +kernel
theorem dX12_holds_128 : decode cX12_holds 128 = .ok (.bipush 12, 2) := by decide +kernel
theorem dX12_holds_130 : decode cX12_holds 130 = .ok (.iload 6, 2) := by decide +kernel
theorem dX12_holds_132 : decode cX12_holds 132 = .ok (.imul, 1) := by decide +kernel
theorem dX12_holds_133 : decode cX12_holds 133 = .ok (.iload 7, 2) := by decide +kernel
theorem dX12_holds_135 : decode cX12_holds 135 = .ok (.iadd, 1) := by decide +kernel
theorem dX12_holds_136 : decode cX12_holds 136 = .ok (.iaload, 1) := by decide +kernel
theorem dX12_holds_137 : decode cX12_holds 137 = .ok (.ldc 150, 2) := by decide +kernel
theorem dX12_holds_139 : decode cX12_holds 139 = .ok (.if_icmp .lt 7, 3) := by decide +kernel
theorem dX12_holds_142 : decode cX12_holds 142 = .ok (.iconst 1, 1) := by decide +kernel
theorem dX12_holds_143 : decode cX12_holds 143 = .ok (.goto 4, 3) := by decide +kernel
theorem dX12_holds_146 : decode cX12_holds 146 = .ok (.iconst 0, 1) := by decide +kernel
theorem dX12_holds_147 : decode cX12_holds 147 = .ok (.iconst 4, 1) := by decide +kernel
theorem dX12_holds_148 : decode cX12_holds 148 = .ok (.invokevirtual 130, 3) := by decide +kernel
theorem dX12_holds_151 : decode cX12_holds 151 = .ok (.ifCond .eq 5, 3) := by decide +kernel
theorem dX12_holds_154 : decode cX12_holds 154 = .ok (.iconst 0, 1) := by decide +kernel
theorem dX12_holds_155 : decode cX12_holds 155 = .ok (.ireturn, 1) := by decide +kernel
theorem dX12_holds_156 : decode cX12_holds 156 = .ok (.iload 6, 2) := by decide +kernel
theorem dX12_holds_158 : decode cX12_holds 158 = .ok (.iload 7, 2) := by decide +kernel
theorem dX12_holds_160 : decode cX12_holds 160 = .ok (.if_icmp .ne 13, 3) := by decide +kernel
theorem dX12_holds_163 : decode cX12_holds 163 = .ok (.aload_n 0, 1) := by decide +kernel
theorem dX12_holds_164 : decode cX12_holds 164 = .ok (.getfield 9, 3) := by decide +kernel
theorem dX12_holds_167 : decode cX12_holds 167 = .ok (.iload 6, 2) := by decide +kernel
theorem dX12_holds_169 : decode cX12_holds 169 = .ok (.iaload, 1) := by decide +kernel
theorem dX12_holds_170 : decode cX12_holds 170 = .ok (.goto 16, 3) := by decide +kernel
theorem dX12_holds_173 : decode cX12_holds 173 = .ok (.aload_n 0, 1) := by decide +kernel
theorem dX12_holds_174 : decode cX12_holds 174 = .ok (.getfield 16, 3) := by decide +kernel
theorem dX12_holds_177 : decode cX12_holds 177 = .ok (.bipush 12, 2) := by decide +kernel
theorem dX12_holds_179 : decode cX12_holds 179 = .ok (.iload 6, 2) := by decide +kernel
theorem dX12_holds_181 : decode cX12_holds 181 = .ok (.imul, 1) := by decide +kernel
theorem dX12_holds_182 : decode cX12_holds 182 = .ok (.iload 7, 2) := by decide +kernel
theorem dX12_holds_184 : decode cX12_holds 184 = .ok (.iadd, 1) := by decide +kernel
theorem dX12_holds_185 : decode cX12_holds 185 = .ok (.iaload, 1) := by decide +kernel
theorem dX12_holds_186 : decode cX12_holds 186 = .ok (.istore 8, 2) := by decide +kernel
theorem dX12_holds_188 : decode cX12_holds 188 = .ok (.aload_n 0, 1) := by decide +kernel
theorem dX12_holds_189 : decode cX12_holds 189 = .ok (.bipush 24, 2) := by decide +kernel
theorem dX12_holds_191 : decode cX12_holds 191 = .ok (.iload_n 2, 1) := by decide +kernel
theorem dX12_holds_192 : decode cX12_holds 192 = .ok (.iadd, 1) := by decide +kernel
theorem dX12_holds_193 : decode cX12_holds 193 = .ok (.iload_n 3, 1) := by decide +kernel
theorem dX12_holds_194 : decode cX12_holds 194 = .ok (.invokevirtual 217, 3) := by decide +kernel
theorem dX12_holds_197 : decode cX12_holds 197 = .ok (.iload 8, 2) := by decide +kernel
theorem dX12_holds_199 : decode cX12_holds 199 = .ok (.iadd, 1) := by decide +kernel
theorem dX12_holds_200 : decode cX12_holds 200 = .ok (.aload_n 0, 1) := by decide +kernel
theorem dX12_holds_201 : decode cX12_holds 201 = .ok (.bipush 24, 2) := by decide +kernel
theorem dX12_holds_203 : decode cX12_holds 203 = .ok (.iload 4, 2) := by decide +kernel
theorem dX12_holds_205 : decode cX12_holds 205 = .ok (.iadd, 1) := by decide +kernel
theorem dX12_holds_206 : decode cX12_holds 206 = .ok (.iload 5, 2) := by decide +kernel
theorem dX12_holds_208 : decode cX12_holds 208 = .ok (.invokevirtual 223, 3) := by decide +kernel
theorem dX12_holds_211 : decode cX12_holds 211 = .ok (.if_icmp .gt 7, 3) := by decide +kernel
theorem dX12_holds_214 : decode cX12_holds 214 = .ok (.iconst 1, 1) := by decide +kernel
theorem dX12_holds_215 : decode cX12_holds 215 = .ok (.goto 4, 3) := by decide +kernel
theorem dX12_holds_218 : decode cX12_holds 218 = .ok (.iconst 0, 1) := by decide +kernel
theorem dX12_holds_219 : decode cX12_holds 219 = .ok (.ireturn, 1) := by decide +kernel
theorem dX12_wish_0 : decode cX12_wish 0 = .ok (.aload_n 0, 1) := by decide +kernel
theorem dX12_wish_1 : decode cX12_wish 1 = .ok (.iload_n 1, 1) := by decide +kernel
theorem dX12_wish_2 : decode cX12_wish 2 = .ok (.iload_n 2, 1) := by decide +kernel
theorem dX12_wish_3 : decode cX12_wish 3 = .ok (.invokevirtual 162, 3) := by decide +kernel
theorem dX12_wish_6 : decode cX12_wish 6 = .ok (.ifCond .ne 49, 3) := by decide +kernel
theorem dX12_wish_9 : decode cX12_wish 9 = .ok (.aload_n 0, 1) := by decide +kernel
theorem dX12_wish_10 : decode cX12_wish 10 = .ok (.iload_n 3, 1) := by decide +kernel
theorem dX12_wish_11 : decode cX12_wish 11 = .ok (.iload 4, 2) := by decide +kernel
theorem dX12_wish_13 : decode cX12_wish 13 = .ok (.invokevirtual 162, 3) := by decide +kernel
theorem dX12_wish_16 : decode cX12_wish 16 = .ok (.ifCond .ne 39, 3) := by decide +kernel
theorem dX12_wish_19 : decode cX12_wish 19 = .ok (.aload_n 0, 1) := by decide +kernel
theorem dX12_wish_20 : decode cX12_wish 20 = .ok (.aload_n 0, 1) := by decide +kernel
theorem dX12_wish_21 : decode cX12_wish 21 = .ok (.iload_n 1, 1) := by decide +kernel
theorem dX12_wish_22 : decode cX12_wish 22 = .ok (.iload_n 2, 1) := by decide +kernel
theorem dX12_wish_23 : decode cX12_wish 23 = .ok (.iload_n 3, 1) := by decide +kernel
theorem dX12_wish_24 : decode cX12_wish 24 = .ok (.iload 4, 2) := by decide +kernel
theorem dX12_wish_26 : decode cX12_wish 26 = .ok (.invokevirtual 291, 3) := by decide +kernel
theorem dX12_wish_29 : decode cX12_wish 29 = .ok (.ifCond .ne 14, 3) := by decide +kernel
theorem dX12_wish_32 : decode cX12_wish 32 = .ok (.iload 5, 2) := by decide +kernel
theorem dX12_wish_34 : decode cX12_wish 34 = .ok (.iconst 1, 1) := by decide +kernel
theorem dX12_wish_35 : decode cX12_wish 35 = .ok (.bipush 99, 2) := by decide +kernel
theorem dX12_wish_37 : decode cX12_wish 37 = .ok (.invokestatic 126, 3) := by decide +kernel
theorem dX12_wish_40 : decode cX12_wish 40 = .ok (.ifCond .ne 7, 3) := by decide +kernel
theorem dX12_wish_43 : decode cX12_wish 43 = .ok (.iconst 1, 1) := by decide +kernel
theorem dX12_wish_44 : decode cX12_wish 44 = .ok (.goto 4, 3) := by decide +kernel
theorem dX12_wish_47 : decode cX12_wish 47 = .ok (.iconst 0, 1) := by decide +kernel
theorem dX12_wish_48 : decode cX12_wish 48 = .ok (.iconst 2, 1) := by decide +kernel
theorem dX12_wish_49 : decode cX12_wish 49 = .ok (.invokevirtual 130, 3) := by decide +kernel
theorem dX12_wish_52 : decode cX12_wish 52 = .ok (.ifCond .eq 5, 3) := by decide +kernel
theorem dX12_wish_55 : decode cX12_wish 55 = .ok (.iconst 0, 1) := by decide +kernel
theorem dX12_wish_56 : decode cX12_wish 56 = .ok (.ireturn, 1) := by decide +kernel
theorem dX12_wish_57 : decode cX12_wish 57 = .ok (.aload_n 0, 1) := by decide +kernel
theorem dX12_wish_58 : decode cX12_wish 58 = .ok (.aload_n 0, 1) := by decide +kernel
theorem dX12_wish_59 : decode cX12_wish 59 = .ok (.getfield 33, 3) := by decide +kernel
theorem dX12_wish_62 : decode cX12_wish 62 = .ok (.bipush 8, 2) := by decide +kernel
theorem dX12_wish_64 : decode cX12_wish 64 = .ok (.iload_n 1, 1) := by decide +kernel
theorem dX12_wish_65 : decode cX12_wish 65 = .ok (.imul, 1) := by decide +kernel
theorem dX12_wish_66 : decode cX12_wish 66 = .ok (.iload_n 2, 1) := by decide +kernel
theorem dX12_wish_67 : decode cX12_wish 67 = .ok (.iadd, 1) := by decide +kernel
theorem dX12_wish_68 : decode cX12_wish 68 = .ok (.iaload, 1) := by decide +kernel
theorem dX12_wish_69 : decode cX12_wish 69 = .ok (.aload_n 0, 1) := by decide +kernel
theorem dX12_wish_70 : decode cX12_wish 70 = .ok (.getfield 33, 3) := by decide +kernel
theorem dX12_wish_73 : decode cX12_wish 73 = .ok (.bipush 8, 2) := by decide +kernel
theorem dX12_wish_75 : decode cX12_wish 75 = .ok (.iload_n 3, 1) := by decide +kernel
theorem dX12_wish_76 : decode cX12_wish 76 = .ok (.imul, 1) := by decide +kernel
theorem dX12_wish_77 : decode cX12_wish 77 = .ok (.iload 4, 2) := by decide +kernel
theorem dX12_wish_79 : decode cX12_wish 79 = .ok (.iadd, 1) := by decide +kernel
theorem dX12_wish_80 : decode cX12_wish 80 = .ok (.iaload, 1) := by decide +kernel
theorem dX12_wish_81 : decode cX12_wish 81 = .ok (.if_icmp .eq 7, 3) := by decide +kernel
theorem dX12_wish_84 : decode cX12_wish 84 = .ok (.iconst 1, 1) := by decide +kernel
theorem dX12_wish_85 : decode cX12_wish 85 = .ok (.goto 4, 3) := by decide +kernel
theorem dX12_wish_88 : decode cX12_wish 88 = .ok (.iconst 0, 1) := by decide +kernel
theorem dX12_wish_89 : decode cX12_wish 89 = .ok (.iconst 3, 1) := by decide +kernel
theorem dX12_wish_90 : decode cX12_wish 90 = .ok (.invokevirtual 130, 3) := by decide +kernel
theorem dX12_wish_93 : decode cX12_wish 93 = .ok (.ifCond .ne 25, 3) := by decide +kernel
theorem dX12_wish_96 : decode cX12_wish 96 = .ok (.aload_n 0, 1) := by decide +kernel
theorem dX12_wish_97 : decode cX12_wish 97 = .ok (.aload_n 0, 1) := by decide +kernel
theorem dX12_wish_98 : decode cX12_wish 98 = .ok (.getfield 297, 3) := by decide +kernel
theorem dX12_wish_101 : decode cX12_wish 101 = .ok (.bipush 6, 2) := by decide +kernel
theorem dX12_wish_103 : decode cX12_wish 103 = .ok (.if_icmp .ne 7, 3) := by decide +kernel
theorem dX12_wish_106 : decode cX12_wish 106 = .ok (.iconst 1, 1) := by decide +kernel
theorem dX12_wish_107 : decode cX12_wish 107 = .ok (.goto 4, 3) := by decide +kernel
theorem dX12_wish_110 : decode cX12_wish 110 = .ok (.iconst 0, 1) := by decide +kernel
theorem dX12_wish_111 : decode cX12_wish 111 = .ok (.iconst 4, 1) := by decide +kernel
theorem dX12_wish_112 : decode cX12_wish 112 = .ok (.invokevirtual 130, 3) := by decide +kernel
theorem dX12_wish_115 : decode cX12_wish 115 = .ok (.ifCond .eq 5, 3) := by decide +kernel
theorem dX12_wish_118 : decode cX12_wish 118 = .ok (.iconst 0, 1) := by decide +kernel
theorem dX12_wish_119 : decode cX12_wish 119 = .ok (.ireturn, 1) := by decide +kernel
theorem dX12_wish_120 : decode cX12_wish 120 = .ok (.aload_n 0, 1) := by decide +kernel
theorem dX12_wish_121 : decode cX12_wish 121 = .ok (.getfield 90, 3) := by decide +kernel
theorem dX12_wish_124 : decode cX12_wish 124 = .ok (.aload_n 0, 1) := by decide +kernel
theorem dX12_wish_125 : decode cX12_wish 125 = .ok (.getfield 297, 3) := by decide +kernel
theorem dX12_wish_128 : decode cX12_wish 128 = .ok (.iload_n 1, 1) := by decide +kernel
theorem dX12_wish_129 : decode cX12_wish 129 = .ok (.iastore, 1) := by decide +kernel
theorem dX12_wish_130 : decode cX12_wish 130 = .ok (.aload_n 0, 1) := by decide +kernel
theorem dX12_wish_131 : decode cX12_wish 131 = .ok (.getfield 93, 3) := by decide +kernel
theorem dX12_wish_134 : decode cX12_wish 134 = .ok (.aload_n 0, 1) := by decide +kernel
theorem dX12_wish_135 : decode cX12_wish 135 = .ok (.getfield 297, 3) := by decide +kernel
theorem dX12_wish_138 : decode cX12_wish 138 = .ok (.iload_n 2, 1) := by decide +kernel
theorem dX12_wish_139 : decode cX12_wish 139 = .ok (.iastore, 1) := by decide +kernel
theorem dX12_wish_140 : decode cX12_wish 140 = .ok (.aload_n 0, 1) := by decide +kernel
theorem dX12_wish_141 : decode cX12_wish 141 = .ok (.getfield 96, 3) := by decide +kernel
theorem dX12_wish_144 : decode cX12_wish 144 = .ok (.aload_n 0, 1) := by decide +kernel
theorem dX12_wish_145 : decode cX12_wish 145 = .ok (.getfield 297, 3) := by decide +kernel
theorem dX12_wish_148 : decode cX12_wish 148 = .ok (.iload_n 3, 1) := by decide +kernel
theorem dX12_wish_149 : decode cX12_wish 149 = .ok (.iastore, 1) := by decide +kernel
theorem dX12_wish_150 : decode cX12_wish 150 = .ok (.aload_n 0, 1) := by decide +kernel
theorem dX12_wish_151 : decode cX12_wish 151 = .ok (.getfield 99, 3) := by decide +kernel
theorem dX12_wish_154 : decode cX12_wish 154 = .ok (.aload_n 0, 1) := by decide +kernel
theorem dX12_wish_155 : decode cX12_wish 155 = .ok (.getfield 297, 3) := by decide +kernel
theorem dX12_wish_158 : decode cX12_wish 158 = .ok (.iload 4, 2) := by decide +kernel
theorem dX12_wish_160 : decode cX12_wish 160 = .ok (.iastore, 1) := by decide +kernel
theorem dX12_wish_161 : decode cX12_wish 161 = .ok (.aload_n 0, 1) := by decide +kernel
theorem dX12_wish_162 : decode cX12_wish 162 = .ok (.getfield 102, 3) := by decide +kernel
theorem dX12_wish_165 : decode cX12_wish 165 = .ok (.aload_n 0, 1) := by decide +kernel
theorem dX12_wish_166 : decode cX12_wish 166 = .ok (.getfield 297, 3) := by decide +kernel
theorem dX12_wish_169 : decode cX12_wish 169 = .ok (.iload 5, 2) := by decide +kernel
theorem dX12_wish_171 : decode cX12_wish 171 = .ok (.iastore, 1) := by decide +kernel
theorem dX12_wish_172 : decode cX12_wish 172 = .ok (.aload_n 0, 1) := by decide +kernel
theorem dX12_wish_173 : decode cX12_wish 173 = .ok (.dup, 1) := by decide +kernel
theorem dX12_wish_174 : decode cX12_wish 174 = .ok (.getfield 297, 3) := by decide +kernel
theorem dX12_wish_177 : decode cX12_wish 177 = .ok (.iconst 1, 1) := by decide +kernel
theorem dX12_wish_178 : decode cX12_wish 178 = .ok (.iadd, 1) := by decide +kernel
theorem dX12_wish_179 : decode cX12_wish 179 = .ok (.putfield 297, 3) := by decide +kernel
theorem dX12_wish_182 : decode cX12_wish 182 = .ok (.aload_n 0, 1) := by decide +kernel
theorem dX12_wish_183 : decode cX12_wish 183 = .ok (.getfield 297, 3) := by decide +kernel
theorem dX12_wish_186 : decode cX12_wish 186 = .ok (.iconst 1, 1) := by decide +kernel
theorem dX12_wish_187 : decode cX12_wish 187 = .ok (.isub, 1) := by decide +kernel
theorem dX12_wish_188 : decode cX12_wish 188 = .ok (.ireturn, 1) := by decide +kernel
theorem dX12_dropWishes_0 : decode cX12_dropWishes 0 = .ok (.aload_n 0, 1) := by decide +kernel
theorem dX12_dropWishes_1 : decode cX12_dropWishes 1 = .ok (.iconst 0, 1) := by decide +kernel
theorem dX12_dropWishes_2 : decode cX12_dropWishes 2 = .ok (.putfield 120, 3) := by decide +kernel
theorem dX12_dropWishes_5 : decode cX12_dropWishes 5 = .ok (.aload_n 0, 1) := by decide +kernel
theorem dX12_dropWishes_6 : decode cX12_dropWishes 6 = .ok (.getfield 297, 3) := by decide +kernel
theorem dX12_dropWishes_9 : decode cX12_dropWishes 9 = .ok (.istore_n 1, 1) := by decide +kernel
theorem dX12_dropWishes_10 : decode cX12_dropWishes 10 = .ok (.aload_n 0, 1) := by decide +kernel
theorem dX12_dropWishes_11 : decode cX12_dropWishes 11 = .ok (.iconst 0, 1) := by decide +kernel
theorem dX12_dropWishes_12 : decode cX12_dropWishes 12 = .ok (.putfield 297, 3) := by decide +kernel
theorem dX12_dropWishes_15 : decode cX12_dropWishes 15 = .ok (.iload_n 1, 1) := by decide +kernel
theorem dX12_dropWishes_16 : decode cX12_dropWishes 16 = .ok (.ireturn, 1) := by decide +kernel
theorem dX12_counts_0 : decode cX12_counts 0 = .ok (.aload_n 0, 1) := by decide +kernel
theorem dX12_counts_1 : decode cX12_counts 1 = .ok (.aload_n 0, 1) := by decide +kernel
theorem dX12_counts_2 : decode cX12_counts 2 = .ok (.getfield 90, 3) := by decide +kernel
theorem dX12_counts_5 : decode cX12_counts 5 = .ok (.iload_n 1, 1) := by decide +kernel
theorem dX12_counts_6 : decode cX12_counts 6 = .ok (.iaload, 1) := by decide +kernel
theorem dX12_counts_7 : decode cX12_counts 7 = .ok (.iload_n 2, 1) := by decide +kernel
theorem dX12_counts_8 : decode cX12_counts 8 = .ok (.invokevirtual 294, 3) := by decide +kernel
theorem dX12_counts_11 : decode cX12_counts 11 = .ok (.ifCond .eq 21, 3) := by decide +kernel
theorem dX12_counts_14 : decode cX12_counts 14 = .ok (.aload_n 0, 1) := by decide +kernel
theorem dX12_counts_15 : decode cX12_counts 15 = .ok (.aload_n 0, 1) := by decide +kernel
theorem dX12_counts_16 : decode cX12_counts 16 = .ok (.getfield 96, 3) := by decide +kernel
theorem dX12_counts_19 : decode cX12_counts 19 = .ok (.iload_n 1, 1) := by decide +kernel
theorem dX12_counts_20 : decode cX12_counts 20 = .ok (.iaload, 1) := by decide +kernel
theorem dX12_counts_21 : decode cX12_counts 21 = .ok (.iload_n 2, 1) := by decide +kernel
theorem dX12_counts_22 : decode cX12_counts 22 = .ok (.invokevirtual 294, 3) := by decide +kernel
theorem dX12_counts_25 : decode cX12_counts 25 = .ok (.ifCond .eq 7, 3) := by decide +kernel
theorem dX12_counts_28 : decode cX12_counts 28 = .ok (.iconst 1, 1) := by decide +kernel
theorem dX12_counts_29 : decode cX12_counts 29 = .ok (.goto 4, 3) := by decide +kernel
theorem dX12_counts_32 : decode cX12_counts 32 = .ok (.iconst 0, 1) := by decide +kernel
theorem dX12_counts_33 : decode cX12_counts 33 = .ok (.ireturn, 1) := by decide +kernel
theorem dX12_missedBy_0 : decode cX12_missedBy 0 = .ok (.aload_n 0, 1) := by decide +kernel
theorem dX12_missedBy_1 : decode cX12_missedBy 1 = .ok (.getfield 90, 3) := by decide +kernel
theorem dX12_missedBy_4 : decode cX12_missedBy 4 = .ok (.iload_n 1, 1) := by decide +kernel
theorem dX12_missedBy_5 : decode cX12_missedBy 5 = .ok (.iaload, 1) := by decide +kernel
theorem dX12_missedBy_6 : decode cX12_missedBy 6 = .ok (.istore_n 2, 1) := by decide +kernel
theorem dX12_missedBy_7 : decode cX12_missedBy 7 = .ok (.aload_n 0, 1) := by decide +kernel
theorem dX12_missedBy_8 : decode cX12_missedBy 8 = .ok (.getfield 93, 3) := by decide +kernel
theorem dX12_missedBy_11 : decode cX12_missedBy 11 = .ok (.iload_n 1, 1) := by decide +kernel
theorem dX12_missedBy_12 : decode cX12_missedBy 12 = .ok (.iaload, 1) := by decide +kernel
theorem dX12_missedBy_13 : decode cX12_missedBy 13 = .ok (.istore_n 3, 1) := by decide +kernel
theorem dX12_missedBy_14 : decode cX12_missedBy 14 = .ok (.aload_n 0, 1) := by decide +kernel
theorem dX12_missedBy_15 : decode cX12_missedBy 15 = .ok (.getfield 36, 3) := by decide +kernel
theorem dX12_missedBy_18 : decode cX12_missedBy 18 = .ok (.bipush 8, 2) := by decide +kernel
theorem dX12_missedBy_20 : decode cX12_missedBy 20 = .ok (.iload_n 2, 1) := by decide +kernel
theorem dX12_missedBy_21 : decode cX12_missedBy 21 = .ok (.imul, 1) := by decide +kernel
theorem dX12_missedBy_22 : decode cX12_missedBy 22 = .ok (.iload_n 3, 1) := by decide +kernel
theorem dX12_missedBy_23 : decode cX12_missedBy 23 = .ok (.iadd, 1) := by decide +kernel
theorem dX12_missedBy_24 : decode cX12_missedBy 24 = .ok (.iaload, 1) := by decide +kernel
theorem dX12_missedBy_25 : decode cX12_missedBy 25 = .ok (.aload_n 0, 1) := by decide +kernel
theorem dX12_missedBy_26 : decode cX12_missedBy 26 = .ok (.getfield 105, 3) := by decide +kernel
theorem dX12_missedBy_29 : decode cX12_missedBy 29 = .ok (.bipush 8, 2) := by decide +kernel
theorem dX12_missedBy_31 : decode cX12_missedBy 31 = .ok (.iload_n 2, 1) := by decide +kernel
theorem dX12_missedBy_32 : decode cX12_missedBy 32 = .ok (.imul, 1) := by decide +kernel
theorem dX12_missedBy_33 : decode cX12_missedBy 33 = .ok (.iload_n 3, 1) := by decide +kernel
theorem dX12_missedBy_34 : decode cX12_missedBy 34 = .ok (.iadd, 1) := by decide +kernel
theorem dX12_missedBy_35 : decode cX12_missedBy 35 = .ok (.iconst 1, 1) := by decide +kernel
theorem dX12_missedBy_36 : decode cX12_missedBy 36 = .ok (.isub, 1) := by decide +kernel
theorem dX12_missedBy_37 : decode cX12_missedBy 37 = .ok (.iaload, 1) := by decide +kernel
theorem dX12_missedBy_38 : decode cX12_missedBy 38 = .ok (.iadd, 1) := by decide +kernel
theorem dX12_missedBy_39 : decode cX12_missedBy 39 = .ok (.istore 4, 2) := by decide +kernel
theorem dX12_missedBy_41 : decode cX12_missedBy 41 = .ok (.iload 4, 2) := by decide +kernel
theorem dX12_missedBy_43 : decode cX12_missedBy 43 = .ok (.aload_n 0, 1) := by decide +kernel
theorem dX12_missedBy_44 : decode cX12_missedBy 44 = .ok (.getfield 9, 3) := by decide +kernel
theorem dX12_missedBy_47 : decode cX12_missedBy 47 = .ok (.aload_n 0, 1) := by decide +kernel
theorem dX12_missedBy_48 : decode cX12_missedBy 48 = .ok (.getfield 33, 3) := by decide +kernel
theorem dX12_missedBy_51 : decode cX12_missedBy 51 = .ok (.bipush 8, 2) := by decide +kernel
theorem dX12_missedBy_53 : decode cX12_missedBy 53 = .ok (.iload_n 2, 1) := by decide +kernel
theorem dX12_missedBy_54 : decode cX12_missedBy 54 = .ok (.imul, 1) := by decide +kernel
theorem dX12_missedBy_55 : decode cX12_missedBy 55 = .ok (.iload_n 3, 1) := by decide +kernel
theorem dX12_missedBy_56 : decode cX12_missedBy 56 = .ok (.iadd, 1) := by decide +kernel
theorem dX12_missedBy_57 : decode cX12_missedBy 57 = .ok (.iaload, 1) := by decide +kernel
theorem dX12_missedBy_58 : decode cX12_missedBy 58 = .ok (.iaload, 1) := by decide +kernel
theorem dX12_missedBy_59 : decode cX12_missedBy 59 = .ok (.iadd, 1) := by decide +kernel
theorem dX12_missedBy_60 : decode cX12_missedBy 60 = .ok (.aload_n 0, 1) := by decide +kernel
theorem dX12_missedBy_61 : decode cX12_missedBy 61 = .ok (.getfield 39, 3) := by decide +kernel
theorem dX12_missedBy_64 : decode cX12_missedBy 64 = .ok (.bipush 8, 2) := by decide +kernel
theorem dX12_missedBy_66 : decode cX12_missedBy 66 = .ok (.aload_n 0, 1) := by decide +kernel
theorem dX12_missedBy_67 : decode cX12_missedBy 67 = .ok (.getfield 96, 3) := by decide +kernel
theorem dX12_missedBy_70 : decode cX12_missedBy 70 = .ok (.iload_n 1, 1) := by decide +kernel
theorem dX12_missedBy_71 : decode cX12_missedBy 71 = .ok (.iaload, 1) := by decide +kernel
theorem dX12_missedBy_72 : decode cX12_missedBy 72 = .ok (.imul, 1) := by decide +kernel
theorem dX12_missedBy_73 : decode cX12_missedBy 73 = .ok (.aload_n 0, 1) := by decide +kernel
theorem dX12_missedBy_74 : decode cX12_missedBy 74 = .ok (.getfield 99, 3) := by decide +kernel
theorem dX12_missedBy_77 : decode cX12_missedBy 77 = .ok (.iload_n 1, 1) := by decide +kernel
theorem dX12_missedBy_78 : decode cX12_missedBy 78 = .ok (.iaload, 1) := by decide +kernel
theorem dX12_missedBy_79 : decode cX12_missedBy 79 = .ok (.iadd, 1) := by decide +kernel
theorem dX12_missedBy_80 : decode cX12_missedBy 80 = .ok (.iaload, 1) := by decide +kernel
theorem dX12_missedBy_81 : decode cX12_missedBy 81 = .ok (.isub, 1) := by decide +kernel
theorem dX12_missedBy_82 : decode cX12_missedBy 82 = .ok (.ireturn, 1) := by decide +kernel
theorem dX12_costOf_0 : decode cX12_costOf 0 = .ok (.iconst 0, 1) := by decide +kernel
theorem dX12_costOf_1 : decode cX12_costOf 1 = .ok (.istore_n 3, 1) := by decide +kernel
theorem dX12_costOf_2 : decode cX12_costOf 2 = .ok (.iload_n 3, 1) := by decide +kernel
theorem dX12_costOf_3 : decode cX12_costOf 3 = .ok (.aload_n 0, 1) := by decide +kernel
theorem dX12_costOf_4 : decode cX12_costOf 4 = .ok (.getfield 137, 3) := by decide +kernel
theorem dX12_costOf_7 : decode cX12_costOf 7 = .ok (.if_icmp .ge 62, 3) := by decide +kernel
theorem dX12_costOf_10 : decode cX12_costOf 10 = .ok (.iconst 0, 1) := by decide +kernel
theorem dX12_costOf_11 : decode cX12_costOf 11 = .ok (.istore 4, 2) := by decide +kernel
theorem dX12_costOf_13 : decode cX12_costOf 13 = .ok (.iload 4, 2) := by decide +kernel
theorem dX12_costOf_15 : decode cX12_costOf 15 = .ok (.aload_n 0, 1) := by decide +kernel
theorem dX12_costOf_16 : decode cX12_costOf 16 = .ok (.getfield 30, 3) := by decide +kernel
theorem dX12_costOf_19 : decode cX12_costOf 19 = .ok (.iload_n 3, 1) := by decide +kernel
theorem dX12_costOf_20 : decode cX12_costOf 20 = .ok (.iaload, 1) := by decide +kernel
theorem dX12_costOf_21 : decode cX12_costOf 21 = .ok (.if_icmp .ge 42, 3) := by decide +kernel
theorem dX12_costOf_24 : decode cX12_costOf 24 = .ok (.aload_n 0, 1) := by decide +kernel
theorem dX12_costOf_25 : decode cX12_costOf 25 = .ok (.getfield 105, 3) := by decide +kernel
theorem dX12_costOf_28 : decode cX12_costOf 28 = .ok (.bipush 8, 2) := by decide +kernel
theorem dX12_costOf_30 : decode cX12_costOf 30 = .ok (.iload_n 3, 1) := by decide +kernel
theorem dX12_costOf_31 : decode cX12_costOf 31 = .ok (.imul, 1) := by decide +kernel
theorem dX12_costOf_32 : decode cX12_costOf 32 = .ok (.iload 4, 2) := by decide +kernel
theorem dX12_costOf_34 : decode cX12_costOf 34 = .ok (.iadd, 1) := by decide +kernel
theorem dX12_costOf_35 : decode cX12_costOf 35 = .ok (.aload_n 0, 1) := by decide +kernel
theorem dX12_costOf_36 : decode cX12_costOf 36 = .ok (.iload_n 3, 1) := by decide +kernel
theorem dX12_costOf_37 : decode cX12_costOf 37 = .ok (.iload_n 1, 1) := by decide +kernel
theorem dX12_costOf_38 : decode cX12_costOf 38 = .ok (.invokevirtual 294, 3) := by decide +kernel
theorem dX12_costOf_41 : decode cX12_costOf 41 = .ok (.ifCond .eq 14, 3) := by decide +kernel
theorem dX12_costOf_44 : decode cX12_costOf 44 = .ok (.aload_n 0, 1) := by decide +kernel
theorem dX12_costOf_45 : decode cX12_costOf 45 = .ok (.iload_n 1, 1) := by decide +kernel
theorem dX12_costOf_46 : decode cX12_costOf 46 = .ok (.iload_n 3, 1) := by decide +kernel
theorem dX12_costOf_47 : decode cX12_costOf 47 = .ok (.iload 4, 2) := by decide +kernel
theorem dX12_costOf_49 : decode cX12_costOf 49 = .ok (.invokevirtual 195, 3) := by decide +kernel
theorem dX12_costOf_52 : decode cX12_costOf 52 = .ok (.goto 4, 3) := by decide +kernel
theorem dX12_costOf_55 : decode cX12_costOf 55 = .ok (.iconst 0, 1) := by decide +kernel
theorem dX12_costOf_56 : decode cX12_costOf 56 = .ok (.iastore, 1) := by decide +kernel
theorem dX12_costOf_57 : decode cX12_costOf 57 = .ok (.iinc 4 1, 3) := by decide +kernel
theorem dX12_costOf_60 : decode cX12_costOf 60 = .ok (.goto (-47), 3) := by decide +kernel
theorem dX12_costOf_63 : decode cX12_costOf 63 = .ok (.iinc 3 1, 3) := by decide +kernel
theorem dX12_costOf_66 : decode cX12_costOf 66 = .ok (.goto (-64), 3) := by decide +kernel
theorem dX12_costOf_69 : decode cX12_costOf 69 = .ok (.iconst 1, 1) := by decide +kernel
theorem dX12_costOf_70 : decode cX12_costOf 70 = .ok (.istore_n 3, 1) := by decide +kernel
theorem dX12_costOf_71 : decode cX12_costOf 71 = .ok (.iload_n 3, 1) := by decide +kernel
theorem dX12_costOf_72 : decode cX12_costOf 72 = .ok (.ifCond .eq 222, 3) := by decide +kernel
theorem dX12_costOf_75 : decode cX12_costOf 75 = .ok (.iconst 0, 1) := by decide +kernel
theorem dX12_costOf_76 : decode cX12_costOf 76 = .ok (.istore_n 3, 1) := by decide +kernel
theorem dX12_costOf_77 : decode cX12_costOf 77 = .ok (.iconst 0, 1) := by decide +kernel
theorem dX12_costOf_78 : decode cX12_costOf 78 = .ok (.istore 4, 2) := by decide +kernel
theorem dX12_costOf_80 : decode cX12_costOf 80 = .ok (.iload 4, 2) := by decide +kernel
theorem dX12_costOf_82 : decode cX12_costOf 82 = .ok (.aload_n 0, 1) := by decide +kernel
theorem dX12_costOf_83 : decode cX12_costOf 83 = .ok (.getfield 137, 3) := by decide +kernel
theorem dX12_costOf_86 : decode cX12_costOf 86 = .ok (.if_icmp .ge 101, 3) := by decide +kernel
theorem dX12_costOf_89 : decode cX12_costOf 89 = .ok (.iconst 1, 1) := by decide +kernel
theorem dX12_costOf_90 : decode cX12_costOf 90 = .ok (.istore 5, 2) := by decide +kernel
theorem dX12_costOf_92 : decode cX12_costOf 92 = .ok (.aload_n 0, 1) := by decide +kernel
theorem dX12_costOf_93 : decode cX12_costOf 93 = .ok (.iload 4, 2) := by decide +kernel
theorem dX12_costOf_95 : decode cX12_costOf 95 = .ok (.iload_n 1, 1) := by decide +kernel
theorem dX12_costOf_96 : decode cX12_costOf 96 = .ok (.invokevirtual 294, 3) := by decide +kernel
theorem dX12_costOf_99 : decode cX12_costOf 99 = .ok (.ifCond .eq 82, 3) := by decide +kernel
theorem dX12_costOf_102 : decode cX12_costOf 102 = .ok (.iload 5, 2) := by decide +kernel
theorem dX12_costOf_104 : decode cX12_costOf 104 = .ok (.aload_n 0, 1) := by decide +kernel
theorem dX12_costOf_105 : decode cX12_costOf 105 = .ok (.getfield 30, 3) := by decide +kernel
theorem dX12_costOf_108 : decode cX12_costOf 108 = .ok (.iload 4, 2) := by decide +kernel
theorem dX12_costOf_110 : decode cX12_costOf 110 = .ok (.iaload, 1) := by decide +kernel
theorem dX12_costOf_111 : decode cX12_costOf 111 = .ok (.if_icmp .ge 70, 3) := by decide +kernel
theorem dX12_costOf_114 : decode cX12_costOf 114 = .ok (.aload_n 0, 1) := by decide +kernel
theorem dX12_costOf_115 : decode cX12_costOf 115 = .ok (.getfield 105, 3) := by decide +kernel
theorem dX12_costOf_118 : decode cX12_costOf 118 = .ok (.bipush 8, 2) := by decide +kernel
theorem dX12_costOf_120 : decode cX12_costOf 120 = .ok (.iload 4, 2) := by decide +kernel
theorem dX12_costOf_122 : decode cX12_costOf 122 = .ok (.imul, 1) := by decide +kernel
theorem dX12_costOf_123 : decode cX12_costOf 123 = .ok (.iload 5, 2) := by decide +kernel
theorem dX12_costOf_125 : decode cX12_costOf 125 = .ok (.iadd, 1) := by decide +kernel
theorem dX12_costOf_126 : decode cX12_costOf 126 = .ok (.iaload, 1) := by decide +kernel
theorem dX12_costOf_127 : decode cX12_costOf 127 = .ok (.aload_n 0, 1) := by decide +kernel
theorem dX12_costOf_128 : decode cX12_costOf 128 = .ok (.getfield 105, 3) := by decide +kernel
theorem dX12_costOf_131 : decode cX12_costOf 131 = .ok (.bipush 8, 2) := by decide +kernel
theorem dX12_costOf_133 : decode cX12_costOf 133 = .ok (.iload 4, 2) := by decide +kernel
theorem dX12_costOf_135 : decode cX12_costOf 135 = .ok (.imul, 1) := by decide +kernel
theorem dX12_costOf_136 : decode cX12_costOf 136 = .ok (.iload 5, 2) := by decide +kernel
theorem dX12_costOf_138 : decode cX12_costOf 138 = .ok (.iadd, 1) := by decide +kernel
theorem dX12_costOf_139 : decode cX12_costOf 139 = .ok (.iconst 1, 1) := by decide +kernel
theorem dX12_costOf_140 : decode cX12_costOf 140 = .ok (.isub, 1) := by decide +kernel
theorem dX12_costOf_141 : decode cX12_costOf 141 = .ok (.iaload, 1) := by decide +kernel
theorem dX12_costOf_142 : decode cX12_costOf 142 = .ok (.if_icmp .ge 33, 3) := by decide +kernel
theorem dX12_costOf_145 : decode cX12_costOf 145 = .ok (.aload_n 0, 1) := by decide +kernel
theorem dX12_costOf_146 : decode cX12_costOf 146 = .ok (.getfield 105, 3) := by decide +kernel
theorem dX12_costOf_149 : decode cX12_costOf 149 = .ok (.bipush 8, 2) := by decide +kernel
theorem dX12_costOf_151 : decode cX12_costOf 151 = .ok (.iload 4, 2) := by decide +kernel
theorem dX12_costOf_153 : decode cX12_costOf 153 = .ok (.imul, 1) := by decide +kernel
theorem dX12_costOf_154 : decode cX12_costOf 154 = .ok (.iload 5, 2) := by decide +kernel
theorem dX12_costOf_156 : decode cX12_costOf 156 = .ok (.iadd, 1) := by decide +kernel
theorem dX12_costOf_157 : decode cX12_costOf 157 = .ok (.aload_n 0, 1) := by decide +kernel
theorem dX12_costOf_158 : decode cX12_costOf 158 = .ok (.getfield 105, 3) := by decide +kernel
theorem dX12_costOf_161 : decode cX12_costOf 161 = .ok (.bipush 8, 2) := by decide +kernel
theorem dX12_costOf_163 : decode cX12_costOf 163 = .ok (.iload 4, 2) := by decide +kernel
theorem dX12_costOf_165 : decode cX12_costOf 165 = .ok (.imul, 1) := by decide +kernel
theorem dX12_costOf_166 : decode cX12_costOf 166 = .ok (.iload 5, 2) := by decide +kernel
theorem dX12_costOf_168 : decode cX12_costOf 168 = .ok (.iadd, 1) := by decide +kernel
theorem dX12_costOf_169 : decode cX12_costOf 169 = .ok (.iconst 1, 1) := by decide +kernel
theorem dX12_costOf_170 : decode cX12_costOf 170 = .ok (.isub, 1) := by decide +kernel
theorem dX12_costOf_171 : decode cX12_costOf 171 = .ok (.iaload, 1) := by decide +kernel
theorem dX12_costOf_172 : decode cX12_costOf 172 = .ok (.iastore, 1) := by decide +kernel
theorem dX12_costOf_173 : decode cX12_costOf 173 = .ok (.iconst 1, 1) := by decide +kernel
theorem dX12_costOf_174 : decode cX12_costOf 174 = .ok (.istore_n 3, 1) := by decide +kernel
theorem dX12_costOf_175 : decode cX12_costOf 175 = .ok (.iinc 5 1, 3) := by decide +kernel
theorem dX12_costOf_178 : decode cX12_costOf 178 = .ok (.goto (-86), 3) := by decide +kernel
theorem dX12_costOf_181 : decode cX12_costOf 181 = .ok (.iinc 4 1, 3) := by decide +kernel
theorem dX12_costOf_184 : decode cX12_costOf 184 = .ok (.goto (-104), 3) := by decide +kernel
theorem dX12_costOf_187 : decode cX12_costOf 187 = .ok (.iconst 0, 1) := by decide +kernel
theorem dX12_costOf_188 : decode cX12_costOf 188 = .ok (.istore 4, 2) := by decide +kernel
theorem dX12_costOf_190 : decode cX12_costOf 190 = .ok (.iload 4, 2) := by decide +kernel
theorem dX12_costOf_192 : decode cX12_costOf 192 = .ok (.aload_n 0, 1) := by decide +kernel
theorem dX12_costOf_193 : decode cX12_costOf 193 = .ok (.getfield 297, 3) := by decide +kernel
theorem dX12_costOf_196 : decode cX12_costOf 196 = .ok (.if_icmp .ge 95, 3) := by decide +kernel
theorem dX12_costOf_199 : decode cX12_costOf 199 = .ok (.bipush 8, 2) := by decide +kernel
theorem dX12_costOf_201 : decode cX12_costOf 201 = .ok (.aload_n 0, 1) := by decide +kernel
theorem dX12_costOf_202 : decode cX12_costOf 202 = .ok (.getfield 96, 3) := by decide +kernel
theorem dX12_costOf_205 : decode cX12_costOf 205 = .ok (.iload 4, 2) := by decide +kernel
theorem dX12_costOf_207 : decode cX12_costOf 207 = .ok (.iaload, 1) := by decide +kernel
theorem dX12_costOf_208 : decode cX12_costOf 208 = .ok (.imul, 1) := by decide +kernel
theorem dX12_costOf_209 : decode cX12_costOf 209 = .ok (.aload_n 0, 1) := by decide +kernel
theorem dX12_costOf_210 : decode cX12_costOf 210 = .ok (.getfield 99, 3) := by decide +kernel
theorem dX12_costOf_213 : decode cX12_costOf 213 = .ok (.iload 4, 2) := by decide +kernel
theorem dX12_costOf_215 : decode cX12_costOf 215 = .ok (.iaload, 1) := by decide +kernel
theorem dX12_costOf_216 : decode cX12_costOf 216 = .ok (.iadd, 1) := by decide +kernel
theorem dX12_costOf_217 : decode cX12_costOf 217 = .ok (.istore 5, 2) := by decide +kernel
theorem dX12_costOf_219 : decode cX12_costOf 219 = .ok (.iload_n 2, 1) := by decide +kernel
theorem dX12_costOf_220 : decode cX12_costOf 220 = .ok (.iload 4, 2) := by decide +kernel
theorem dX12_costOf_222 : decode cX12_costOf 222 = .ok (.ishr, 1) := by decide +kernel
theorem dX12_costOf_223 : decode cX12_costOf 223 = .ok (.iconst 1, 1) := by decide +kernel
theorem dX12_costOf_224 : decode cX12_costOf 224 = .ok (.iand, 1) := by decide +kernel
theorem dX12_costOf_225 : decode cX12_costOf 225 = .ok (.iconst 1, 1) := by decide +kernel
theorem dX12_costOf_226 : decode cX12_costOf 226 = .ok (.if_icmp .ne 59, 3) := by decide +kernel
theorem dX12_costOf_229 : decode cX12_costOf 229 = .ok (.aload_n 0, 1) := by decide +kernel
theorem dX12_costOf_230 : decode cX12_costOf 230 = .ok (.iload 4, 2) := by decide +kernel
theorem dX12_costOf_232 : decode cX12_costOf 232 = .ok (.iload_n 1, 1) := by decide +kernel
theorem dX12_costOf_233 : decode cX12_costOf 233 = .ok (.invokevirtual 300, 3) := by decide +kernel
theorem dX12_costOf_236 : decode cX12_costOf 236 = .ok (.ifCond .eq 49, 3) := by decide +kernel
theorem dX12_costOf_239 : decode cX12_costOf 239 = .ok (.aload_n 0, 1) := by decide +kernel
theorem dX12_costOf_240 : decode cX12_costOf 240 = .ok (.getfield 105, 3) := by decide +kernel
theorem dX12_costOf_243 : decode cX12_costOf 243 = .ok (.iload 5, 2) := by decide +kernel
theorem dX12_costOf_245 : decode cX12_costOf 245 = .ok (.iaload, 1) := by decide +kernel
theorem dX12_costOf_246 : decode cX12_costOf 246 = .ok (.aload_n 0, 1) := by decide +kernel
theorem dX12_costOf_247 : decode cX12_costOf 247 = .ok (.iload 4, 2) := by decide +kernel
theorem dX12_costOf_249 : decode cX12_costOf 249 = .ok (.invokevirtual 303, 3) := by decide +kernel
theorem dX12_costOf_252 : decode cX12_costOf 252 = .ok (.if_icmp .ge 33, 3) := by decide +kernel
theorem dX12_costOf_255 : decode cX12_costOf 255 = .ok (.aload_n 0, 1) := by decide +kernel
theorem dX12_costOf_256 : decode cX12_costOf 256 = .ok (.getfield 105, 3) := by decide +kernel
theorem dX12_costOf_259 : decode cX12_costOf 259 = .ok (.iload 5, 2) := by decide +kernel
theorem dX12_costOf_261 : decode cX12_costOf 261 = .ok (.aload_n 0, 1) := by decide +kernel
theorem dX12_costOf_262 : decode cX12_costOf 262 = .ok (.iload 4, 2) := by decide +kernel
theorem dX12_costOf_264 : decode cX12_costOf 264 = .ok (.invokevirtual 303, 3) := by decide +kernel
theorem dX12_costOf_267 : decode cX12_costOf 267 = .ok (.iastore, 1) := by decide +kernel
theorem dX12_costOf_268 : decode cX12_costOf 268 = .ok (.iconst 1, 1) := by decide +kernel
theorem dX12_costOf_269 : decode cX12_costOf 269 = .ok (.istore_n 3, 1) := by decide +kernel
theorem dX12_costOf_270 : decode cX12_costOf 270 = .ok (.aload_n 0, 1) := by decide +kernel
theorem dX12_costOf_271 : decode cX12_costOf 271 = .ok (.getfield 105, 3) := by decide +kernel
theorem dX12_costOf_274 : decode cX12_costOf 274 = .ok (.iload 5, 2) := by decide +kernel
theorem dX12_costOf_276 : decode cX12_costOf 276 = .ok (.iaload, 1) := by decide +kernel
theorem dX12_costOf_277 : decode cX12_costOf 277 = .ok (.sipush 240, 3) := by decide +kernel
theorem dX12_costOf_280 : decode cX12_costOf 280 = .ok (.if_icmp .le 5, 3) := by decide +kernel
theorem dX12_costOf_283 : decode cX12_costOf 283 = .ok (.iconst (-1), 1) := by decide +kernel
theorem dX12_costOf_284 : decode cX12_costOf 284 = .ok (.ireturn, 1) := by decide +kernel
theorem dX12_costOf_285 : decode cX12_costOf 285 = .ok (.iinc 4 1, 3) := by decide +kernel
theorem dX12_costOf_288 : decode cX12_costOf 288 = .ok (.goto (-98), 3) := by decide +kernel
theorem dX12_costOf_291 : decode cX12_costOf 291 = .ok (.goto (-220), 3) := by decide +kernel
theorem dX12_costOf_294 : decode cX12_costOf 294 = .ok (.iconst 0, 1) := by decide +kernel
theorem dX12_costOf_295 : decode cX12_costOf 295 = .ok (.istore 4, 2) := by decide +kernel
theorem dX12_costOf_297 : decode cX12_costOf 297 = .ok (.iconst 0, 1) := by decide +kernel
theorem dX12_costOf_298 : decode cX12_costOf 298 = .ok (.istore 5, 2) := by decide +kernel
theorem dX12_costOf_300 : decode cX12_costOf 300 = .ok (.iload 5, 2) := by decide +kernel
theorem dX12_costOf_302 : decode cX12_costOf 302 = .ok (.aload_n 0, 1) := by decide +kernel
theorem dX12_costOf_303 : decode cX12_costOf 303 = .ok (.getfield 137, 3) := by decide +kernel
theorem dX12_costOf_306 : decode cX12_costOf 306 = .ok (.if_icmp .ge 59, 3) := by decide +kernel
theorem dX12_costOf_309 : decode cX12_costOf 309 = .ok (.iload 4, 2) := by decide +kernel
theorem dX12_costOf_311 : decode cX12_costOf 311 = .ok (.aload_n 0, 1) := by decide +kernel
theorem dX12_costOf_312 : decode cX12_costOf 312 = .ok (.iload 5, 2) := by decide +kernel
theorem dX12_costOf_314 : decode cX12_costOf 314 = .ok (.iload_n 1, 1) := by decide +kernel
theorem dX12_costOf_315 : decode cX12_costOf 315 = .ok (.invokevirtual 294, 3) := by decide +kernel
theorem dX12_costOf_318 : decode cX12_costOf 318 = .ok (.ifCond .eq 37, 3) := by decide +kernel
theorem dX12_costOf_321 : decode cX12_costOf 321 = .ok (.aload_n 0, 1) := by decide +kernel
theorem dX12_costOf_322 : decode cX12_costOf 322 = .ok (.getfield 30, 3) := by decide +kernel
theorem dX12_costOf_325 : decode cX12_costOf 325 = .ok (.iload 5, 2) := by decide +kernel
theorem dX12_costOf_327 : decode cX12_costOf 327 = .ok (.iaload, 1) := by decide +kernel
theorem dX12_costOf_328 : decode cX12_costOf 328 = .ok (.iconst 1, 1) := by decide +kernel
theorem dX12_costOf_329 : decode cX12_costOf 329 = .ok (.if_icmp .le 26, 3) := by decide +kernel
theorem dX12_costOf_332 : decode cX12_costOf 332 = .ok (.aload_n 0, 1) := by decide +kernel
theorem dX12_costOf_333 : decode cX12_costOf 333 = .ok (.getfield 105, 3) := by decide +kernel
theorem dX12_costOf_336 : decode cX12_costOf 336 = .ok (.bipush 8, 2) := by decide +kernel
theorem dX12_costOf_338 : decode cX12_costOf 338 = .ok (.iload 5, 2) := by decide +kernel
theorem dX12_costOf_340 : decode cX12_costOf 340 = .ok (.imul, 1) := by decide +kernel
theorem dX12_costOf_341 : decode cX12_costOf 341 = .ok (.aload_n 0, 1) := by decide +kernel
theorem dX12_costOf_342 : decode cX12_costOf 342 = .ok (.getfield 30, 3) := by decide +kernel
theorem dX12_costOf_345 : decode cX12_costOf 345 = .ok (.iload 5, 2) := by decide +kernel
theorem dX12_costOf_347 : decode cX12_costOf 347 = .ok (.iaload, 1) := by decide +kernel
theorem dX12_costOf_348 : decode cX12_costOf 348 = .ok (.iadd, 1) := by decide +kernel
theorem dX12_costOf_349 : decode cX12_costOf 349 = .ok (.iconst 2, 1) := by decide +kernel
theorem dX12_costOf_350 : decode cX12_costOf 350 = .ok (.isub, 1) := by decide +kernel
theorem dX12_costOf_351 : decode cX12_costOf 351 = .ok (.iaload, 1) := by decide +kernel
theorem dX12_costOf_352 : decode cX12_costOf 352 = .ok (.goto 4, 3) := by decide +kernel
theorem dX12_costOf_355 : decode cX12_costOf 355 = .ok (.iconst 0, 1) := by decide +kernel
theorem dX12_costOf_356 : decode cX12_costOf 356 = .ok (.iadd, 1) := by decide +kernel
theorem dX12_costOf_357 : decode cX12_costOf 357 = .ok (.istore 4, 2) := by decide +kernel
theorem dX12_costOf_359 : decode cX12_costOf 359 = .ok (.iinc 5 1, 3) := by decide +kernel
theorem dX12_costOf_362 : decode cX12_costOf 362 = .ok (.goto (-62), 3) := by decide +kernel
theorem dX12_costOf_365 : decode cX12_costOf 365 = .ok (.iconst 0, 1) := by decide +kernel
theorem dX12_costOf_366 : decode cX12_costOf 366 = .ok (.istore 5, 2) := by decide +kernel
theorem dX12_costOf_368 : decode cX12_costOf 368 = .ok (.iload 5, 2) := by decide +kernel
theorem dX12_costOf_370 : decode cX12_costOf 370 = .ok (.aload_n 0, 1) := by decide +kernel
theorem dX12_costOf_371 : decode cX12_costOf 371 = .ok (.getfield 297, 3) := by decide +kernel
theorem dX12_costOf_374 : decode cX12_costOf 374 = .ok (.if_icmp .ge 91, 3) := by decide +kernel
theorem dX12_costOf_377 : decode cX12_costOf 377 = .ok (.iload_n 2, 1) := by decide +kernel
theorem dX12_costOf_378 : decode cX12_costOf 378 = .ok (.iload 5, 2) := by decide +kernel
theorem dX12_costOf_380 : decode cX12_costOf 380 = .ok (.ishr, 1) := by decide +kernel
theorem dX12_costOf_381 : decode cX12_costOf 381 = .ok (.iconst 1, 1) := by decide +kernel
theorem dX12_costOf_382 : decode cX12_costOf 382 = .ok (.iand, 1) := by decide +kernel
theorem dX12_costOf_383 : decode cX12_costOf 383 = .ok (.ifCond .ne 49, 3) := by decide +kernel
theorem dX12_costOf_386 : decode cX12_costOf 386 = .ok (.aload_n 0, 1) := by decide +kernel
theorem dX12_costOf_387 : decode cX12_costOf 387 = .ok (.iload 5, 2) := by decide +kernel
theorem dX12_costOf_389 : decode cX12_costOf 389 = .ok (.iload_n 1, 1) := by decide +kernel
theorem dX12_costOf_390 : decode cX12_costOf 390 = .ok (.invokevirtual 300, 3) := by decide +kernel
theorem dX12_costOf_393 : decode cX12_costOf 393 = .ok (.ifCond .eq 39, 3) := by decide +kernel
theorem dX12_costOf_396 : decode cX12_costOf 396 = .ok (.aload_n 0, 1) := by decide +kernel
theorem dX12_costOf_397 : decode cX12_costOf 397 = .ok (.iload 5, 2) := by decide +kernel
theorem dX12_costOf_399 : decode cX12_costOf 399 = .ok (.invokevirtual 303, 3) := by decide +kernel
theorem dX12_costOf_402 : decode cX12_costOf 402 = .ok (.aload_n 0, 1) := by decide +kernel
theorem dX12_costOf_403 : decode cX12_costOf 403 = .ok (.getfield 105, 3) := by decide +kernel
theorem dX12_costOf_406 : decode cX12_costOf 406 = .ok (.bipush 8, 2) := by decide +kernel
theorem dX12_costOf_408 : decode cX12_costOf 408 = .ok (.aload_n 0, 1) := by decide +kernel
theorem dX12_costOf_409 : decode cX12_costOf 409 = .ok (.getfield 96, 3) := by decide +kernel
theorem dX12_costOf_412 : decode cX12_costOf 412 = .ok (.iload 5, 2) := by decide +kernel
theorem dX12_costOf_414 : decode cX12_costOf 414 = .ok (.iaload, 1) := by decide +kernel
theorem dX12_costOf_415 : decode cX12_costOf 415 = .ok (.imul, 1) := by decide +kernel
theorem dX12_costOf_416 : decode cX12_costOf 416 = .ok (.aload_n 0, 1) := by decide +kernel
theorem dX12_costOf_417 : decode cX12_costOf 417 = .ok (.getfield 99, 3) := by decide +kernel
theorem dX12_costOf_420 : decode cX12_costOf 420 = .ok (.iload 5, 2) := by decide +kernel
theorem dX12_costOf_422 : decode cX12_costOf 422 = .ok (.iaload, 1) := by decide +kernel
theorem dX12_costOf_423 : decode cX12_costOf 423 = .ok (.iadd, 1) := by decide +kernel
theorem dX12_costOf_424 : decode cX12_costOf 424 = .ok (.iaload, 1) := by decide +kernel
theorem dX12_costOf_425 : decode cX12_costOf 425 = .ok (.if_icmp .le 7, 3) := by decide +kernel
theorem dX12_costOf_428 : decode cX12_costOf 428 = .ok (.iconst 1, 1) := by decide +kernel
theorem dX12_costOf_429 : decode cX12_costOf 429 = .ok (.goto 4, 3) := by decide +kernel
theorem dX12_costOf_432 : decode cX12_costOf 432 = .ok (.iconst 0, 1) := by decide +kernel
theorem dX12_costOf_433 : decode cX12_costOf 433 = .ok (.istore 6, 2) := by decide +kernel
theorem dX12_costOf_435 : decode cX12_costOf 435 = .ok (.iload 4, 2) := by decide +kernel
theorem dX12_costOf_437 : decode cX12_costOf 437 = .ok (.iload 6, 2) := by decide +kernel
theorem dX12_costOf_439 : decode cX12_costOf 439 = .ok (.ifCond .eq 16, 3) := by decide +kernel
theorem dX12_costOf_442 : decode cX12_costOf 442 = .ok (.bipush 60, 2) := by decide +kernel
theorem dX12_costOf_444 : decode cX12_costOf 444 = .ok (.aload_n 0, 1) := by decide +kernel
theorem dX12_costOf_445 : decode cX12_costOf 445 = .ok (.getfield 102, 3) := by decide +kernel
theorem dX12_costOf_448 : decode cX12_costOf 448 = .ok (.iload 5, 2) := by decide +kernel
theorem dX12_costOf_450 : decode cX12_costOf 450 = .ok (.iaload, 1) := by decide +kernel
theorem dX12_costOf_451 : decode cX12_costOf 451 = .ok (.imul, 1) := by decide +kernel
theorem dX12_costOf_452 : decode cX12_costOf 452 = .ok (.goto 4, 3) := by decide +kernel
theorem dX12_costOf_455 : decode cX12_costOf 455 = .ok (.iconst 0, 1) := by decide +kernel
theorem dX12_costOf_456 : decode cX12_costOf 456 = .ok (.iadd, 1) := by decide +kernel
theorem dX12_costOf_457 : decode cX12_costOf 457 = .ok (.istore 4, 2) := by decide +kernel
theorem dX12_costOf_459 : decode cX12_costOf 459 = .ok (.iinc 5 1, 3) := by decide +kernel
theorem dX12_costOf_462 : decode cX12_costOf 462 = .ok (.goto (-94), 3) := by decide +kernel
theorem dX12_costOf_465 : decode cX12_costOf 465 = .ok (.iload 4, 2) := by decide +kernel
theorem dX12_costOf_467 : decode cX12_costOf 467 = .ok (.ireturn, 1) := by decide +kernel
theorem dX12_waitCost_0 : decode cX12_waitCost 0 = .ok (.aload_n 0, 1) := by decide +kernel
theorem dX12_waitCost_1 : decode cX12_waitCost 1 = .ok (.iload_n 1, 1) := by decide +kernel
theorem dX12_waitCost_2 : decode cX12_waitCost 2 = .ok (.iconst 0, 1) := by decide +kernel
theorem dX12_waitCost_3 : decode cX12_waitCost 3 = .ok (.bipush 27, 2) := by decide +kernel
theorem dX12_waitCost_5 : decode cX12_waitCost 5 = .ok (.invokestatic 126, 3) := by decide +kernel
theorem dX12_waitCost_8 : decode cX12_waitCost 8 = .ok (.ifCond .eq 19, 3) := by decide +kernel
theorem dX12_waitCost_11 : decode cX12_waitCost 11 = .ok (.iload_n 2, 1) := by decide +kernel
theorem dX12_waitCost_12 : decode cX12_waitCost 12 = .ok (.iconst 0, 1) := by decide +kernel
theorem dX12_waitCost_13 : decode cX12_waitCost 13 = .ok (.iconst 1, 1) := by decide +kernel
theorem dX12_waitCost_14 : decode cX12_waitCost 14 = .ok (.aload_n 0, 1) := by decide +kernel
theorem dX12_waitCost_15 : decode cX12_waitCost 15 = .ok (.getfield 297, 3) := by decide +kernel
theorem dX12_waitCost_18 : decode cX12_waitCost 18 = .ok (.ishl, 1) := by decide +kernel
theorem dX12_waitCost_19 : decode cX12_waitCost 19 = .ok (.iconst 1, 1) := by decide +kernel
theorem dX12_waitCost_20 : decode cX12_waitCost 20 = .ok (.isub, 1) := by decide +kernel
theorem dX12_waitCost_21 : decode cX12_waitCost 21 = .ok (.invokestatic 126, 3) := by decide +kernel
theorem dX12_waitCost_24 : decode cX12_waitCost 24 = .ok (.ifCond .ne 7, 3) := by decide +kernel
theorem dX12_waitCost_27 : decode cX12_waitCost 27 = .ok (.iconst 1, 1) := by decide +kernel
theorem dX12_waitCost_28 : decode cX12_waitCost 28 = .ok (.goto 4, 3) := by decide +kernel
theorem dX12_waitCost_31 : decode cX12_waitCost 31 = .ok (.iconst 0, 1) := by decide +kernel
theorem dX12_waitCost_32 : decode cX12_waitCost 32 = .ok (.iconst 1, 1) := by decide +kernel
theorem dX12_waitCost_33 : decode cX12_waitCost 33 = .ok (.invokevirtual 130, 3) := by decide +kernel
theorem dX12_waitCost_36 : decode cX12_waitCost 36 = .ok (.ifCond .eq 5, 3) := by decide +kernel
theorem dX12_waitCost_39 : decode cX12_waitCost 39 = .ok (.iconst 0, 1) := by decide +kernel
theorem dX12_waitCost_40 : decode cX12_waitCost 40 = .ok (.ireturn, 1) := by decide +kernel
theorem dX12_waitCost_41 : decode cX12_waitCost 41 = .ok (.aload_n 0, 1) := by decide +kernel
theorem dX12_waitCost_42 : decode cX12_waitCost 42 = .ok (.iload_n 1, 1) := by decide +kernel
theorem dX12_waitCost_43 : decode cX12_waitCost 43 = .ok (.iload_n 2, 1) := by decide +kernel
theorem dX12_waitCost_44 : decode cX12_waitCost 44 = .ok (.invokevirtual 306, 3) := by decide +kernel
theorem dX12_waitCost_47 : decode cX12_waitCost 47 = .ok (.istore_n 3, 1) := by decide +kernel
theorem dX12_waitCost_48 : decode cX12_waitCost 48 = .ok (.aload_n 0, 1) := by decide +kernel
theorem dX12_waitCost_49 : decode cX12_waitCost 49 = .ok (.iload_n 3, 1) := by decide +kernel
theorem dX12_waitCost_50 : decode cX12_waitCost 50 = .ok (.ifCond .ge 7, 3) := by decide +kernel
theorem dX12_waitCost_53 : decode cX12_waitCost 53 = .ok (.iconst 1, 1) := by decide +kernel
theorem dX12_waitCost_54 : decode cX12_waitCost 54 = .ok (.goto 4, 3) := by decide +kernel
theorem dX12_waitCost_57 : decode cX12_waitCost 57 = .ok (.iconst 0, 1) := by decide +kernel
theorem dX12_waitCost_58 : decode cX12_waitCost 58 = .ok (.iconst 2, 1) := by decide +kernel
theorem dX12_waitCost_59 : decode cX12_waitCost 59 = .ok (.invokevirtual 130, 3) := by decide +kernel
theorem dX12_waitCost_62 : decode cX12_waitCost 62 = .ok (.ifCond .eq 7, 3) := by decide +kernel
theorem dX12_waitCost_65 : decode cX12_waitCost 65 = .ok (.iconst 0, 1) := by decide +kernel
theorem dX12_waitCost_66 : decode cX12_waitCost 66 = .ok (.goto 4, 3) := by decide +kernel
theorem dX12_waitCost_69 : decode cX12_waitCost 69 = .ok (.iload_n 3, 1) := by decide +kernel
theorem dX12_waitCost_70 : decode cX12_waitCost 70 = .ok (.ireturn, 1) := by decide +kernel
theorem dX12_bestWaits_0 : decode cX12_bestWaits 0 = .ok (.aload_n 0, 1) := by decide +kernel
theorem dX12_bestWaits_1 : decode cX12_bestWaits 1 = .ok (.iload_n 1, 1) := by decide +kernel
theorem dX12_bestWaits_2 : decode cX12_bestWaits 2 = .ok (.iconst 1, 1) := by decide +kernel
theorem dX12_bestWaits_3 : decode cX12_bestWaits 3 = .ok (.invokevirtual 154, 3) := by decide +kernel
theorem dX12_bestWaits_6 : decode cX12_bestWaits 6 = .ok (.ifCond .eq 5, 3) := by decide +kernel
theorem dX12_bestWaits_9 : decode cX12_bestWaits 9 = .ok (.iconst 0, 1) := by decide +kernel
theorem dX12_bestWaits_10 : decode cX12_bestWaits 10 = .ok (.ireturn, 1) := by decide +kernel
theorem dX12_bestWaits_11 : decode cX12_bestWaits 11 = .ok (.iconst 0, 1) := by decide +kernel
theorem dX12_bestWaits_12 : decode cX12_bestWaits 12 = .ok (.istore_n 2, 1) := by decide +kernel
theorem dX12_bestWaits_13 : decode cX12_bestWaits 13 = .ok (.ldc 150, 2) := by decide +kernel
theorem dX12_bestWaits_15 : decode cX12_bestWaits 15 = .ok (.istore_n 3, 1) := by decide +kernel
theorem dX12_bestWaits_16 : decode cX12_bestWaits 16 = .ok (.iconst 0, 1) := by decide +kernel
theorem dX12_bestWaits_17 : decode cX12_bestWaits 17 = .ok (.istore 4, 2) := by decide +kernel
theorem dX12_bestWaits_19 : decode cX12_bestWaits 19 = .ok (.iload 4, 2) := by decide +kernel
theorem dX12_bestWaits_21 : decode cX12_bestWaits 21 = .ok (.iconst 1, 1) := by decide +kernel
theorem dX12_bestWaits_22 : decode cX12_bestWaits 22 = .ok (.aload_n 0, 1) := by decide +kernel
theorem dX12_bestWaits_23 : decode cX12_bestWaits 23 = .ok (.getfield 297, 3) := by decide +kernel
theorem dX12_bestWaits_26 : decode cX12_bestWaits 26 = .ok (.ishl, 1) := by decide +kernel
theorem dX12_bestWaits_27 : decode cX12_bestWaits 27 = .ok (.if_icmp .ge 35, 3) := by decide +kernel
theorem dX12_bestWaits_30 : decode cX12_bestWaits 30 = .ok (.aload_n 0, 1) := by decide +kernel
theorem dX12_bestWaits_31 : decode cX12_bestWaits 31 = .ok (.iload_n 1, 1) := by decide +kernel
theorem dX12_bestWaits_32 : decode cX12_bestWaits 32 = .ok (.iload 4, 2) := by decide +kernel
theorem dX12_bestWaits_34 : decode cX12_bestWaits 34 = .ok (.invokevirtual 306, 3) := by decide +kernel
theorem dX12_bestWaits_37 : decode cX12_bestWaits 37 = .ok (.istore 5, 2) := by decide +kernel
theorem dX12_bestWaits_39 : decode cX12_bestWaits 39 = .ok (.iload 5, 2) := by decide +kernel
theorem dX12_bestWaits_41 : decode cX12_bestWaits 41 = .ok (.ifCond .lt 15, 3) := by decide +kernel
theorem dX12_bestWaits_44 : decode cX12_bestWaits 44 = .ok (.iload 5, 2) := by decide +kernel
theorem dX12_bestWaits_46 : decode cX12_bestWaits 46 = .ok (.iload_n 3, 1) := by decide +kernel
theorem dX12_bestWaits_47 : decode cX12_bestWaits 47 = .ok (.if_icmp .ge 9, 3) := by decide +kernel
theorem dX12_bestWaits_50 : decode cX12_bestWaits 50 = .ok (.iload 5, 2) := by decide +kernel
theorem dX12_bestWaits_52 : decode cX12_bestWaits 52 = .ok (.istore_n 3, 1) := by decide +kernel
theorem dX12_bestWaits_53 : decode cX12_bestWaits 53 = .ok (.iload 4, 2) := by decide +kernel
theorem dX12_bestWaits_55 : decode cX12_bestWaits 55 = .ok (.istore_n 2, 1) := by decide +kernel
theorem dX12_bestWaits_56 : decode cX12_bestWaits 56 = .ok (.iinc 4 1, 3) := by decide +kernel
theorem dX12_bestWaits_59 : decode cX12_bestWaits 59 = .ok (.goto (-40), 3) := by decide +kernel
theorem dX12_bestWaits_62 : decode cX12_bestWaits 62 = .ok (.iload_n 2, 1) := by decide +kernel
theorem dX12_bestWaits_63 : decode cX12_bestWaits 63 = .ok (.ireturn, 1) := by decide +kernel
theorem dX12_tellAll_0 : decode cX12_tellAll 0 = .ok (.iconst 0, 1) := by decide +kernel
theorem dX12_tellAll_1 : decode cX12_tellAll 1 = .ok (.istore_n 3, 1) := by decide +kernel
theorem dX12_tellAll_2 : decode cX12_tellAll 2 = .ok (.iload_n 3, 1) := by decide +kernel
theorem dX12_tellAll_3 : decode cX12_tellAll 3 = .ok (.aload_n 0, 1) := by decide +kernel
theorem dX12_tellAll_4 : decode cX12_tellAll 4 = .ok (.getfield 123, 3) := by decide +kernel
theorem dX12_tellAll_7 : decode cX12_tellAll 7 = .ok (.if_icmp .ge 55, 3) := by decide +kernel
theorem dX12_tellAll_10 : decode cX12_tellAll 10 = .ok (.aload_n 0, 1) := by decide +kernel
theorem dX12_tellAll_11 : decode cX12_tellAll 11 = .ok (.iload_n 3, 1) := by decide +kernel
theorem dX12_tellAll_12 : decode cX12_tellAll 12 = .ok (.iload_n 3, 1) := by decide +kernel
theorem dX12_tellAll_13 : decode cX12_tellAll 13 = .ok (.iload_n 1, 1) := by decide +kernel
theorem dX12_tellAll_14 : decode cX12_tellAll 14 = .ok (.iload_n 2, 1) := by decide +kernel
theorem dX12_tellAll_15 : decode cX12_tellAll 15 = .ok (.invokevirtual 243, 3) := by decide +kernel
theorem dX12_tellAll_18 : decode cX12_tellAll 18 = .ok (.istore 4, 2) := by decide +kernel
theorem dX12_tellAll_20 : decode cX12_tellAll 20 = .ok (.iconst 0, 1) := by decide +kernel
theorem dX12_tellAll_21 : decode cX12_tellAll 21 = .ok (.istore 5, 2) := by decide +kernel
theorem dX12_tellAll_23 : decode cX12_tellAll 23 = .ok (.iload 5, 2) := by decide +kernel
theorem dX12_tellAll_25 : decode cX12_tellAll 25 = .ok (.aload_n 0, 1) := by decide +kernel
theorem dX12_tellAll_26 : decode cX12_tellAll 26 = .ok (.getfield 123, 3) := by decide +kernel
theorem dX12_tellAll_29 : decode cX12_tellAll 29 = .ok (.if_icmp .ge 27, 3) := by decide +kernel
theorem dX12_tellAll_32 : decode cX12_tellAll 32 = .ok (.aload_n 0, 1) := by decide +kernel
theorem dX12_tellAll_33 : decode cX12_tellAll 33 = .ok (.getfield 108, 3) := by decide +kernel
theorem dX12_tellAll_36 : decode cX12_tellAll 36 = .ok (.bipush 12, 2) := by decide +kernel
theorem dX12_tellAll_38 : decode cX12_tellAll 38 = .ok (.iload_n 3, 1) := by decide +kernel
theorem dX12_tellAll_39 : decode cX12_tellAll 39 = .ok (.imul, 1) := by decide +kernel
theorem dX12_tellAll_40 : decode cX12_tellAll 40 = .ok (.iload 5, 2) := by decide +kernel
theorem dX12_tellAll_42 : decode cX12_tellAll 42 = .ok (.iadd, 1) := by decide +kernel
theorem dX12_tellAll_43 : decode cX12_tellAll 43 = .ok (.aload_n 0, 1) := by decide +kernel
theorem dX12_tellAll_44 : decode cX12_tellAll 44 = .ok (.iload 5, 2) := by decide +kernel
theorem dX12_tellAll_46 : decode cX12_tellAll 46 = .ok (.invokevirtual 235, 3) := by decide +kernel
theorem dX12_tellAll_49 : decode cX12_tellAll 49 = .ok (.iastore, 1) := by decide +kernel
theorem dX12_tellAll_50 : decode cX12_tellAll 50 = .ok (.iinc 5 1, 3) := by decide +kernel
theorem dX12_tellAll_53 : decode cX12_tellAll 53 = .ok (.goto (-30), 3) := by decide +kernel
theorem dX12_tellAll_56 : decode cX12_tellAll 56 = .ok (.iinc 3 1, 3) := by decide +kernel
theorem dX12_tellAll_59 : decode cX12_tellAll 59 = .ok (.goto (-57), 3) := by decide +kernel
theorem dX12_tellAll_62 : decode cX12_tellAll 62 = .ok (.return_, 1) := by decide +kernel
theorem dX12_lostBy_0 : decode cX12_lostBy 0 = .ok (.aload_n 0, 1) := by decide +kernel
theorem dX12_lostBy_1 : decode cX12_lostBy 1 = .ok (.iload_n 2, 1) := by decide +kernel
theorem dX12_lostBy_2 : decode cX12_lostBy 2 = .ok (.iconst 0, 1) := by decide +kernel
theorem dX12_lostBy_3 : decode cX12_lostBy 3 = .ok (.invokevirtual 309, 3) := by decide +kernel
theorem dX12_lostBy_6 : decode cX12_lostBy 6 = .ok (.aload_n 0, 1) := by decide +kernel
theorem dX12_lostBy_7 : decode cX12_lostBy 7 = .ok (.iload_n 1, 1) := by decide +kernel
theorem dX12_lostBy_8 : decode cX12_lostBy 8 = .ok (.putfield 19, 3) := by decide +kernel
theorem dX12_lostBy_11 : decode cX12_lostBy 11 = .ok (.aload_n 0, 1) := by decide +kernel
theorem dX12_lostBy_12 : decode cX12_lostBy 12 = .ok (.invokevirtual 144, 3) := by decide +kernel
theorem dX12_lostBy_15 : decode cX12_lostBy 15 = .ok (.iconst 0, 1) := by decide +kernel
theorem dX12_lostBy_16 : decode cX12_lostBy 16 = .ok (.istore_n 3, 1) := by decide +kernel
theorem dX12_lostBy_17 : decode cX12_lostBy 17 = .ok (.iconst 0, 1) := by decide +kernel
theorem dX12_lostBy_18 : decode cX12_lostBy 18 = .ok (.istore 4, 2) := by decide +kernel
theorem dX12_lostBy_20 : decode cX12_lostBy 20 = .ok (.iload 4, 2) := by decide +kernel
theorem dX12_lostBy_22 : decode cX12_lostBy 22 = .ok (.aload_n 0, 1) := by decide +kernel
theorem dX12_lostBy_23 : decode cX12_lostBy 23 = .ok (.getfield 123, 3) := by decide +kernel
theorem dX12_lostBy_26 : decode cX12_lostBy 26 = .ok (.if_icmp .ge 82, 3) := by decide +kernel
theorem dX12_lostBy_29 : decode cX12_lostBy 29 = .ok (.iconst 0, 1) := by decide +kernel
theorem dX12_lostBy_30 : decode cX12_lostBy 30 = .ok (.istore 5, 2) := by decide +kernel
theorem dX12_lostBy_32 : decode cX12_lostBy 32 = .ok (.iload 5, 2) := by decide +kernel
theorem dX12_lostBy_34 : decode cX12_lostBy 34 = .ok (.aload_n 0, 1) := by decide +kernel
theorem dX12_lostBy_35 : decode cX12_lostBy 35 = .ok (.getfield 123, 3) := by decide +kernel
theorem dX12_lostBy_38 : decode cX12_lostBy 38 = .ok (.if_icmp .ge 64, 3) := by decide +kernel
theorem dX12_lostBy_41 : decode cX12_lostBy 41 = .ok (.iload 4, 2) := by decide +kernel
theorem dX12_lostBy_43 : decode cX12_lostBy 43 = .ok (.iload 5, 2) := by decide +kernel
theorem dX12_lostBy_45 : decode cX12_lostBy 45 = .ok (.if_icmp .eq 51, 3) := by decide +kernel
theorem dX12_lostBy_48 : decode cX12_lostBy 48 = .ok (.iload 4, 2) := by decide +kernel
theorem dX12_lostBy_50 : decode cX12_lostBy 50 = .ok (.iload_n 1, 1) := by decide +kernel
theorem dX12_lostBy_51 : decode cX12_lostBy 51 = .ok (.if_icmp .eq 45, 3) := by decide +kernel
theorem dX12_lostBy_54 : decode cX12_lostBy 54 = .ok (.iload 5, 2) := by decide +kernel
theorem dX12_lostBy_56 : decode cX12_lostBy 56 = .ok (.iload_n 1, 1) := by decide +kernel
theorem dX12_lostBy_57 : decode cX12_lostBy 57 = .ok (.if_icmp .eq 39, 3) := by decide +kernel
theorem dX12_lostBy_60 : decode cX12_lostBy 60 = .ok (.aload_n 0, 1) := by decide +kernel
theorem dX12_lostBy_61 : decode cX12_lostBy 61 = .ok (.getfield 108, 3) := by decide +kernel
theorem dX12_lostBy_64 : decode cX12_lostBy 64 = .ok (.bipush 12, 2) := by decide +kernel
theorem dX12_lostBy_66 : decode cX12_lostBy 66 = .ok (.iload 4, 2) := by decide +kernel
theorem dX12_lostBy_68 : decode cX12_lostBy 68 = .ok (.imul, 1) := by decide +kernel
theorem dX12_lostBy_69 : decode cX12_lostBy 69 = .ok (.iload 5, 2) := by decide +kernel
theorem dX12_lostBy_71 : decode cX12_lostBy 71 = .ok (.iadd, 1) := by decide +kernel
theorem dX12_lostBy_72 : decode cX12_lostBy 72 = .ok (.iaload, 1) := by decide +kernel
theorem dX12_lostBy_73 : decode cX12_lostBy 73 = .ok (.ldc 150, 2) := by decide +kernel
theorem dX12_lostBy_75 : decode cX12_lostBy 75 = .ok (.if_icmp .ge 21, 3) := by decide +kernel
theorem dX12_lostBy_78 : decode cX12_lostBy 78 = .ok (.aload_n 0, 1) := by decide +kernel
theorem dX12_lostBy_79 : decode cX12_lostBy 79 = .ok (.iload 4, 2) := by decide +kernel
theorem dX12_lostBy_81 : decode cX12_lostBy 81 = .ok (.iload 5, 2) := by decide +kernel
theorem dX12_lostBy_83 : decode cX12_lostBy 83 = .ok (.iload_n 2, 1) := by decide +kernel
theorem dX12_lostBy_84 : decode cX12_lostBy 84 = .ok (.iconst 0, 1) := by decide +kernel
theorem dX12_lostBy_85 : decode cX12_lostBy 85 = .ok (.invokevirtual 243, 3) := by decide +kernel
theorem dX12_lostBy_88 : decode cX12_lostBy 88 = .ok (.ldc 150, 2) := by decide +kernel
theorem dX12_lostBy_90 : decode cX12_lostBy 90 = .ok (.if_icmp .lt 6, 3) := by decide +kernel
theorem dX12_lostBy_93 : decode cX12_lostBy 93 = .ok (.iinc 3 1, 3) := by decide +kernel
theorem dX12_lostBy_96 : decode cX12_lostBy 96 = .ok (.iinc 5 1, 3) := by decide +kernel
theorem dX12_lostBy_99 : decode cX12_lostBy 99 = .ok (.goto (-67), 3) := by decide +kernel
theorem dX12_lostBy_102 : decode cX12_lostBy 102 = .ok (.iinc 4 1, 3) := by decide +kernel
theorem dX12_lostBy_105 : decode cX12_lostBy 105 = .ok (.goto (-85), 3) := by decide +kernel
theorem dX12_lostBy_108 : decode cX12_lostBy 108 = .ok (.aload_n 0, 1) := by decide +kernel
theorem dX12_lostBy_109 : decode cX12_lostBy 109 = .ok (.iconst (-1), 1) := by decide +kernel
theorem dX12_lostBy_110 : decode cX12_lostBy 110 = .ok (.putfield 19, 3) := by decide +kernel
theorem dX12_lostBy_113 : decode cX12_lostBy 113 = .ok (.aload_n 0, 1) := by decide +kernel
theorem dX12_lostBy_114 : decode cX12_lostBy 114 = .ok (.invokevirtual 144, 3) := by decide +kernel
theorem dX12_lostBy_117 : decode cX12_lostBy 117 = .ok (.iload_n 3, 1) := by decide +kernel
theorem dX12_lostBy_118 : decode cX12_lostBy 118 = .ok (.ireturn, 1) := by decide +kernel
theorem dX12_lost_0 : decode cX12_lost 0 = .ok (.aload_n 0, 1) := by decide +kernel
theorem dX12_lost_1 : decode cX12_lost 1 = .ok (.iload_n 1, 1) := by decide +kernel
theorem dX12_lost_2 : decode cX12_lost 2 = .ok (.invokevirtual 147, 3) := by decide +kernel
theorem dX12_lost_5 : decode cX12_lost 5 = .ok (.ifCond .ne 12, 3) := by decide +kernel
theorem dX12_lost_8 : decode cX12_lost 8 = .ok (.aload_n 0, 1) := by decide +kernel
theorem dX12_lost_9 : decode cX12_lost 9 = .ok (.iload_n 2, 1) := by decide +kernel
theorem dX12_lost_10 : decode cX12_lost 10 = .ok (.iconst 2, 1) := by decide +kernel
theorem dX12_lost_11 : decode cX12_lost 11 = .ok (.invokevirtual 154, 3) := by decide +kernel
theorem dX12_lost_14 : decode cX12_lost 14 = .ok (.ifCond .eq 7, 3) := by decide +kernel
theorem dX12_lost_17 : decode cX12_lost 17 = .ok (.iconst 0, 1) := by decide +kernel
theorem dX12_lost_18 : decode cX12_lost 18 = .ok (.goto 9, 3) := by decide +kernel
theorem dX12_lost_21 : decode cX12_lost 21 = .ok (.aload_n 0, 1) := by decide +kernel
theorem dX12_lost_22 : decode cX12_lost 22 = .ok (.iload_n 1, 1) := by decide +kernel
theorem dX12_lost_23 : decode cX12_lost 23 = .ok (.iload_n 2, 1) := by decide +kernel
theorem dX12_lost_24 : decode cX12_lost 24 = .ok (.invokevirtual 312, 3) := by decide +kernel
theorem dX12_lost_27 : decode cX12_lost 27 = .ok (.ireturn, 1) := by decide +kernel
theorem dX12_bridges_0 : decode cX12_bridges 0 = .ok (.aload_n 0, 1) := by decide +kernel
theorem dX12_bridges_1 : decode cX12_bridges 1 = .ok (.iload_n 1, 1) := by decide +kernel
theorem dX12_bridges_2 : decode cX12_bridges 2 = .ok (.iconst 1, 1) := by decide +kernel
theorem dX12_bridges_3 : decode cX12_bridges 3 = .ok (.invokevirtual 154, 3) := by decide +kernel
theorem dX12_bridges_6 : decode cX12_bridges 6 = .ok (.ifCond .eq 5, 3) := by decide +kernel
theorem dX12_bridges_9 : decode cX12_bridges 9 = .ok (.iconst 0, 1) := by decide +kernel
theorem dX12_bridges_10 : decode cX12_bridges 10 = .ok (.ireturn, 1) := by decide +kernel
theorem dX12_bridges_11 : decode cX12_bridges 11 = .ok (.iconst 0, 1) := by decide +kernel
theorem dX12_bridges_12 : decode cX12_bridges 12 = .ok (.istore_n 2, 1) := by decide +kernel
theorem dX12_bridges_13 : decode cX12_bridges 13 = .ok (.iconst 0, 1) := by decide +kernel
theorem dX12_bridges_14 : decode cX12_bridges 14 = .ok (.istore_n 3, 1) := by decide +kernel
theorem dX12_bridges_15 : decode cX12_bridges 15 = .ok (.iload_n 3, 1) := by decide +kernel
theorem dX12_bridges_16 : decode cX12_bridges 16 = .ok (.aload_n 0, 1) := by decide +kernel
theorem dX12_bridges_17 : decode cX12_bridges 17 = .ok (.getfield 123, 3) := by decide +kernel
theorem dX12_bridges_20 : decode cX12_bridges 20 = .ok (.if_icmp .ge 28, 3) := by decide +kernel
theorem dX12_bridges_23 : decode cX12_bridges 23 = .ok (.iload_n 2, 1) := by decide +kernel
theorem dX12_bridges_24 : decode cX12_bridges 24 = .ok (.aload_n 0, 1) := by decide +kernel
theorem dX12_bridges_25 : decode cX12_bridges 25 = .ok (.iload_n 3, 1) := by decide +kernel
theorem dX12_bridges_26 : decode cX12_bridges 26 = .ok (.iload_n 1, 1) := by decide +kernel
theorem dX12_bridges_27 : decode cX12_bridges 27 = .ok (.invokevirtual 312, 3) := by decide +kernel
theorem dX12_bridges_30 : decode cX12_bridges 30 = .ok (.ifCond .le 9, 3) := by decide +kernel
theorem dX12_bridges_33 : decode cX12_bridges 33 = .ok (.iconst 1, 1) := by decide +kernel
theorem dX12_bridges_34 : decode cX12_bridges 34 = .ok (.iload_n 3, 1) := by decide +kernel
theorem dX12_bridges_35 : decode cX12_bridges 35 = .ok (.ishl, 1) := by decide +kernel
theorem dX12_bridges_36 : decode cX12_bridges 36 = .ok (.goto 4, 3) := by decide +kernel
theorem dX12_bridges_39 : decode cX12_bridges 39 = .ok (.iconst 0, 1) := by decide +kernel
theorem dX12_bridges_40 : decode cX12_bridges 40 = .ok (.ior, 1) := by decide +kernel
theorem dX12_bridges_41 : decode cX12_bridges 41 = .ok (.istore_n 2, 1) := by decide +kernel
theorem dX12_bridges_42 : decode cX12_bridges 42 = .ok (.iinc 3 1, 3) := by decide +kernel
theorem dX12_bridges_45 : decode cX12_bridges 45 = .ok (.goto (-30), 3) := by decide +kernel
theorem dX12_bridges_48 : decode cX12_bridges 48 = .ok (.iload_n 2, 1) := by decide +kernel
theorem dX12_bridges_49 : decode cX12_bridges 49 = .ok (.ireturn, 1) := by decide +kernel
theorem dX12_endStop_0 : decode cX12_endStop 0 = .ok (.aload_n 0, 1) := by decide +kernel
theorem dX12_endStop_1 : decode cX12_endStop 1 = .ok (.getfield 33, 3) := by decide +kernel
theorem dX12_endStop_4 : decode cX12_endStop 4 = .ok (.bipush 8, 2) := by decide +kernel
theorem dX12_endStop_6 : decode cX12_endStop 6 = .ok (.iload_n 1, 1) := by decide +kernel
theorem dX12_endStop_7 : decode cX12_endStop 7 = .ok (.imul, 1) := by decide +kernel
theorem dX12_endStop_8 : decode cX12_endStop 8 = .ok (.aload_n 0, 1) := by decide +kernel
theorem dX12_endStop_9 : decode cX12_endStop 9 = .ok (.getfield 30, 3) := by decide +kernel
theorem dX12_endStop_12 : decode cX12_endStop 12 = .ok (.iload_n 1, 1) := by decide +kernel
theorem dX12_endStop_13 : decode cX12_endStop 13 = .ok (.iaload, 1) := by decide +kernel
theorem dX12_endStop_14 : decode cX12_endStop 14 = .ok (.iadd, 1) := by decide +kernel
theorem dX12_endStop_15 : decode cX12_endStop 15 = .ok (.iconst 1, 1) := by decide +kernel
theorem dX12_endStop_16 : decode cX12_endStop 16 = .ok (.isub, 1) := by decide +kernel
theorem dX12_endStop_17 : decode cX12_endStop 17 = .ok (.iaload, 1) := by decide +kernel
theorem dX12_endStop_18 : decode cX12_endStop 18 = .ok (.ireturn, 1) := by decide +kernel
theorem dX12_vehicles_0 : decode cX12_vehicles 0 = .ok (.aload_n 0, 1) := by decide +kernel
theorem dX12_vehicles_1 : decode cX12_vehicles 1 = .ok (.iload_n 1, 1) := by decide +kernel
theorem dX12_vehicles_2 : decode cX12_vehicles 2 = .ok (.iconst 1, 1) := by decide +kernel
theorem dX12_vehicles_3 : decode cX12_vehicles 3 = .ok (.invokevirtual 154, 3) := by decide +kernel
theorem dX12_vehicles_6 : decode cX12_vehicles 6 = .ok (.ifCond .eq 5, 3) := by decide +kernel
theorem dX12_vehicles_9 : decode cX12_vehicles 9 = .ok (.iconst 0, 1) := by decide +kernel
theorem dX12_vehicles_10 : decode cX12_vehicles 10 = .ok (.ireturn, 1) := by decide +kernel
theorem dX12_vehicles_11 : decode cX12_vehicles 11 = .ok (.iconst 0, 1) := by decide +kernel
theorem dX12_vehicles_12 : decode cX12_vehicles 12 = .ok (.istore_n 2, 1) := by decide +kernel
theorem dX12_vehicles_13 : decode cX12_vehicles 13 = .ok (.iconst 0, 1) := by decide +kernel
theorem dX12_vehicles_14 : decode cX12_vehicles 14 = .ok (.istore_n 3, 1) := by decide +kernel
theorem dX12_vehicles_15 : decode cX12_vehicles 15 = .ok (.iload_n 3, 1) := by decide +kernel
theorem dX12_vehicles_16 : decode cX12_vehicles 16 = .ok (.aload_n 0, 1) := by decide +kernel
theorem dX12_vehicles_17 : decode cX12_vehicles 17 = .ok (.getfield 123, 3) := by decide +kernel
theorem dX12_vehicles_20 : decode cX12_vehicles 20 = .ok (.if_icmp .ge 183, 3) := by decide +kernel
theorem dX12_vehicles_23 : decode cX12_vehicles 23 = .ok (.iconst 0, 1) := by decide +kernel
theorem dX12_vehicles_24 : decode cX12_vehicles 24 = .ok (.istore 4, 2) := by decide +kernel
theorem dX12_vehicles_26 : decode cX12_vehicles 26 = .ok (.iconst 0, 1) := by decide +kernel
theorem dX12_vehicles_27 : decode cX12_vehicles 27 = .ok (.istore 5, 2) := by decide +kernel
theorem dX12_vehicles_29 : decode cX12_vehicles 29 = .ok (.iconst 0, 1) := by decide +kernel
theorem dX12_vehicles_30 : decode cX12_vehicles 30 = .ok (.istore 6, 2) := by decide +kernel
theorem dX12_vehicles_32 : decode cX12_vehicles 32 = .ok (.iload 6, 2) := by decide +kernel
theorem dX12_vehicles_34 : decode cX12_vehicles 34 = .ok (.aload_n 0, 1) := by decide +kernel
theorem dX12_vehicles_35 : decode cX12_vehicles 35 = .ok (.getfield 137, 3) := by decide +kernel
theorem dX12_vehicles_38 : decode cX12_vehicles 38 = .ok (.if_icmp .ge 105, 3) := by decide +kernel
theorem dX12_vehicles_41 : decode cX12_vehicles 41 = .ok (.aload_n 0, 1) := by decide +kernel
theorem dX12_vehicles_42 : decode cX12_vehicles 42 = .ok (.iload 6, 2) := by decide +kernel
theorem dX12_vehicles_44 : decode cX12_vehicles 44 = .ok (.iload_n 1, 1) := by decide +kernel
theorem dX12_vehicles_45 : decode cX12_vehicles 45 = .ok (.invokevirtual 294, 3) := by decide +kernel
theorem dX12_vehicles_48 : decode cX12_vehicles 48 = .ok (.ifCond .eq 89, 3) := by decide +kernel
theorem dX12_vehicles_51 : decode cX12_vehicles 51 = .ok (.aload_n 0, 1) := by decide +kernel
theorem dX12_vehicles_52 : decode cX12_vehicles 52 = .ok (.getfield 33, 3) := by decide +kernel
theorem dX12_vehicles_55 : decode cX12_vehicles 55 = .ok (.bipush 8, 2) := by decide +kernel
theorem dX12_vehicles_57 : decode cX12_vehicles 57 = .ok (.iload 6, 2) := by decide +kernel
theorem dX12_vehicles_59 : decode cX12_vehicles 59 = .ok (.imul, 1) := by decide +kernel
theorem dX12_vehicles_60 : decode cX12_vehicles 60 = .ok (.iaload, 1) := by decide +kernel
theorem dX12_vehicles_61 : decode cX12_vehicles 61 = .ok (.iload_n 3, 1) := by decide +kernel
theorem dX12_vehicles_62 : decode cX12_vehicles 62 = .ok (.if_icmp .ne 25, 3) := by decide +kernel
theorem dX12_vehicles_65 : decode cX12_vehicles 65 = .ok (.aload_n 0, 1) := by decide +kernel
theorem dX12_vehicles_66 : decode cX12_vehicles 66 = .ok (.getfield 117, 3) := by decide +kernel
theorem dX12_vehicles_69 : decode cX12_vehicles 69 = .ok (.iload 4, 2) := by decide +kernel
theorem dX12_vehicles_71 : decode cX12_vehicles 71 = .ok (.aload_n 0, 1) := by decide +kernel
theorem dX12_vehicles_72 : decode cX12_vehicles 72 = .ok (.getfield 39, 3) := by decide +kernel
theorem dX12_vehicles_75 : decode cX12_vehicles 75 = .ok (.bipush 8, 2) := by decide +kernel
theorem dX12_vehicles_77 : decode cX12_vehicles 77 = .ok (.iload 6, 2) := by decide +kernel
theorem dX12_vehicles_79 : decode cX12_vehicles 79 = .ok (.imul, 1) := by decide +kernel
theorem dX12_vehicles_80 : decode cX12_vehicles 80 = .ok (.iaload, 1) := by decide +kernel
theorem dX12_vehicles_81 : decode cX12_vehicles 81 = .ok (.invokestatic 315, 3) := by decide +kernel
theorem dX12_vehicles_84 : decode cX12_vehicles 84 = .ok (.goto 5, 3) := by decide +kernel
theorem dX12_vehicles_87 : decode cX12_vehicles 87 = .ok (.iload 4, 2) := by decide +kernel
theorem dX12_vehicles_89 : decode cX12_vehicles 89 = .ok (.istore 4, 2) := by decide +kernel
theorem dX12_vehicles_91 : decode cX12_vehicles 91 = .ok (.aload_n 0, 1) := by decide +kernel
theorem dX12_vehicles_92 : decode cX12_vehicles 92 = .ok (.iload 6, 2) := by decide +kernel
theorem dX12_vehicles_94 : decode cX12_vehicles 94 = .ok (.invokevirtual 319, 3) := by decide +kernel
theorem dX12_vehicles_97 : decode cX12_vehicles 97 = .ok (.iload_n 3, 1) := by decide +kernel
theorem dX12_vehicles_98 : decode cX12_vehicles 98 = .ok (.if_icmp .ne 35, 3) := by decide +kernel
theorem dX12_vehicles_101 : decode cX12_vehicles 101 = .ok (.aload_n 0, 1) := by decide +kernel
theorem dX12_vehicles_102 : decode cX12_vehicles 102 = .ok (.getfield 114, 3) := by decide +kernel
theorem dX12_vehicles_105 : decode cX12_vehicles 105 = .ok (.iload 5, 2) := by decide +kernel
theorem dX12_vehicles_107 : decode cX12_vehicles 107 = .ok (.aload_n 0, 1) := by decide +kernel
theorem dX12_vehicles_108 : decode cX12_vehicles 108 = .ok (.getfield 36, 3) := by decide +kernel
theorem dX12_vehicles_111 : decode cX12_vehicles 111 = .ok (.bipush 8, 2) := by decide +kernel
theorem dX12_vehicles_113 : decode cX12_vehicles 113 = .ok (.iload 6, 2) := by decide +kernel
theorem dX12_vehicles_115 : decode cX12_vehicles 115 = .ok (.imul, 1) := by decide +kernel
theorem dX12_vehicles_116 : decode cX12_vehicles 116 = .ok (.aload_n 0, 1) := by decide +kernel
theorem dX12_vehicles_117 : decode cX12_vehicles 117 = .ok (.getfield 30, 3) := by decide +kernel
theorem dX12_vehicles_120 : decode cX12_vehicles 120 = .ok (.iload 6, 2) := by decide +kernel
theorem dX12_vehicles_122 : decode cX12_vehicles 122 = .ok (.iaload, 1) := by decide +kernel
theorem dX12_vehicles_123 : decode cX12_vehicles 123 = .ok (.iadd, 1) := by decide +kernel
theorem dX12_vehicles_124 : decode cX12_vehicles 124 = .ok (.iconst 1, 1) := by decide +kernel
theorem dX12_vehicles_125 : decode cX12_vehicles 125 = .ok (.isub, 1) := by decide +kernel
theorem dX12_vehicles_126 : decode cX12_vehicles 126 = .ok (.iaload, 1) := by decide +kernel
theorem dX12_vehicles_127 : decode cX12_vehicles 127 = .ok (.invokestatic 315, 3) := by decide +kernel
theorem dX12_vehicles_130 : decode cX12_vehicles 130 = .ok (.goto 5, 3) := by decide +kernel
theorem dX12_vehicles_133 : decode cX12_vehicles 133 = .ok (.iload 5, 2) := by decide +kernel
theorem dX12_vehicles_135 : decode cX12_vehicles 135 = .ok (.istore 5, 2) := by decide +kernel
theorem dX12_vehicles_137 : decode cX12_vehicles 137 = .ok (.iinc 6 1, 3) := by decide +kernel
theorem dX12_vehicles_140 : decode cX12_vehicles 140 = .ok (.goto (-108), 3) := by decide +kernel
theorem dX12_vehicles_143 : decode cX12_vehicles 143 = .ok (.iconst 0, 1) := by decide +kernel
theorem dX12_vehicles_144 : decode cX12_vehicles 144 = .ok (.istore 6, 2) := by decide +kernel
theorem dX12_vehicles_146 : decode cX12_vehicles 146 = .ok (.iconst 0, 1) := by decide +kernel
theorem dX12_vehicles_147 : decode cX12_vehicles 147 = .ok (.istore 7, 2) := by decide +kernel
theorem dX12_vehicles_149 : decode cX12_vehicles 149 = .ok (.iload 7, 2) := by decide +kernel
theorem dX12_vehicles_151 : decode cX12_vehicles 151 = .ok (.iload 4, 2) := by decide +kernel
theorem dX12_vehicles_153 : decode cX12_vehicles 153 = .ok (.if_icmp .ge 44, 3) := by decide +kernel
theorem dX12_vehicles_156 : decode cX12_vehicles 156 = .ok (.iload 6, 2) := by decide +kernel
theorem dX12_vehicles_158 : decode cX12_vehicles 158 = .ok (.iload 5, 2) := by decide +kernel
theorem dX12_vehicles_160 : decode cX12_vehicles 160 = .ok (.if_icmp .ge 28, 3) := by decide +kernel
theorem dX12_vehicles_163 : decode cX12_vehicles 163 = .ok (.aload_n 0, 1) := by decide +kernel
theorem dX12_vehicles_164 : decode cX12_vehicles 164 = .ok (.getfield 114, 3) := by decide +kernel
theorem dX12_vehicles_167 : decode cX12_vehicles 167 = .ok (.iload 6, 2) := by decide +kernel
theorem dX12_vehicles_169 : decode cX12_vehicles 169 = .ok (.iaload, 1) := by decide +kernel
theorem dX12_vehicles_170 : decode cX12_vehicles 170 = .ok (.iconst 5, 1) := by decide +kernel
theorem dX12_vehicles_171 : decode cX12_vehicles 171 = .ok (.iadd, 1) := by decide +kernel
theorem dX12_vehicles_172 : decode cX12_vehicles 172 = .ok (.aload_n 0, 1) := by decide +kernel
theorem dX12_vehicles_173 : decode cX12_vehicles 173 = .ok (.getfield 117, 3) := by decide +kernel
theorem dX12_vehicles_176 : decode cX12_vehicles 176 = .ok (.iload 7, 2) := by decide +kernel
theorem dX12_vehicles_178 : decode cX12_vehicles 178 = .ok (.iaload, 1) := by decide +kernel
theorem dX12_vehicles_179 : decode cX12_vehicles 179 = .ok (.if_icmp .gt 9, 3) := by decide +kernel
theorem dX12_vehicles_182 : decode cX12_vehicles 182 = .ok (.iinc 6 1, 3) := by decide +kernel
theorem dX12_vehicles_185 : decode cX12_vehicles 185 = .ok (.goto 6, 3) := by decide +kernel
theorem dX12_vehicles_188 : decode cX12_vehicles 188 = .ok (.iinc 2 1, 3) := by decide +kernel
theorem dX12_vehicles_191 : decode cX12_vehicles 191 = .ok (.iinc 7 1, 3) := by decide +kernel
theorem dX12_vehicles_194 : decode cX12_vehicles 194 = .ok (.goto (-45), 3) := by decide +kernel
theorem dX12_vehicles_197 : decode cX12_vehicles 197 = .ok (.iinc 3 1, 3) := by decide +kernel
theorem dX12_vehicles_200 : decode cX12_vehicles 200 = .ok (.goto (-185), 3) := by decide +kernel
theorem dX12_vehicles_203 : decode cX12_vehicles 203 = .ok (.iload_n 2, 1) := by decide +kernel
theorem dX12_vehicles_204 : decode cX12_vehicles 204 = .ok (.ireturn, 1) := by decide +kernel
theorem dX12_put_0 : decode cX12_put 0 = .ok (.iload_n 1, 1) := by decide +kernel
theorem dX12_put_1 : decode cX12_put 1 = .ok (.istore_n 3, 1) := by decide +kernel
theorem dX12_put_2 : decode cX12_put 2 = .ok (.iload_n 3, 1) := by decide +kernel
theorem dX12_put_3 : decode cX12_put 3 = .ok (.ifCond .le 26, 3) := by decide +kernel
theorem dX12_put_6 : decode cX12_put 6 = .ok (.aload_n 0, 1) := by decide +kernel
theorem dX12_put_7 : decode cX12_put 7 = .ok (.iload_n 3, 1) := by decide +kernel
theorem dX12_put_8 : decode cX12_put 8 = .ok (.iconst 1, 1) := by decide +kernel
theorem dX12_put_9 : decode cX12_put 9 = .ok (.isub, 1) := by decide +kernel
theorem dX12_put_10 : decode cX12_put 10 = .ok (.iaload, 1) := by decide +kernel
theorem dX12_put_11 : decode cX12_put 11 = .ok (.iload_n 2, 1) := by decide +kernel
theorem dX12_put_12 : decode cX12_put 12 = .ok (.if_icmp .le 17, 3) := by decide +kernel
theorem dX12_put_15 : decode cX12_put 15 = .ok (.aload_n 0, 1) := by decide +kernel
theorem dX12_put_16 : decode cX12_put 16 = .ok (.iload_n 3, 1) := by decide +kernel
theorem dX12_put_17 : decode cX12_put 17 = .ok (.aload_n 0, 1) := by decide +kernel
theorem dX12_put_18 : decode cX12_put 18 = .ok (.iload_n 3, 1) := by decide +kernel
theorem dX12_put_19 : decode cX12_put 19 = .ok (.iconst 1, 1) := by decide +kernel
theorem dX12_put_20 : decode cX12_put 20 = .ok (.isub, 1) := by decide +kernel
theorem dX12_put_21 : decode cX12_put 21 = .ok (.iaload, 1) := by decide +kernel
theorem dX12_put_22 : decode cX12_put 22 = .ok (.iastore, 1) := by decide +kernel
theorem dX12_put_23 : decode cX12_put 23 = .ok (.iinc 3 (-1), 3) := by decide +kernel
theorem dX12_put_26 : decode cX12_put 26 = .ok (.goto (-24), 3) := by decide +kernel
theorem dX12_put_29 : decode cX12_put 29 = .ok (.aload_n 0, 1) := by decide +kernel
theorem dX12_put_30 : decode cX12_put 30 = .ok (.iload_n 3, 1) := by decide +kernel
theorem dX12_put_31 : decode cX12_put 31 = .ok (.iload_n 2, 1) := by decide +kernel
theorem dX12_put_32 : decode cX12_put 32 = .ok (.iastore, 1) := by decide +kernel
theorem dX12_put_33 : decode cX12_put 33 = .ok (.iload_n 1, 1) := by decide +kernel
theorem dX12_put_34 : decode cX12_put 34 = .ok (.iconst 1, 1) := by decide +kernel
theorem dX12_put_35 : decode cX12_put 35 = .ok (.iadd, 1) := by decide +kernel
theorem dX12_put_36 : decode cX12_put 36 = .ok (.ireturn, 1) := by decide +kernel
theorem dX12_vehiclesByMatching_0 : decode cX12_vehiclesByMatching 0 = .ok (.aload_n 0, 1) := by decide +kernel
theorem dX12_vehiclesByMatching_1 : decode cX12_vehiclesByMatching 1 = .ok (.iload_n 1, 1) := by decide +kernel
theorem dX12_vehiclesByMatching_2 : decode cX12_vehiclesByMatching 2 = .ok (.invokevirtual 322, 3) := by decide +kernel
theorem dX12_vehiclesByMatching_5 : decode cX12_vehiclesByMatching 5 = .ok (.ireturn, 1) := by decide +kernel
theorem dX12_other_0 : decode cX12_other 0 = .ok (.aload_n 0, 1) := by decide +kernel
theorem dX12_other_1 : decode cX12_other 1 = .ok (.iload_n 1, 1) := by decide +kernel
theorem dX12_other_2 : decode cX12_other 2 = .ok (.invokevirtual 140, 3) := by decide +kernel
theorem dX12_other_5 : decode cX12_other 5 = .ok (.ifCond .ne 58, 3) := by decide +kernel
theorem dX12_other_8 : decode cX12_other 8 = .ok (.aload_n 0, 1) := by decide +kernel
theorem dX12_other_9 : decode cX12_other 9 = .ok (.iload_n 2, 1) := by decide +kernel
theorem dX12_other_10 : decode cX12_other 10 = .ok (.bipush (-60), 2) := by decide +kernel
theorem dX12_other_12 : decode cX12_other 12 = .ok (.bipush 60, 2) := by decide +kernel
theorem dX12_other_14 : decode cX12_other 14 = .ok (.invokestatic 126, 3) := by decide +kernel
theorem dX12_other_17 : decode cX12_other 17 = .ok (.ifCond .eq 34, 3) := by decide +kernel
theorem dX12_other_20 : decode cX12_other 20 = .ok (.iload_n 3, 1) := by decide +kernel
theorem dX12_other_21 : decode cX12_other 21 = .ok (.iconst 0, 1) := by decide +kernel
theorem dX12_other_22 : decode cX12_other 22 = .ok (.bipush 27, 2) := by decide +kernel
theorem dX12_other_24 : decode cX12_other 24 = .ok (.invokestatic 126, 3) := by decide +kernel
theorem dX12_other_27 : decode cX12_other 27 = .ok (.ifCond .eq 24, 3) := by decide +kernel
theorem dX12_other_30 : decode cX12_other 30 = .ok (.iload 4, 2) := by decide +kernel
theorem dX12_other_32 : decode cX12_other 32 = .ok (.iconst 0, 1) := by decide +kernel
theorem dX12_other_33 : decode cX12_other 33 = .ok (.sipush 1439, 3) := by decide +kernel
theorem dX12_other_36 : decode cX12_other 36 = .ok (.invokestatic 126, 3) := by decide +kernel
theorem dX12_other_39 : decode cX12_other 39 = .ok (.ifCond .eq 12, 3) := by decide +kernel
theorem dX12_other_42 : decode cX12_other 42 = .ok (.aload_n 0, 1) := by decide +kernel
theorem dX12_other_43 : decode cX12_other 43 = .ok (.iload_n 1, 1) := by decide +kernel
theorem dX12_other_44 : decode cX12_other 44 = .ok (.iload_n 2, 1) := by decide +kernel
theorem dX12_other_45 : decode cX12_other 45 = .ok (.invokevirtual 165, 3) := by decide +kernel
theorem dX12_other_48 : decode cX12_other 48 = .ok (.ifCond .eq 7, 3) := by decide +kernel
theorem dX12_other_51 : decode cX12_other 51 = .ok (.iconst 1, 1) := by decide +kernel
theorem dX12_other_52 : decode cX12_other 52 = .ok (.goto 4, 3) := by decide +kernel
theorem dX12_other_55 : decode cX12_other 55 = .ok (.iconst 0, 1) := by decide +kernel
theorem dX12_other_56 : decode cX12_other 56 = .ok (.iconst 2, 1) := by decide +kernel
theorem dX12_other_57 : decode cX12_other 57 = .ok (.invokevirtual 130, 3) := by decide +kernel
theorem dX12_other_60 : decode cX12_other 60 = .ok (.ifCond .eq 5, 3) := by decide +kernel
theorem dX12_other_63 : decode cX12_other 63 = .ok (.iconst 0, 1) := by decide +kernel
theorem dX12_other_64 : decode cX12_other 64 = .ok (.ireturn, 1) := by decide +kernel
theorem dX12_other_65 : decode cX12_other 65 = .ok (.aload_n 0, 1) := by decide +kernel
theorem dX12_other_66 : decode cX12_other 66 = .ok (.iload_n 3, 1) := by decide +kernel
theorem dX12_other_67 : decode cX12_other 67 = .ok (.iload 4, 2) := by decide +kernel
theorem dX12_other_69 : decode cX12_other 69 = .ok (.invokevirtual 309, 3) := by decide +kernel
theorem dX12_other_72 : decode cX12_other 72 = .ok (.aload_n 0, 1) := by decide +kernel
theorem dX12_other_73 : decode cX12_other 73 = .ok (.iload_n 1, 1) := by decide +kernel
theorem dX12_other_74 : decode cX12_other 74 = .ok (.iload_n 2, 1) := by decide +kernel
theorem dX12_other_75 : decode cX12_other 75 = .ok (.invokevirtual 168, 3) := by decide +kernel
theorem dX12_other_78 : decode cX12_other 78 = .ok (.iconst 0, 1) := by decide +kernel
theorem dX12_other_79 : decode cX12_other 79 = .ok (.istore 6, 2) := by decide +kernel
theorem dX12_other_81 : decode cX12_other 81 = .ok (.iconst 0, 1) := by decide +kernel
theorem dX12_other_82 : decode cX12_other 82 = .ok (.istore 7, 2) := by decide +kernel
theorem dX12_other_84 : decode cX12_other 84 = .ok (.iload 7, 2) := by decide +kernel
theorem dX12_other_86 : decode cX12_other 86 = .ok (.aload_n 0, 1) := by decide +kernel
theorem dX12_other_87 : decode cX12_other 87 = .ok (.getfield 123, 3) := by decide +kernel
theorem dX12_other_90 : decode cX12_other 90 = .ok (.if_icmp .ge 102, 3) := by decide +kernel
theorem dX12_other_93 : decode cX12_other 93 = .ok (.aload_n 0, 1) := by decide +kernel
theorem dX12_other_94 : decode cX12_other 94 = .ok (.iload 7, 2) := by decide +kernel
theorem dX12_other_96 : decode cX12_other 96 = .ok (.iload 7, 2) := by decide +kernel
theorem dX12_other_98 : decode cX12_other 98 = .ok (.iload_n 3, 1) := by decide +kernel
theorem dX12_other_99 : decode cX12_other 99 = .ok (.iload 4, 2) := by decide +kernel
theorem dX12_other_101 : decode cX12_other 101 = .ok (.invokevirtual 243, 3) := by decide +kernel
theorem dX12_other_104 : decode cX12_other 104 = .ok (.istore 8, 2) := by decide +kernel
theorem dX12_other_106 : decode cX12_other 106 = .ok (.iconst 0, 1) := by decide +kernel
theorem dX12_other_107 : decode cX12_other 107 = .ok (.istore 9, 2) := by decide +kernel
theorem dX12_other_109 : decode cX12_other 109 = .ok (.iload 9, 2) := by decide +kernel
theorem dX12_other_111 : decode cX12_other 111 = .ok (.aload_n 0, 1) := by decide +kernel
theorem dX12_other_112 : decode cX12_other 112 = .ok (.getfield 123, 3) := by decide +kernel
theorem dX12_other_115 : decode cX12_other 115 = .ok (.if_icmp .ge 71, 3) := by decide +kernel
theorem dX12_other_118 : decode cX12_other 118 = .ok (.aload_n 0, 1) := by decide +kernel
theorem dX12_other_119 : decode cX12_other 119 = .ok (.getfield 108, 3) := by decide +kernel
theorem dX12_other_122 : decode cX12_other 122 = .ok (.bipush 12, 2) := by decide +kernel
theorem dX12_other_124 : decode cX12_other 124 = .ok (.iload 7, 2) := by decide +kernel
theorem dX12_other_126 : decode cX12_other 126 = .ok (.imul, 1) := by decide +kernel
theorem dX12_other_127 : decode cX12_other 127 = .ok (.iload 9, 2) := by decide +kernel
theorem dX12_other_129 : decode cX12_other 129 = .ok (.iadd, 1) := by decide +kernel
theorem dX12_other_130 : decode cX12_other 130 = .ok (.iaload, 1) := by decide +kernel
theorem dX12_other_131 : decode cX12_other 131 = .ok (.istore 10, 2) := by decide +kernel
theorem dX12_other_133 : decode cX12_other 133 = .ok (.iload 6, 2) := by decide +kernel
theorem dX12_other_135 : decode cX12_other 135 = .ok (.iload 7, 2) := by decide +kernel
theorem dX12_other_137 : decode cX12_other 137 = .ok (.iload 9, 2) := by decide +kernel
theorem dX12_other_139 : decode cX12_other 139 = .ok (.if_icmp .eq 37, 3) := by decide +kernel
theorem dX12_other_142 : decode cX12_other 142 = .ok (.iload 5, 2) := by decide +kernel
theorem dX12_other_144 : decode cX12_other 144 = .ok (.ifCond .eq 17, 3) := by decide +kernel
theorem dX12_other_147 : decode cX12_other 147 = .ok (.aload_n 0, 1) := by decide +kernel
theorem dX12_other_148 : decode cX12_other 148 = .ok (.iload 9, 2) := by decide +kernel
theorem dX12_other_150 : decode cX12_other 150 = .ok (.invokevirtual 235, 3) := by decide +kernel
theorem dX12_other_153 : decode cX12_other 153 = .ok (.iload 10, 2) := by decide +kernel
theorem dX12_other_155 : decode cX12_other 155 = .ok (.if_icmp .ge 21, 3) := by decide +kernel
theorem dX12_other_158 : decode cX12_other 158 = .ok (.goto 14, 3) := by decide +kernel
theorem dX12_other_161 : decode cX12_other 161 = .ok (.aload_n 0, 1) := by decide +kernel
theorem dX12_other_162 : decode cX12_other 162 = .ok (.iload 9, 2) := by decide +kernel
theorem dX12_other_164 : decode cX12_other 164 = .ok (.invokevirtual 235, 3) := by decide +kernel
theorem dX12_other_167 : decode cX12_other 167 = .ok (.iload 10, 2) := by decide +kernel
theorem dX12_other_169 : decode cX12_other 169 = .ok (.if_icmp .le 7, 3) := by decide +kernel
theorem dX12_other_172 : decode cX12_other 172 = .ok (.iconst 1, 1) := by decide +kernel
theorem dX12_other_173 : decode cX12_other 173 = .ok (.goto 4, 3) := by decide +kernel
theorem dX12_other_176 : decode cX12_other 176 = .ok (.iconst 0, 1) := by decide +kernel
theorem dX12_other_177 : decode cX12_other 177 = .ok (.iadd, 1) := by decide +kernel
theorem dX12_other_178 : decode cX12_other 178 = .ok (.istore 6, 2) := by decide +kernel
theorem dX12_other_180 : decode cX12_other 180 = .ok (.iinc 9 1, 3) := by decide +kernel
theorem dX12_other_183 : decode cX12_other 183 = .ok (.goto (-74), 3) := by decide +kernel
theorem dX12_other_186 : decode cX12_other 186 = .ok (.iinc 7 1, 3) := by decide +kernel
theorem dX12_other_189 : decode cX12_other 189 = .ok (.goto (-105), 3) := by decide +kernel
theorem dX12_other_192 : decode cX12_other 192 = .ok (.aload_n 0, 1) := by decide +kernel
theorem dX12_other_193 : decode cX12_other 193 = .ok (.iload_n 1, 1) := by decide +kernel
theorem dX12_other_194 : decode cX12_other 194 = .ok (.iload_n 2, 1) := by decide +kernel
theorem dX12_other_195 : decode cX12_other 195 = .ok (.ineg, 1) := by decide +kernel
theorem dX12_other_196 : decode cX12_other 196 = .ok (.invokevirtual 168, 3) := by decide +kernel
theorem dX12_other_199 : decode cX12_other 199 = .ok (.iload 6, 2) := by decide +kernel
theorem dX12_other_201 : decode cX12_other 201 = .ok (.ireturn, 1) := by decide +kernel
theorem dX12_gains_0 : decode cX12_gains 0 = .ok (.aload_n 0, 1) := by decide +kernel
theorem dX12_gains_1 : decode cX12_gains 1 = .ok (.iload_n 1, 1) := by decide +kernel
theorem dX12_gains_2 : decode cX12_gains 2 = .ok (.iload_n 2, 1) := by decide +kernel
theorem dX12_gains_3 : decode cX12_gains 3 = .ok (.iload_n 3, 1) := by decide +kernel
theorem dX12_gains_4 : decode cX12_gains 4 = .ok (.iload 4, 2) := by decide +kernel
theorem dX12_gains_6 : decode cX12_gains 6 = .ok (.iconst 1, 1) := by decide +kernel
theorem dX12_gains_7 : decode cX12_gains 7 = .ok (.invokevirtual 325, 3) := by decide +kernel
theorem dX12_gains_10 : decode cX12_gains 10 = .ok (.ireturn, 1) := by decide +kernel
theorem dX12_loses_0 : decode cX12_loses 0 = .ok (.aload_n 0, 1) := by decide +kernel
theorem dX12_loses_1 : decode cX12_loses 1 = .ok (.iload_n 1, 1) := by decide +kernel
theorem dX12_loses_2 : decode cX12_loses 2 = .ok (.iload_n 2, 1) := by decide +kernel
theorem dX12_loses_3 : decode cX12_loses 3 = .ok (.iload_n 3, 1) := by decide +kernel
theorem dX12_loses_4 : decode cX12_loses 4 = .ok (.iload 4, 2) := by decide +kernel
theorem dX12_loses_6 : decode cX12_loses 6 = .ok (.iconst 0, 1) := by decide +kernel
theorem dX12_loses_7 : decode cX12_loses 7 = .ok (.invokevirtual 325, 3) := by decide +kernel
theorem dX12_loses_10 : decode cX12_loses 10 = .ok (.ireturn, 1) := by decide +kernel
theorem dX12_reachShare_0 : decode cX12_reachShare 0 = .ok (.aload_n 0, 1) := by decide +kernel
theorem dX12_reachShare_1 : decode cX12_reachShare 1 = .ok (.iload_n 1, 1) := by decide +kernel
theorem dX12_reachShare_2 : decode cX12_reachShare 2 = .ok (.iconst 1, 1) := by decide +kernel
theorem dX12_reachShare_3 : decode cX12_reachShare 3 = .ok (.invokevirtual 154, 3) := by decide +kernel
theorem dX12_reachShare_6 : decode cX12_reachShare 6 = .ok (.ifCond .ne 24, 3) := by decide +kernel
theorem dX12_reachShare_9 : decode cX12_reachShare 9 = .ok (.aload_n 0, 1) := by decide +kernel
theorem dX12_reachShare_10 : decode cX12_reachShare 10 = .ok (.aload_n 0, 1) := by decide +kernel
theorem dX12_reachShare_11 : decode cX12_reachShare 11 = .ok (.getfield 123, 3) := by decide +kernel
theorem dX12_reachShare_14 : decode cX12_reachShare 14 = .ok (.iconst 2, 1) := by decide +kernel
theorem dX12_reachShare_15 : decode cX12_reachShare 15 = .ok (.if_icmp .ge 7, 3) := by decide +kernel
theorem dX12_reachShare_18 : decode cX12_reachShare 18 = .ok (.iconst 1, 1) := by decide +kernel
theorem dX12_reachShare_19 : decode cX12_reachShare 19 = .ok (.goto 4, 3) := by decide +kernel
theorem dX12_reachShare_22 : decode cX12_reachShare 22 = .ok (.iconst 0, 1) := by decide +kernel
theorem dX12_reachShare_23 : decode cX12_reachShare 23 = .ok (.iconst 2, 1) := by decide +kernel
theorem dX12_reachShare_24 : decode cX12_reachShare 24 = .ok (.invokevirtual 130, 3) := by decide +kernel
theorem dX12_reachShare_27 : decode cX12_reachShare 27 = .ok (.ifCond .eq 5, 3) := by decide +kernel
theorem dX12_reachShare_30 : decode cX12_reachShare 30 = .ok (.fconst 0, 1) := by decide +kernel
theorem dX12_reachShare_31 : decode cX12_reachShare 31 = .ok (.freturn, 1) := by decide +kernel
theorem dX12_reachShare_32 : decode cX12_reachShare 32 = .ok (.aload_n 0, 1) := by decide +kernel
theorem dX12_reachShare_33 : decode cX12_reachShare 33 = .ok (.iload_n 1, 1) := by decide +kernel
theorem dX12_reachShare_34 : decode cX12_reachShare 34 = .ok (.iconst 0, 1) := by decide +kernel
theorem dX12_reachShare_35 : decode cX12_reachShare 35 = .ok (.invokevirtual 309, 3) := by decide +kernel
theorem dX12_reachShare_38 : decode cX12_reachShare 38 = .ok (.iconst 0, 1) := by decide +kernel
theorem dX12_reachShare_39 : decode cX12_reachShare 39 = .ok (.istore_n 2, 1) := by decide +kernel
theorem dX12_reachShare_40 : decode cX12_reachShare 40 = .ok (.iconst 0, 1) := by decide +kernel
theorem dX12_reachShare_41 : decode cX12_reachShare 41 = .ok (.istore_n 3, 1) := by decide +kernel
theorem dX12_reachShare_42 : decode cX12_reachShare 42 = .ok (.iload_n 3, 1) := by decide +kernel
theorem dX12_reachShare_43 : decode cX12_reachShare 43 = .ok (.aload_n 0, 1) := by decide +kernel
theorem dX12_reachShare_44 : decode cX12_reachShare 44 = .ok (.getfield 123, 3) := by decide +kernel
theorem dX12_reachShare_47 : decode cX12_reachShare 47 = .ok (.if_icmp .ge 58, 3) := by decide +kernel
theorem dX12_reachShare_50 : decode cX12_reachShare 50 = .ok (.iconst 0, 1) := by decide +kernel
theorem dX12_reachShare_51 : decode cX12_reachShare 51 = .ok (.istore 4, 2) := by decide +kernel
theorem dX12_reachShare_53 : decode cX12_reachShare 53 = .ok (.iload 4, 2) := by decide +kernel
theorem dX12_reachShare_55 : decode cX12_reachShare 55 = .ok (.aload_n 0, 1) := by decide +kernel
theorem dX12_reachShare_56 : decode cX12_reachShare 56 = .ok (.getfield 123, 3) := by decide +kernel
theorem dX12_reachShare_59 : decode cX12_reachShare 59 = .ok (.if_icmp .ge 40, 3) := by decide +kernel
theorem dX12_reachShare_62 : decode cX12_reachShare 62 = .ok (.iload_n 2, 1) := by decide +kernel
theorem dX12_reachShare_63 : decode cX12_reachShare 63 = .ok (.iload_n 3, 1) := by decide +kernel
theorem dX12_reachShare_64 : decode cX12_reachShare 64 = .ok (.iload 4, 2) := by decide +kernel
theorem dX12_reachShare_66 : decode cX12_reachShare 66 = .ok (.if_icmp .eq 24, 3) := by decide +kernel
theorem dX12_reachShare_69 : decode cX12_reachShare 69 = .ok (.aload_n 0, 1) := by decide +kernel
theorem dX12_reachShare_70 : decode cX12_reachShare 70 = .ok (.getfield 108, 3) := by decide +kernel
theorem dX12_reachShare_73 : decode cX12_reachShare 73 = .ok (.bipush 12, 2) := by decide +kernel
theorem dX12_reachShare_75 : decode cX12_reachShare 75 = .ok (.iload_n 3, 1) := by decide +kernel
theorem dX12_reachShare_76 : decode cX12_reachShare 76 = .ok (.imul, 1) := by decide +kernel
theorem dX12_reachShare_77 : decode cX12_reachShare 77 = .ok (.iload 4, 2) := by decide +kernel
theorem dX12_reachShare_79 : decode cX12_reachShare 79 = .ok (.iadd, 1) := by decide +kernel
theorem dX12_reachShare_80 : decode cX12_reachShare 80 = .ok (.iaload, 1) := by decide +kernel
theorem dX12_reachShare_81 : decode cX12_reachShare 81 = .ok (.ldc 150, 2) := by decide +kernel
theorem dX12_reachShare_83 : decode cX12_reachShare 83 = .ok (.if_icmp .ge 7, 3) := by decide +kernel
theorem dX12_reachShare_86 : decode cX12_reachShare 86 = .ok (.iconst 1, 1) := by decide +kernel
theorem dX12_reachShare_87 : decode cX12_reachShare 87 = .ok (.goto 4, 3) := by decide +kernel
theorem dX12_reachShare_90 : decode cX12_reachShare 90 = .ok (.iconst 0, 1) := by decide +kernel
theorem dX12_reachShare_91 : decode cX12_reachShare 91 = .ok (.iadd, 1) := by decide +kernel
theorem dX12_reachShare_92 : decode cX12_reachShare 92 = .ok (.istore_n 2, 1) := by decide +kernel
theorem dX12_reachShare_93 : decode cX12_reachShare 93 = .ok (.iinc 4 1, 3) := by decide +kernel
theorem dX12_reachShare_96 : decode cX12_reachShare 96 = .ok (.goto (-43), 3) := by decide +kernel
theorem dX12_reachShare_99 : decode cX12_reachShare 99 = .ok (.iinc 3 1, 3) := by decide +kernel
theorem dX12_reachShare_102 : decode cX12_reachShare 102 = .ok (.goto (-60), 3) := by decide +kernel
theorem dX12_reachShare_105 : decode cX12_reachShare 105 = .ok (.iload_n 2, 1) := by decide +kernel
theorem dX12_reachShare_106 : decode cX12_reachShare 106 = .ok (.i2f, 1) := by decide +kernel
theorem dX12_reachShare_107 : decode cX12_reachShare 107 = .ok (.aload_n 0, 1) := by decide +kernel
theorem dX12_reachShare_108 : decode cX12_reachShare 108 = .ok (.getfield 123, 3) := by decide +kernel
theorem dX12_reachShare_111 : decode cX12_reachShare 111 = .ok (.aload_n 0, 1) := by decide +kernel
theorem dX12_reachShare_112 : decode cX12_reachShare 112 = .ok (.getfield 123, 3) := by decide +kernel
theorem dX12_reachShare_115 : decode cX12_reachShare 115 = .ok (.iconst 1, 1) := by decide +kernel
theorem dX12_reachShare_116 : decode cX12_reachShare 116 = .ok (.isub, 1) := by decide +kernel
theorem dX12_reachShare_117 : decode cX12_reachShare 117 = .ok (.imul, 1) := by decide +kernel
theorem dX12_reachShare_118 : decode cX12_reachShare 118 = .ok (.i2f, 1) := by decide +kernel
theorem dX12_reachShare_119 : decode cX12_reachShare 119 = .ok (.fdiv, 1) := by decide +kernel
theorem dX12_reachShare_120 : decode cX12_reachShare 120 = .ok (.freturn, 1) := by decide +kernel
theorem dX12_meanBetween_0 : decode cX12_meanBetween 0 = .ok (.iconst 0, 1) := by decide +kernel
theorem dX12_meanBetween_1 : decode cX12_meanBetween 1 = .ok (.istore_n 1, 1) := by decide +kernel
theorem dX12_meanBetween_2 : decode cX12_meanBetween 2 = .ok (.iconst 0, 1) := by decide +kernel
theorem dX12_meanBetween_3 : decode cX12_meanBetween 3 = .ok (.istore_n 2, 1) := by decide +kernel
theorem dX12_meanBetween_4 : decode cX12_meanBetween 4 = .ok (.iconst 0, 1) := by decide +kernel
theorem dX12_meanBetween_5 : decode cX12_meanBetween 5 = .ok (.istore_n 3, 1) := by decide +kernel
theorem dX12_meanBetween_6 : decode cX12_meanBetween 6 = .ok (.iload_n 3, 1) := by decide +kernel
theorem dX12_meanBetween_7 : decode cX12_meanBetween 7 = .ok (.aload_n 0, 1) := by decide +kernel
theorem dX12_meanBetween_8 : decode cX12_meanBetween 8 = .ok (.getfield 137, 3) := by decide +kernel
theorem dX12_meanBetween_11 : decode cX12_meanBetween 11 = .ok (.if_icmp .ge 62, 3) := by decide +kernel
theorem dX12_meanBetween_14 : decode cX12_meanBetween 14 = .ok (.iconst 1, 1) := by decide +kernel
theorem dX12_meanBetween_15 : decode cX12_meanBetween 15 = .ok (.istore 4, 2) := by decide +kernel
theorem dX12_meanBetween_17 : decode cX12_meanBetween 17 = .ok (.iload 4, 2) := by decide +kernel
theorem dX12_meanBetween_19 : decode cX12_meanBetween 19 = .ok (.aload_n 0, 1) := by decide +kernel
theorem dX12_meanBetween_20 : decode cX12_meanBetween 20 = .ok (.getfield 30, 3) := by decide +kernel
theorem dX12_meanBetween_23 : decode cX12_meanBetween 23 = .ok (.iload_n 3, 1) := by decide +kernel
theorem dX12_meanBetween_24 : decode cX12_meanBetween 24 = .ok (.iaload, 1) := by decide +kernel
theorem dX12_meanBetween_25 : decode cX12_meanBetween 25 = .ok (.if_icmp .ge 42, 3) := by decide +kernel
theorem dX12_meanBetween_28 : decode cX12_meanBetween 28 = .ok (.iload_n 2, 1) := by decide +kernel
theorem dX12_meanBetween_29 : decode cX12_meanBetween 29 = .ok (.aload_n 0, 1) := by decide +kernel
theorem dX12_meanBetween_30 : decode cX12_meanBetween 30 = .ok (.getfield 36, 3) := by decide +kernel
theorem dX12_meanBetween_33 : decode cX12_meanBetween 33 = .ok (.bipush 8, 2) := by decide +kernel
theorem dX12_meanBetween_35 : decode cX12_meanBetween 35 = .ok (.iload_n 3, 1) := by decide +kernel
theorem dX12_meanBetween_36 : decode cX12_meanBetween 36 = .ok (.imul, 1) := by decide +kernel
theorem dX12_meanBetween_37 : decode cX12_meanBetween 37 = .ok (.iload 4, 2) := by decide +kernel
theorem dX12_meanBetween_39 : decode cX12_meanBetween 39 = .ok (.iadd, 1) := by decide +kernel
theorem dX12_meanBetween_40 : decode cX12_meanBetween 40 = .ok (.iaload, 1) := by decide +kernel
theorem dX12_meanBetween_41 : decode cX12_meanBetween 41 = .ok (.aload_n 0, 1) := by decide +kernel
theorem dX12_meanBetween_42 : decode cX12_meanBetween 42 = .ok (.getfield 39, 3) := by decide +kernel
theorem dX12_meanBetween_45 : decode cX12_meanBetween 45 = .ok (.bipush 8, 2) := by decide +kernel
theorem dX12_meanBetween_47 : decode cX12_meanBetween 47 = .ok (.iload_n 3, 1) := by decide +kernel
theorem dX12_meanBetween_48 : decode cX12_meanBetween 48 = .ok (.imul, 1) := by decide +kernel
theorem dX12_meanBetween_49 : decode cX12_meanBetween 49 = .ok (.iload 4, 2) := by decide +kernel
theorem dX12_meanBetween_51 : decode cX12_meanBetween 51 = .ok (.iadd, 1) := by decide +kernel
theorem dX12_meanBetween_52 : decode cX12_meanBetween 52 = .ok (.iconst 1, 1) := by decide +kernel
theorem dX12_meanBetween_53 : decode cX12_meanBetween 53 = .ok (.isub, 1) := by decide +kernel
theorem dX12_meanBetween_54 : decode cX12_meanBetween 54 = .ok (.iaload, 1) := by decide +kernel
theorem dX12_meanBetween_55 : decode cX12_meanBetween 55 = .ok (.isub, 1) := by decide +kernel
theorem dX12_meanBetween_56 : decode cX12_meanBetween 56 = .ok (.iadd, 1) := by decide +kernel
theorem dX12_meanBetween_57 : decode cX12_meanBetween 57 = .ok (.istore_n 2, 1) := by decide +kernel
theorem dX12_meanBetween_58 : decode cX12_meanBetween 58 = .ok (.iinc 1 1, 3) := by decide +kernel
theorem dX12_meanBetween_61 : decode cX12_meanBetween 61 = .ok (.iinc 4 1, 3) := by decide +kernel
theorem dX12_meanBetween_64 : decode cX12_meanBetween 64 = .ok (.goto (-47), 3) := by decide +kernel
theorem dX12_meanBetween_67 : decode cX12_meanBetween 67 = .ok (.iinc 3 1, 3) := by decide +kernel
theorem dX12_meanBetween_70 : decode cX12_meanBetween 70 = .ok (.goto (-64), 3) := by decide +kernel
theorem dX12_meanBetween_73 : decode cX12_meanBetween 73 = .ok (.aload_n 0, 1) := by decide +kernel
theorem dX12_meanBetween_74 : decode cX12_meanBetween 74 = .ok (.iload_n 1, 1) := by decide +kernel
theorem dX12_meanBetween_75 : decode cX12_meanBetween 75 = .ok (.ifCond .ne 7, 3) := by decide +kernel
theorem dX12_meanBetween_78 : decode cX12_meanBetween 78 = .ok (.iconst 1, 1) := by decide +kernel
theorem dX12_meanBetween_79 : decode cX12_meanBetween 79 = .ok (.goto 4, 3) := by decide +kernel
theorem dX12_meanBetween_82 : decode cX12_meanBetween 82 = .ok (.iconst 0, 1) := by decide +kernel
theorem dX12_meanBetween_83 : decode cX12_meanBetween 83 = .ok (.iconst 1, 1) := by decide +kernel
theorem dX12_meanBetween_84 : decode cX12_meanBetween 84 = .ok (.invokevirtual 130, 3) := by decide +kernel
theorem dX12_meanBetween_87 : decode cX12_meanBetween 87 = .ok (.ifCond .eq 7, 3) := by decide +kernel
theorem dX12_meanBetween_90 : decode cX12_meanBetween 90 = .ok (.dconst 0, 1) := by decide +kernel
theorem dX12_meanBetween_91 : decode cX12_meanBetween 91 = .ok (.goto 8, 3) := by decide +kernel
theorem dX12_meanBetween_94 : decode cX12_meanBetween 94 = .ok (.iload_n 2, 1) := by decide +kernel
theorem dX12_meanBetween_95 : decode cX12_meanBetween 95 = .ok (.i2d, 1) := by decide +kernel
theorem dX12_meanBetween_96 : decode cX12_meanBetween 96 = .ok (.iload_n 1, 1) := by decide +kernel
theorem dX12_meanBetween_97 : decode cX12_meanBetween 97 = .ok (.i2d, 1) := by decide +kernel
theorem dX12_meanBetween_98 : decode cX12_meanBetween 98 = .ok (.ddiv, 1) := by decide +kernel
theorem dX12_meanBetween_99 : decode cX12_meanBetween 99 = .ok (.dreturn, 1) := by decide +kernel
theorem dX12_checksum_0 : decode cX12_checksum 0 = .ok (.aload_n 0, 1) := by decide +kernel
theorem dX12_checksum_1 : decode cX12_checksum 1 = .ok (.iconst 0, 1) := by decide +kernel
theorem dX12_checksum_2 : decode cX12_checksum 2 = .ok (.putfield 120, 3) := by decide +kernel
theorem dX12_checksum_5 : decode cX12_checksum 5 = .ok (.ldc2_w 329, 3) := by decide +kernel
theorem dX12_checksum_8 : decode cX12_checksum 8 = .ok (.lstore_n 1, 1) := by decide +kernel
theorem dX12_checksum_9 : decode cX12_checksum 9 = .ok (.iconst 0, 1) := by decide +kernel
theorem dX12_checksum_10 : decode cX12_checksum 10 = .ok (.istore_n 3, 1) := by decide +kernel
theorem dX12_checksum_11 : decode cX12_checksum 11 = .ok (.iload_n 3, 1) := by decide +kernel
theorem dX12_checksum_12 : decode cX12_checksum 12 = .ok (.aload_n 0, 1) := by decide +kernel
theorem dX12_checksum_13 : decode cX12_checksum 13 = .ok (.getfield 123, 3) := by decide +kernel
theorem dX12_checksum_16 : decode cX12_checksum 16 = .ok (.if_icmp .ge 23, 3) := by decide +kernel
theorem dX12_checksum_19 : decode cX12_checksum 19 = .ok (.ldc2_w 331, 3) := by decide +kernel
theorem dX12_checksum_22 : decode cX12_checksum 22 = .ok (.lload_n 1, 1) := by decide +kernel
theorem dX12_checksum_23 : decode cX12_checksum 23 = .ok (.lmul, 1) := by decide +kernel
theorem dX12_checksum_24 : decode cX12_checksum 24 = .ok (.aload_n 0, 1) := by decide +kernel
theorem dX12_checksum_25 : decode cX12_checksum 25 = .ok (.getfield 9, 3) := by decide +kernel
theorem dX12_checksum_28 : decode cX12_checksum 28 = .ok (.iload_n 3, 1) := by decide +kernel
theorem dX12_checksum_29 : decode cX12_checksum 29 = .ok (.iaload, 1) := by decide +kernel
theorem dX12_checksum_30 : decode cX12_checksum 30 = .ok (.i2l, 1) := by decide +kernel
theorem dX12_checksum_31 : decode cX12_checksum 31 = .ok (.ladd, 1) := by decide +kernel
theorem dX12_checksum_32 : decode cX12_checksum 32 = .ok (.lstore_n 1, 1) := by decide +kernel
theorem dX12_checksum_33 : decode cX12_checksum 33 = .ok (.iinc 3 1, 3) := by decide +kernel
theorem dX12_checksum_36 : decode cX12_checksum 36 = .ok (.goto (-25), 3) := by decide +kernel
theorem dX12_checksum_39 : decode cX12_checksum 39 = .ok (.iconst 0, 1) := by decide +kernel
theorem dX12_checksum_40 : decode cX12_checksum 40 = .ok (.istore_n 3, 1) := by decide +kernel
theorem dX12_checksum_41 : decode cX12_checksum 41 = .ok (.iload_n 3, 1) := by decide +kernel
theorem dX12_checksum_42 : decode cX12_checksum 42 = .ok (.aload_n 0, 1) := by decide +kernel
theorem dX12_checksum_43 : decode cX12_checksum 43 = .ok (.getfield 137, 3) := by decide +kernel
theorem dX12_checksum_46 : decode cX12_checksum 46 = .ok (.if_icmp .ge 103, 3) := by decide +kernel
theorem dX12_checksum_49 : decode cX12_checksum 49 = .ok (.ldc2_w 331, 3) := by decide +kernel
theorem dX12_checksum_52 : decode cX12_checksum 52 = .ok (.lload_n 1, 1) := by decide +kernel
theorem dX12_checksum_53 : decode cX12_checksum 53 = .ok (.lmul, 1) := by decide +kernel
theorem dX12_checksum_54 : decode cX12_checksum 54 = .ok (.aload_n 0, 1) := by decide +kernel
theorem dX12_checksum_55 : decode cX12_checksum 55 = .ok (.getfield 27, 3) := by decide +kernel
theorem dX12_checksum_58 : decode cX12_checksum 58 = .ok (.iload_n 3, 1) := by decide +kernel
theorem dX12_checksum_59 : decode cX12_checksum 59 = .ok (.iaload, 1) := by decide +kernel
theorem dX12_checksum_60 : decode cX12_checksum 60 = .ok (.i2l, 1) := by decide +kernel
theorem dX12_checksum_61 : decode cX12_checksum 61 = .ok (.ladd, 1) := by decide +kernel
theorem dX12_checksum_62 : decode cX12_checksum 62 = .ok (.lstore_n 1, 1) := by decide +kernel
theorem dX12_checksum_63 : decode cX12_checksum 63 = .ok (.iconst 0, 1) := by decide +kernel
theorem dX12_checksum_64 : decode cX12_checksum 64 = .ok (.istore 4, 2) := by decide +kernel
theorem dX12_checksum_66 : decode cX12_checksum 66 = .ok (.iload 4, 2) := by decide +kernel
theorem dX12_checksum_68 : decode cX12_checksum 68 = .ok (.aload_n 0, 1) := by decide +kernel
theorem dX12_checksum_69 : decode cX12_checksum 69 = .ok (.getfield 30, 3) := by decide +kernel
theorem dX12_checksum_72 : decode cX12_checksum 72 = .ok (.iload_n 3, 1) := by decide +kernel
theorem dX12_checksum_73 : decode cX12_checksum 73 = .ok (.iaload, 1) := by decide +kernel
theorem dX12_checksum_74 : decode cX12_checksum 74 = .ok (.if_icmp .ge 69, 3) := by decide +kernel
theorem dX12_checksum_77 : decode cX12_checksum 77 = .ok (.ldc2_w 331, 3) := by decide +kernel
theorem dX12_checksum_80 : decode cX12_checksum 80 = .ok (.lload_n 1, 1) := by decide +kernel
theorem dX12_checksum_81 : decode cX12_checksum 81 = .ok (.lmul, 1) := by decide +kernel
theorem dX12_checksum_82 : decode cX12_checksum 82 = .ok (.aload_n 0, 1) := by decide +kernel
theorem dX12_checksum_83 : decode cX12_checksum 83 = .ok (.getfield 33, 3) := by decide +kernel
theorem dX12_checksum_86 : decode cX12_checksum 86 = .ok (.bipush 8, 2) := by decide +kernel
theorem dX12_checksum_88 : decode cX12_checksum 88 = .ok (.iload_n 3, 1) := by decide +kernel
theorem dX12_checksum_89 : decode cX12_checksum 89 = .ok (.imul, 1) := by decide +kernel
theorem dX12_checksum_90 : decode cX12_checksum 90 = .ok (.iload 4, 2) := by decide +kernel
theorem dX12_checksum_92 : decode cX12_checksum 92 = .ok (.iadd, 1) := by decide +kernel
theorem dX12_checksum_93 : decode cX12_checksum 93 = .ok (.iaload, 1) := by decide +kernel
theorem dX12_checksum_94 : decode cX12_checksum 94 = .ok (.i2l, 1) := by decide +kernel
theorem dX12_checksum_95 : decode cX12_checksum 95 = .ok (.ladd, 1) := by decide +kernel
theorem dX12_checksum_96 : decode cX12_checksum 96 = .ok (.lstore_n 1, 1) := by decide +kernel
theorem dX12_checksum_97 : decode cX12_checksum 97 = .ok (.ldc2_w 331, 3) := by decide +kernel
theorem dX12_checksum_100 : decode cX12_checksum 100 = .ok (.lload_n 1, 1) := by decide +kernel
theorem dX12_checksum_101 : decode cX12_checksum 101 = .ok (.lmul, 1) := by decide +kernel
theorem dX12_checksum_102 : decode cX12_checksum 102 = .ok (.aload_n 0, 1) := by decide +kernel
theorem dX12_checksum_103 : decode cX12_checksum 103 = .ok (.getfield 36, 3) := by decide +kernel
theorem dX12_checksum_106 : decode cX12_checksum 106 = .ok (.bipush 8, 2) := by decide +kernel
theorem dX12_checksum_108 : decode cX12_checksum 108 = .ok (.iload_n 3, 1) := by decide +kernel
theorem dX12_checksum_109 : decode cX12_checksum 109 = .ok (.imul, 1) := by decide +kernel
theorem dX12_checksum_110 : decode cX12_checksum 110 = .ok (.iload 4, 2) := by decide +kernel
theorem dX12_checksum_112 : decode cX12_checksum 112 = .ok (.iadd, 1) := by decide +kernel
theorem dX12_checksum_113 : decode cX12_checksum 113 = .ok (.iaload, 1) := by decide +kernel
theorem dX12_checksum_114 : decode cX12_checksum 114 = .ok (.i2l, 1) := by decide +kernel
theorem dX12_checksum_115 : decode cX12_checksum 115 = .ok (.ladd, 1) := by decide +kernel
theorem dX12_checksum_116 : decode cX12_checksum 116 = .ok (.lstore_n 1, 1) := by decide +kernel
theorem dX12_checksum_117 : decode cX12_checksum 117 = .ok (.ldc2_w 331, 3) := by decide +kernel
theorem dX12_checksum_120 : decode cX12_checksum 120 = .ok (.lload_n 1, 1) := by decide +kernel
theorem dX12_checksum_121 : decode cX12_checksum 121 = .ok (.lmul, 1) := by decide +kernel
theorem dX12_checksum_122 : decode cX12_checksum 122 = .ok (.aload_n 0, 1) := by decide +kernel
theorem dX12_checksum_123 : decode cX12_checksum 123 = .ok (.getfield 39, 3) := by decide +kernel
theorem dX12_checksum_126 : decode cX12_checksum 126 = .ok (.bipush 8, 2) := by decide +kernel
theorem dX12_checksum_128 : decode cX12_checksum 128 = .ok (.iload_n 3, 1) := by decide +kernel
theorem dX12_checksum_129 : decode cX12_checksum 129 = .ok (.imul, 1) := by decide +kernel
theorem dX12_checksum_130 : decode cX12_checksum 130 = .ok (.iload 4, 2) := by decide +kernel
theorem dX12_checksum_132 : decode cX12_checksum 132 = .ok (.iadd, 1) := by decide +kernel
theorem dX12_checksum_133 : decode cX12_checksum 133 = .ok (.iaload, 1) := by decide +kernel
theorem dX12_checksum_134 : decode cX12_checksum 134 = .ok (.i2l, 1) := by decide +kernel
theorem dX12_checksum_135 : decode cX12_checksum 135 = .ok (.ladd, 1) := by decide +kernel
theorem dX12_checksum_136 : decode cX12_checksum 136 = .ok (.lstore_n 1, 1) := by decide +kernel
theorem dX12_checksum_137 : decode cX12_checksum 137 = .ok (.iinc 4 1, 3) := by decide +kernel
theorem dX12_checksum_140 : decode cX12_checksum 140 = .ok (.goto (-74), 3) := by decide +kernel
theorem dX12_checksum_143 : decode cX12_checksum 143 = .ok (.iinc 3 1, 3) := by decide +kernel
theorem dX12_checksum_146 : decode cX12_checksum 146 = .ok (.goto (-105), 3) := by decide +kernel
theorem dX12_checksum_149 : decode cX12_checksum 149 = .ok (.iconst 0, 1) := by decide +kernel
theorem dX12_checksum_150 : decode cX12_checksum 150 = .ok (.istore_n 3, 1) := by decide +kernel
theorem dX12_checksum_151 : decode cX12_checksum 151 = .ok (.iload_n 3, 1) := by decide +kernel
theorem dX12_checksum_152 : decode cX12_checksum 152 = .ok (.aload_n 0, 1) := by decide +kernel
theorem dX12_checksum_153 : decode cX12_checksum 153 = .ok (.getfield 134, 3) := by decide +kernel
theorem dX12_checksum_156 : decode cX12_checksum 156 = .ok (.if_icmp .ge 53, 3) := by decide +kernel
theorem dX12_checksum_159 : decode cX12_checksum 159 = .ok (.iconst 0, 1) := by decide +kernel
theorem dX12_checksum_160 : decode cX12_checksum 160 = .ok (.istore 4, 2) := by decide +kernel
theorem dX12_checksum_162 : decode cX12_checksum 162 = .ok (.iload 4, 2) := by decide +kernel
theorem dX12_checksum_164 : decode cX12_checksum 164 = .ok (.bipush 28, 2) := by decide +kernel
theorem dX12_checksum_166 : decode cX12_checksum 166 = .ok (.if_icmp .ge 37, 3) := by decide +kernel
theorem dX12_checksum_169 : decode cX12_checksum 169 = .ok (.ldc2_w 331, 3) := by decide +kernel
theorem dX12_checksum_172 : decode cX12_checksum 172 = .ok (.lload_n 1, 1) := by decide +kernel
theorem dX12_checksum_173 : decode cX12_checksum 173 = .ok (.lmul, 1) := by decide +kernel
theorem dX12_checksum_174 : decode cX12_checksum 174 = .ok (.aload_n 0, 1) := by decide +kernel
theorem dX12_checksum_175 : decode cX12_checksum 175 = .ok (.getfield 23, 3) := by decide +kernel
theorem dX12_checksum_178 : decode cX12_checksum 178 = .ok (.bipush 28, 2) := by decide +kernel
theorem dX12_checksum_180 : decode cX12_checksum 180 = .ok (.iload_n 3, 1) := by decide +kernel
theorem dX12_checksum_181 : decode cX12_checksum 181 = .ok (.imul, 1) := by decide +kernel
theorem dX12_checksum_182 : decode cX12_checksum 182 = .ok (.iload 4, 2) := by decide +kernel
theorem dX12_checksum_184 : decode cX12_checksum 184 = .ok (.iadd, 1) := by decide +kernel
theorem dX12_checksum_185 : decode cX12_checksum 185 = .ok (.baload, 1) := by decide +kernel
theorem dX12_checksum_186 : decode cX12_checksum 186 = .ok (.ifCond .eq 7, 3) := by decide +kernel
theorem dX12_checksum_189 : decode cX12_checksum 189 = .ok (.iconst 1, 1) := by decide +kernel
theorem dX12_checksum_190 : decode cX12_checksum 190 = .ok (.goto 4, 3) := by decide +kernel
theorem dX12_checksum_193 : decode cX12_checksum 193 = .ok (.iconst 0, 1) := by decide +kernel
theorem dX12_checksum_194 : decode cX12_checksum 194 = .ok (.i2l, 1) := by decide +kernel
theorem dX12_checksum_195 : decode cX12_checksum 195 = .ok (.ladd, 1) := by decide +kernel
theorem dX12_checksum_196 : decode cX12_checksum 196 = .ok (.lstore_n 1, 1) := by decide +kernel
theorem dX12_checksum_197 : decode cX12_checksum 197 = .ok (.iinc 4 1, 3) := by decide +kernel
theorem dX12_checksum_200 : decode cX12_checksum 200 = .ok (.goto (-38), 3) := by decide +kernel
theorem dX12_checksum_203 : decode cX12_checksum 203 = .ok (.iinc 3 1, 3) := by decide +kernel
theorem dX12_checksum_206 : decode cX12_checksum 206 = .ok (.goto (-55), 3) := by decide +kernel
theorem dX12_checksum_209 : decode cX12_checksum 209 = .ok (.ldc2_w 331, 3) := by decide +kernel
theorem dX12_checksum_212 : decode cX12_checksum 212 = .ok (.lload_n 1, 1) := by decide +kernel
theorem dX12_checksum_213 : decode cX12_checksum 213 = .ok (.lmul, 1) := by decide +kernel
theorem dX12_checksum_214 : decode cX12_checksum 214 = .ok (.aload_n 0, 1) := by decide +kernel
theorem dX12_checksum_215 : decode cX12_checksum 215 = .ok (.getfield 172, 3) := by decide +kernel
theorem dX12_checksum_218 : decode cX12_checksum 218 = .ok (.i2l, 1) := by decide +kernel
theorem dX12_checksum_219 : decode cX12_checksum 219 = .ok (.ladd, 1) := by decide +kernel
theorem dX12_checksum_220 : decode cX12_checksum 220 = .ok (.lreturn, 1) := by decide +kernel
theorem dX12_isSound_0 : decode cX12_isSound 0 = .ok (.aload_n 0, 1) := by decide +kernel
theorem dX12_isSound_1 : decode cX12_isSound 1 = .ok (.iload_n 1, 1) := by decide +kernel
theorem dX12_isSound_2 : decode cX12_isSound 2 = .ok (.iconst 1, 1) := by decide +kernel
theorem dX12_isSound_3 : decode cX12_isSound 3 = .ok (.invokevirtual 154, 3) := by decide +kernel
theorem dX12_isSound_6 : decode cX12_isSound 6 = .ok (.ifCond .ne 7, 3) := by decide +kernel
theorem dX12_isSound_9 : decode cX12_isSound 9 = .ok (.iconst 1, 1) := by decide +kernel
theorem dX12_isSound_10 : decode cX12_isSound 10 = .ok (.goto 4, 3) := by decide +kernel
theorem dX12_isSound_13 : decode cX12_isSound 13 = .ok (.iconst 0, 1) := by decide +kernel
theorem dX12_isSound_14 : decode cX12_isSound 14 = .ok (.ireturn, 1) := by decide +kernel
