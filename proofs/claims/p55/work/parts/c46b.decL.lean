theorem dL_along_5 : decode cL_along 5 = .ok (.istore 9, 2) := by decide +kernel
theorem dL_along_7 : decode cL_along 7 = .ok (.iconst 0, 1) := by decide +kernel
theorem dL_along_8 : decode cL_along 8 = .ok (.istore 10, 2) := by decide +kernel
theorem dL_along_10 : decode cL_along 10 = .ok (.iconst 0, 1) := by decide +kernel
theorem dL_along_11 : decode cL_along 11 = .ok (.istore 11, 2) := by decide +kernel
theorem dL_along_13 : decode cL_along 13 = .ok (.iload 11, 2) := by decide +kernel
theorem dL_along_15 : decode cL_along 15 = .ok (.iload_n 1, 1) := by decide +kernel
theorem dL_along_16 : decode cL_along 16 = .ok (.if_icmp .ge 199, 3) := by decide +kernel
theorem dL_along_19 : decode cL_along 19 = .ok (.aload_n 0, 1) := by decide +kernel
theorem dL_along_20 : decode cL_along 20 = .ok (.iload 11, 2) := by decide +kernel
theorem dL_along_22 : decode cL_along 22 = .ok (.bipush 116, 2) := by decide +kernel
theorem dL_along_24 : decode cL_along 24 = .ok (.invokestatic 124, 3) := by decide +kernel
theorem dL_along_27 : decode cL_along 27 = .ok (.istore 12, 2) := by decide +kernel
theorem dL_along_29 : decode cL_along 29 = .ok (.sipush 1440, 3) := by decide +kernel
theorem dL_along_32 : decode cL_along 32 = .ok (.aload_n 0, 1) := by decide +kernel
theorem dL_along_33 : decode cL_along 33 = .ok (.iload 11, 2) := by decide +kernel
theorem dL_along_35 : decode cL_along 35 = .ok (.bipush 100, 2) := by decide +kernel
theorem dL_along_37 : decode cL_along 37 = .ok (.invokestatic 124, 3) := by decide +kernel
theorem dL_along_40 : decode cL_along 40 = .ok (.imul, 1) := by decide +kernel
theorem dL_along_41 : decode cL_along 41 = .ok (.istore 13, 2) := by decide +kernel
theorem dL_along_43 : decode cL_along 43 = .ok (.aload_n 0, 1) := by decide +kernel
theorem dL_along_44 : decode cL_along 44 = .ok (.iload 11, 2) := by decide +kernel
theorem dL_along_46 : decode cL_along 46 = .ok (.bipush 111, 2) := by decide +kernel
theorem dL_along_48 : decode cL_along 48 = .ok (.invokestatic 124, 3) := by decide +kernel
theorem dL_along_51 : decode cL_along 51 = .ok (.istore 14, 2) := by decide +kernel
theorem dL_along_53 : decode cL_along 53 = .ok (.aload_n 0, 1) := by decide +kernel
theorem dL_along_54 : decode cL_along 54 = .ok (.iload 11, 2) := by decide +kernel
theorem dL_along_56 : decode cL_along 56 = .ok (.bipush 102, 2) := by decide +kernel
theorem dL_along_58 : decode cL_along 58 = .ok (.invokestatic 124, 3) := by decide +kernel
theorem dL_along_61 : decode cL_along 61 = .ok (.istore 15, 2) := by decide +kernel
theorem dL_along_63 : decode cL_along 63 = .ok (.iconst 1, 1) := by decide +kernel
theorem dL_along_64 : decode cL_along 64 = .ok (.bipush 14, 2) := by decide +kernel
theorem dL_along_66 : decode cL_along 66 = .ok (.iload 12, 2) := by decide +kernel
theorem dL_along_68 : decode cL_along 68 = .ok (.imul, 1) := by decide +kernel
theorem dL_along_69 : decode cL_along 69 = .ok (.iadd, 1) := by decide +kernel
theorem dL_along_70 : decode cL_along 70 = .ok (.istore 16, 2) := by decide +kernel
theorem dL_along_72 : decode cL_along 72 = .ok (.iload 15, 2) := by decide +kernel
theorem dL_along_74 : decode cL_along 74 = .ok (.iload 14, 2) := by decide +kernel
theorem dL_along_76 : decode cL_along 76 = .ok (.if_icmp .le 17, 3) := by decide +kernel
theorem dL_along_79 : decode cL_along 79 = .ok (.aload 7, 2) := by decide +kernel
theorem dL_along_81 : decode cL_along 81 = .ok (.iload 16, 2) := by decide +kernel
theorem dL_along_83 : decode cL_along 83 = .ok (.iaload, 1) := by decide +kernel
theorem dL_along_84 : decode cL_along 84 = .ok (.iconst 1, 1) := by decide +kernel
theorem dL_along_85 : decode cL_along 85 = .ok (.if_icmp .ne 10, 3) := by decide +kernel
theorem dL_along_88 : decode cL_along 88 = .ok (.iload 13, 2) := by decide +kernel
theorem dL_along_90 : decode cL_along 90 = .ok (.ifCond .eq 5, 3) := by decide +kernel
theorem dL_along_93 : decode cL_along 93 = .ok (.iconst (-1), 1) := by decide +kernel
theorem dL_along_94 : decode cL_along 94 = .ok (.ireturn, 1) := by decide +kernel
theorem dL_along_95 : decode cL_along 95 = .ok (.aload 7, 2) := by decide +kernel
theorem dL_along_97 : decode cL_along 97 = .ok (.iload 16, 2) := by decide +kernel
theorem dL_along_99 : decode cL_along 99 = .ok (.iconst 2, 1) := by decide +kernel
theorem dL_along_100 : decode cL_along 100 = .ok (.iadd, 1) := by decide +kernel
theorem dL_along_101 : decode cL_along 101 = .ok (.iconst 3, 1) := by decide +kernel
theorem dL_along_102 : decode cL_along 102 = .ok (.iload 14, 2) := by decide +kernel
theorem dL_along_104 : decode cL_along 104 = .ok (.imul, 1) := by decide +kernel
theorem dL_along_105 : decode cL_along 105 = .ok (.iadd, 1) := by decide +kernel
theorem dL_along_106 : decode cL_along 106 = .ok (.iaload, 1) := by decide +kernel
theorem dL_along_107 : decode cL_along 107 = .ok (.istore 17, 2) := by decide +kernel
theorem dL_along_109 : decode cL_along 109 = .ok (.iload 17, 2) := by decide +kernel
theorem dL_along_111 : decode cL_along 111 = .ok (.iload 8, 2) := by decide +kernel
theorem dL_along_113 : decode cL_along 113 = .ok (.if_icmp .eq 20, 3) := by decide +kernel
theorem dL_along_116 : decode cL_along 116 = .ok (.iload 9, 2) := by decide +kernel
theorem dL_along_118 : decode cL_along 118 = .ok (.aload 6, 2) := by decide +kernel
theorem dL_along_120 : decode cL_along 120 = .ok (.bipush 6, 2) := by decide +kernel
theorem dL_along_122 : decode cL_along 122 = .ok (.iload 8, 2) := by decide +kernel
theorem dL_along_124 : decode cL_along 124 = .ok (.imul, 1) := by decide +kernel
theorem dL_along_125 : decode cL_along 125 = .ok (.iload 17, 2) := by decide +kernel
theorem dL_along_127 : decode cL_along 127 = .ok (.iadd, 1) := by decide +kernel
theorem dL_along_128 : decode cL_along 128 = .ok (.iaload, 1) := by decide +kernel
theorem dL_along_129 : decode cL_along 129 = .ok (.iadd, 1) := by decide +kernel
theorem dL_along_130 : decode cL_along 130 = .ok (.goto 21, 3) := by decide +kernel
theorem dL_along_133 : decode cL_along 133 = .ok (.iload 10, 2) := by decide +kernel
theorem dL_along_135 : decode cL_along 135 = .ok (.ifCond .eq 14, 3) := by decide +kernel
theorem dL_along_138 : decode cL_along 138 = .ok (.iload 9, 2) := by decide +kernel
theorem dL_along_140 : decode cL_along 140 = .ok (.aload 5, 2) := by decide +kernel
theorem dL_along_142 : decode cL_along 142 = .ok (.iload 17, 2) := by decide +kernel
theorem dL_along_144 : decode cL_along 144 = .ok (.iaload, 1) := by decide +kernel
theorem dL_along_145 : decode cL_along 145 = .ok (.iadd, 1) := by decide +kernel
theorem dL_along_146 : decode cL_along 146 = .ok (.goto 5, 3) := by decide +kernel
theorem dL_along_149 : decode cL_along 149 = .ok (.iload 9, 2) := by decide +kernel
theorem dL_along_151 : decode cL_along 151 = .ok (.istore 18, 2) := by decide +kernel
theorem dL_along_153 : decode cL_along 153 = .ok (.iload 18, 2) := by decide +kernel
theorem dL_along_155 : decode cL_along 155 = .ok (.aload 7, 2) := by decide +kernel
theorem dL_along_157 : decode cL_along 157 = .ok (.iload 16, 2) := by decide +kernel
theorem dL_along_159 : decode cL_along 159 = .ok (.iconst 4, 1) := by decide +kernel
theorem dL_along_160 : decode cL_along 160 = .ok (.iadd, 1) := by decide +kernel
theorem dL_along_161 : decode cL_along 161 = .ok (.iconst 3, 1) := by decide +kernel
theorem dL_along_162 : decode cL_along 162 = .ok (.iload 14, 2) := by decide +kernel
theorem dL_along_164 : decode cL_along 164 = .ok (.imul, 1) := by decide +kernel
theorem dL_along_165 : decode cL_along 165 = .ok (.iadd, 1) := by decide +kernel
theorem dL_along_166 : decode cL_along 166 = .ok (.iaload, 1) := by decide +kernel
theorem dL_along_167 : decode cL_along 167 = .ok (.iload 13, 2) := by decide +kernel
theorem dL_along_169 : decode cL_along 169 = .ok (.iadd, 1) := by decide +kernel
theorem dL_along_170 : decode cL_along 170 = .ok (.if_icmp .le 5, 3) := by decide +kernel
theorem dL_along_173 : decode cL_along 173 = .ok (.iconst (-1), 1) := by decide +kernel
theorem dL_along_174 : decode cL_along 174 = .ok (.ireturn, 1) := by decide +kernel
theorem dL_along_175 : decode cL_along 175 = .ok (.aload 7, 2) := by decide +kernel
theorem dL_along_177 : decode cL_along 177 = .ok (.iload 16, 2) := by decide +kernel
theorem dL_along_179 : decode cL_along 179 = .ok (.iconst 2, 1) := by decide +kernel
theorem dL_along_180 : decode cL_along 180 = .ok (.iadd, 1) := by decide +kernel
theorem dL_along_181 : decode cL_along 181 = .ok (.iconst 3, 1) := by decide +kernel
theorem dL_along_182 : decode cL_along 182 = .ok (.iload 15, 2) := by decide +kernel
theorem dL_along_184 : decode cL_along 184 = .ok (.imul, 1) := by decide +kernel
theorem dL_along_185 : decode cL_along 185 = .ok (.iadd, 1) := by decide +kernel
theorem dL_along_186 : decode cL_along 186 = .ok (.iaload, 1) := by decide +kernel
theorem dL_along_187 : decode cL_along 187 = .ok (.istore 8, 2) := by decide +kernel
theorem dL_along_189 : decode cL_along 189 = .ok (.aload 7, 2) := by decide +kernel
theorem dL_along_191 : decode cL_along 191 = .ok (.iload 16, 2) := by decide +kernel
theorem dL_along_193 : decode cL_along 193 = .ok (.iconst 3, 1) := by decide +kernel
theorem dL_along_194 : decode cL_along 194 = .ok (.iadd, 1) := by decide +kernel
theorem dL_along_195 : decode cL_along 195 = .ok (.iconst 3, 1) := by decide +kernel
theorem dL_along_196 : decode cL_along 196 = .ok (.iload 15, 2) := by decide +kernel
theorem dL_along_198 : decode cL_along 198 = .ok (.imul, 1) := by decide +kernel
theorem dL_along_199 : decode cL_along 199 = .ok (.iadd, 1) := by decide +kernel
theorem dL_along_200 : decode cL_along 200 = .ok (.iaload, 1) := by decide +kernel
theorem dL_along_201 : decode cL_along 201 = .ok (.iload 13, 2) := by decide +kernel
theorem dL_along_203 : decode cL_along 203 = .ok (.iadd, 1) := by decide +kernel
theorem dL_along_204 : decode cL_along 204 = .ok (.istore 9, 2) := by decide +kernel
theorem dL_along_206 : decode cL_along 206 = .ok (.iconst 1, 1) := by decide +kernel
theorem dL_along_207 : decode cL_along 207 = .ok (.istore 10, 2) := by decide +kernel
theorem dL_along_209 : decode cL_along 209 = .ok (.iinc 11 1, 3) := by decide +kernel
theorem dL_along_212 : decode cL_along 212 = .ok (.goto (-199), 3) := by decide +kernel
theorem dL_along_215 : decode cL_along 215 = .ok (.iload 9, 2) := by decide +kernel
theorem dL_along_217 : decode cL_along 217 = .ok (.aload 6, 2) := by decide +kernel
theorem dL_along_219 : decode cL_along 219 = .ok (.bipush 6, 2) := by decide +kernel
theorem dL_along_221 : decode cL_along 221 = .ok (.iload 8, 2) := by decide +kernel
theorem dL_along_223 : decode cL_along 223 = .ok (.imul, 1) := by decide +kernel
theorem dL_along_224 : decode cL_along 224 = .ok (.iload_n 3, 1) := by decide +kernel
theorem dL_along_225 : decode cL_along 225 = .ok (.iadd, 1) := by decide +kernel
theorem dL_along_226 : decode cL_along 226 = .ok (.iaload, 1) := by decide +kernel
theorem dL_along_227 : decode cL_along 227 = .ok (.iadd, 1) := by decide +kernel
theorem dL_along_228 : decode cL_along 228 = .ok (.ireturn, 1) := by decide +kernel
theorem dL_asked_0 : decode cL_asked 0 = .ok (.aload 7, 2) := by decide +kernel
theorem dL_asked_2 : decode cL_asked 2 = .ok (.iload_n 2, 1) := by decide +kernel
theorem dL_asked_3 : decode cL_asked 3 = .ok (.iaload, 1) := by decide +kernel
theorem dL_asked_4 : decode cL_asked 4 = .ok (.aload 8, 2) := by decide +kernel
theorem dL_asked_6 : decode cL_asked 6 = .ok (.iload_n 2, 1) := by decide +kernel
theorem dL_asked_7 : decode cL_asked 7 = .ok (.iaload, 1) := by decide +kernel
theorem dL_asked_8 : decode cL_asked 8 = .ok (.invokestatic 127, 3) := by decide +kernel
theorem dL_asked_11 : decode cL_asked 11 = .ok (.istore 9, 2) := by decide +kernel
theorem dL_asked_13 : decode cL_asked 13 = .ok (.aload_n 0, 1) := by decide +kernel
theorem dL_asked_14 : decode cL_asked 14 = .ok (.iload_n 1, 1) := by decide +kernel
theorem dL_asked_15 : decode cL_asked 15 = .ok (.iload_n 2, 1) := by decide +kernel
theorem dL_asked_16 : decode cL_asked 16 = .ok (.bipush 10, 2) := by decide +kernel
theorem dL_asked_18 : decode cL_asked 18 = .ok (.iload_n 3, 1) := by decide +kernel
theorem dL_asked_19 : decode cL_asked 19 = .ok (.invokestatic 131, 3) := by decide +kernel
theorem dL_asked_22 : decode cL_asked 22 = .ok (.istore 10, 2) := by decide +kernel
theorem dL_asked_24 : decode cL_asked 24 = .ok (.iload 10, 2) := by decide +kernel
theorem dL_asked_26 : decode cL_asked 26 = .ok (.iload 9, 2) := by decide +kernel
theorem dL_asked_28 : decode cL_asked 28 = .ok (.ldc 116, 2) := by decide +kernel
theorem dL_asked_30 : decode cL_asked 30 = .ok (.if_icmp .lt 8, 3) := by decide +kernel
theorem dL_asked_33 : decode cL_asked 33 = .ok (.ldc 40, 2) := by decide +kernel
theorem dL_asked_35 : decode cL_asked 35 = .ok (.goto 5, 3) := by decide +kernel
theorem dL_asked_38 : decode cL_asked 38 = .ok (.iload 9, 2) := by decide +kernel
theorem dL_asked_40 : decode cL_asked 40 = .ok (.if_icmp .ne 49, 3) := by decide +kernel
theorem dL_asked_43 : decode cL_asked 43 = .ok (.aload_n 0, 1) := by decide +kernel
theorem dL_asked_44 : decode cL_asked 44 = .ok (.iload_n 1, 1) := by decide +kernel
theorem dL_asked_45 : decode cL_asked 45 = .ok (.iload_n 2, 1) := by decide +kernel
theorem dL_asked_46 : decode cL_asked 46 = .ok (.bipush 10, 2) := by decide +kernel
theorem dL_asked_48 : decode cL_asked 48 = .ok (.iload_n 3, 1) := by decide +kernel
theorem dL_asked_49 : decode cL_asked 49 = .ok (.invokestatic 133, 3) := by decide +kernel
theorem dL_asked_52 : decode cL_asked 52 = .ok (.iload 10, 2) := by decide +kernel
theorem dL_asked_54 : decode cL_asked 54 = .ok (.if_icmp .ne 35, 3) := by decide +kernel
theorem dL_asked_57 : decode cL_asked 57 = .ok (.aload_n 0, 1) := by decide +kernel
theorem dL_asked_58 : decode cL_asked 58 = .ok (.iload_n 1, 1) := by decide +kernel
theorem dL_asked_59 : decode cL_asked 59 = .ok (.iload_n 2, 1) := by decide +kernel
theorem dL_asked_60 : decode cL_asked 60 = .ok (.bipush 10, 2) := by decide +kernel
theorem dL_asked_62 : decode cL_asked 62 = .ok (.iload_n 3, 1) := by decide +kernel
theorem dL_asked_63 : decode cL_asked 63 = .ok (.invokestatic 135, 3) := by decide +kernel
theorem dL_asked_66 : decode cL_asked 66 = .ok (.iload 10, 2) := by decide +kernel
theorem dL_asked_68 : decode cL_asked 68 = .ok (.if_icmp .ne 21, 3) := by decide +kernel
theorem dL_asked_71 : decode cL_asked 71 = .ok (.aload_n 0, 1) := by decide +kernel
theorem dL_asked_72 : decode cL_asked 72 = .ok (.iload_n 1, 1) := by decide +kernel
theorem dL_asked_73 : decode cL_asked 73 = .ok (.iload_n 2, 1) := by decide +kernel
theorem dL_asked_74 : decode cL_asked 74 = .ok (.bipush 10, 2) := by decide +kernel
theorem dL_asked_76 : decode cL_asked 76 = .ok (.iload_n 3, 1) := by decide +kernel
theorem dL_asked_77 : decode cL_asked 77 = .ok (.invokestatic 137, 3) := by decide +kernel
theorem dL_asked_80 : decode cL_asked 80 = .ok (.iload 10, 2) := by decide +kernel
theorem dL_asked_82 : decode cL_asked 82 = .ok (.if_icmp .ne 7, 3) := by decide +kernel
theorem dL_asked_85 : decode cL_asked 85 = .ok (.iconst 1, 1) := by decide +kernel
theorem dL_asked_86 : decode cL_asked 86 = .ok (.goto 4, 3) := by decide +kernel
theorem dL_asked_89 : decode cL_asked 89 = .ok (.iconst 0, 1) := by decide +kernel
theorem dL_asked_90 : decode cL_asked 90 = .ok (.istore 11, 2) := by decide +kernel
theorem dL_asked_92 : decode cL_asked 92 = .ok (.aload_n 0, 1) := by decide +kernel
theorem dL_asked_93 : decode cL_asked 93 = .ok (.iload_n 1, 1) := by decide +kernel
theorem dL_asked_94 : decode cL_asked 94 = .ok (.iload_n 2, 1) := by decide +kernel
theorem dL_asked_95 : decode cL_asked 95 = .ok (.bipush 10, 2) := by decide +kernel
theorem dL_asked_97 : decode cL_asked 97 = .ok (.iload_n 3, 1) := by decide +kernel
theorem dL_asked_98 : decode cL_asked 98 = .ok (.invokestatic 139, 3) := by decide +kernel
theorem dL_asked_101 : decode cL_asked 101 = .ok (.istore 12, 2) := by decide +kernel
theorem dL_asked_103 : decode cL_asked 103 = .ok (.iload 9, 2) := by decide +kernel
theorem dL_asked_105 : decode cL_asked 105 = .ok (.ldc 116, 2) := by decide +kernel
theorem dL_asked_107 : decode cL_asked 107 = .ok (.if_icmp .lt 33, 3) := by decide +kernel
theorem dL_asked_110 : decode cL_asked 110 = .ok (.iload 11, 2) := by decide +kernel
theorem dL_asked_112 : decode cL_asked 112 = .ok (.ifCond .eq 26, 3) := by decide +kernel
theorem dL_asked_115 : decode cL_asked 115 = .ok (.iload 12, 2) := by decide +kernel
theorem dL_asked_117 : decode cL_asked 117 = .ok (.ifCond .ne 21, 3) := by decide +kernel
theorem dL_asked_120 : decode cL_asked 120 = .ok (.aload_n 0, 1) := by decide +kernel
theorem dL_asked_121 : decode cL_asked 121 = .ok (.iload_n 1, 1) := by decide +kernel
theorem dL_asked_122 : decode cL_asked 122 = .ok (.iload_n 2, 1) := by decide +kernel
theorem dL_asked_123 : decode cL_asked 123 = .ok (.bipush 10, 2) := by decide +kernel
theorem dL_asked_125 : decode cL_asked 125 = .ok (.iload_n 3, 1) := by decide +kernel
theorem dL_asked_126 : decode cL_asked 126 = .ok (.invokestatic 141, 3) := by decide +kernel
theorem dL_asked_129 : decode cL_asked 129 = .ok (.ldc 40, 2) := by decide +kernel
theorem dL_asked_131 : decode cL_asked 131 = .ok (.if_icmp .ne 7, 3) := by decide +kernel
theorem dL_asked_134 : decode cL_asked 134 = .ok (.iconst 1, 1) := by decide +kernel
theorem dL_asked_135 : decode cL_asked 135 = .ok (.goto 4, 3) := by decide +kernel
theorem dL_asked_138 : decode cL_asked 138 = .ok (.iconst 0, 1) := by decide +kernel
theorem dL_asked_139 : decode cL_asked 139 = .ok (.ireturn, 1) := by decide +kernel
theorem dL_asked_140 : decode cL_asked 140 = .ok (.aload_n 0, 1) := by decide +kernel
theorem dL_asked_141 : decode cL_asked 141 = .ok (.iload_n 1, 1) := by decide +kernel
theorem dL_asked_142 : decode cL_asked 142 = .ok (.iload_n 2, 1) := by decide +kernel
theorem dL_asked_143 : decode cL_asked 143 = .ok (.bipush 10, 2) := by decide +kernel
theorem dL_asked_145 : decode cL_asked 145 = .ok (.iload_n 3, 1) := by decide +kernel
theorem dL_asked_146 : decode cL_asked 146 = .ok (.invokestatic 141, 3) := by decide +kernel
theorem dL_asked_149 : decode cL_asked 149 = .ok (.istore 13, 2) := by decide +kernel
theorem dL_asked_151 : decode cL_asked 151 = .ok (.iload 11, 2) := by decide +kernel
theorem dL_asked_153 : decode cL_asked 153 = .ok (.iload 13, 2) := by decide +kernel
theorem dL_asked_155 : decode cL_asked 155 = .ok (.ifCond .lt 52, 3) := by decide +kernel
theorem dL_asked_158 : decode cL_asked 158 = .ok (.aload_n 0, 1) := by decide +kernel
theorem dL_asked_159 : decode cL_asked 159 = .ok (.iload 13, 2) := by decide +kernel
theorem dL_asked_161 : decode cL_asked 161 = .ok (.iload_n 1, 1) := by decide +kernel
theorem dL_asked_162 : decode cL_asked 162 = .ok (.iload_n 2, 1) := by decide +kernel
theorem dL_asked_163 : decode cL_asked 163 = .ok (.iload_n 3, 1) := by decide +kernel
theorem dL_asked_164 : decode cL_asked 164 = .ok (.aload 4, 2) := by decide +kernel
theorem dL_asked_166 : decode cL_asked 166 = .ok (.aload 5, 2) := by decide +kernel
theorem dL_asked_168 : decode cL_asked 168 = .ok (.aload 6, 2) := by decide +kernel
theorem dL_asked_170 : decode cL_asked 170 = .ok (.invokestatic 143, 3) := by decide +kernel
theorem dL_asked_173 : decode cL_asked 173 = .ok (.iload 9, 2) := by decide +kernel
theorem dL_asked_175 : decode cL_asked 175 = .ok (.if_icmp .ne 32, 3) := by decide +kernel
theorem dL_asked_178 : decode cL_asked 178 = .ok (.aload_n 0, 1) := by decide +kernel
theorem dL_asked_179 : decode cL_asked 179 = .ok (.iload_n 1, 1) := by decide +kernel
theorem dL_asked_180 : decode cL_asked 180 = .ok (.iload_n 2, 1) := by decide +kernel
theorem dL_asked_181 : decode cL_asked 181 = .ok (.bipush 10, 2) := by decide +kernel
theorem dL_asked_183 : decode cL_asked 183 = .ok (.iload_n 3, 1) := by decide +kernel
theorem dL_asked_184 : decode cL_asked 184 = .ok (.iload 12, 2) := by decide +kernel
theorem dL_asked_186 : decode cL_asked 186 = .ok (.iconst 1, 1) := by decide +kernel
theorem dL_asked_187 : decode cL_asked 187 = .ok (.isub, 1) := by decide +kernel
theorem dL_asked_188 : decode cL_asked 188 = .ok (.invokestatic 147, 3) := by decide +kernel
theorem dL_asked_191 : decode cL_asked 191 = .ok (.sipush 5000, 3) := by decide +kernel
theorem dL_asked_194 : decode cL_asked 194 = .ok (.iload 13, 2) := by decide +kernel
theorem dL_asked_196 : decode cL_asked 196 = .ok (.imul, 1) := by decide +kernel
theorem dL_asked_197 : decode cL_asked 197 = .ok (.iload 9, 2) := by decide +kernel
theorem dL_asked_199 : decode cL_asked 199 = .ok (.iadd, 1) := by decide +kernel
theorem dL_asked_200 : decode cL_asked 200 = .ok (.if_icmp .ne 7, 3) := by decide +kernel
theorem dL_asked_203 : decode cL_asked 203 = .ok (.iconst 1, 1) := by decide +kernel
theorem dL_asked_204 : decode cL_asked 204 = .ok (.goto 4, 3) := by decide +kernel
theorem dL_asked_207 : decode cL_asked 207 = .ok (.iconst 0, 1) := by decide +kernel
theorem dL_asked_208 : decode cL_asked 208 = .ok (.iand, 1) := by decide +kernel
theorem dL_asked_209 : decode cL_asked 209 = .ok (.istore 11, 2) := by decide +kernel
theorem dL_asked_211 : decode cL_asked 211 = .ok (.iconst 0, 1) := by decide +kernel
theorem dL_asked_212 : decode cL_asked 212 = .ok (.istore 14, 2) := by decide +kernel
theorem dL_asked_214 : decode cL_asked 214 = .ok (.iconst 0, 1) := by decide +kernel
theorem dL_asked_215 : decode cL_asked 215 = .ok (.istore 15, 2) := by decide +kernel
theorem dL_asked_217 : decode cL_asked 217 = .ok (.iload 15, 2) := by decide +kernel
theorem dL_asked_219 : decode cL_asked 219 = .ok (.aload 4, 2) := by decide +kernel
theorem dL_asked_221 : decode cL_asked 221 = .ok (.bipush 6, 2) := by decide +kernel
theorem dL_asked_223 : decode cL_asked 223 = .ok (.iaload, 1) := by decide +kernel
theorem dL_asked_224 : decode cL_asked 224 = .ok (.if_icmp .ge 40, 3) := by decide +kernel
theorem dL_asked_227 : decode cL_asked 227 = .ok (.iload 14, 2) := by decide +kernel
theorem dL_asked_229 : decode cL_asked 229 = .ok (.aload 7, 2) := by decide +kernel
theorem dL_asked_231 : decode cL_asked 231 = .ok (.iload 15, 2) := by decide +kernel
theorem dL_asked_233 : decode cL_asked 233 = .ok (.iaload, 1) := by decide +kernel
theorem dL_asked_234 : decode cL_asked 234 = .ok (.aload 8, 2) := by decide +kernel
theorem dL_asked_236 : decode cL_asked 236 = .ok (.iload 15, 2) := by decide +kernel
theorem dL_asked_238 : decode cL_asked 238 = .ok (.iaload, 1) := by decide +kernel
theorem dL_asked_239 : decode cL_asked 239 = .ok (.invokestatic 127, 3) := by decide +kernel
theorem dL_asked_242 : decode cL_asked 242 = .ok (.iload 9, 2) := by decide +kernel
theorem dL_asked_244 : decode cL_asked 244 = .ok (.if_icmp .ge 10, 3) := by decide +kernel
theorem dL_asked_247 : decode cL_asked 247 = .ok (.iconst 1, 1) := by decide +kernel
theorem dL_asked_248 : decode cL_asked 248 = .ok (.iload 15, 2) := by decide +kernel
theorem dL_asked_250 : decode cL_asked 250 = .ok (.ishl, 1) := by decide +kernel
theorem dL_asked_251 : decode cL_asked 251 = .ok (.goto 4, 3) := by decide +kernel
theorem dL_asked_254 : decode cL_asked 254 = .ok (.iconst 0, 1) := by decide +kernel
theorem dL_asked_255 : decode cL_asked 255 = .ok (.ior, 1) := by decide +kernel
theorem dL_asked_256 : decode cL_asked 256 = .ok (.istore 14, 2) := by decide +kernel
theorem dL_asked_258 : decode cL_asked 258 = .ok (.iinc 15 1, 3) := by decide +kernel
theorem dL_asked_261 : decode cL_asked 261 = .ok (.goto (-44), 3) := by decide +kernel
theorem dL_asked_264 : decode cL_asked 264 = .ok (.iload 11, 2) := by decide +kernel
theorem dL_asked_266 : decode cL_asked 266 = .ok (.aload_n 0, 1) := by decide +kernel
theorem dL_asked_267 : decode cL_asked 267 = .ok (.iload_n 1, 1) := by decide +kernel
theorem dL_asked_268 : decode cL_asked 268 = .ok (.bipush 10, 2) := by decide +kernel
theorem dL_asked_270 : decode cL_asked 270 = .ok (.iload_n 3, 1) := by decide +kernel
theorem dL_asked_271 : decode cL_asked 271 = .ok (.iload 9, 2) := by decide +kernel
theorem dL_asked_273 : decode cL_asked 273 = .ok (.invokestatic 150, 3) := by decide +kernel
theorem dL_asked_276 : decode cL_asked 276 = .ok (.iload 14, 2) := by decide +kernel
theorem dL_asked_278 : decode cL_asked 278 = .ok (.if_icmp .ne 7, 3) := by decide +kernel
theorem dL_asked_281 : decode cL_asked 281 = .ok (.iconst 1, 1) := by decide +kernel
theorem dL_asked_282 : decode cL_asked 282 = .ok (.goto 4, 3) := by decide +kernel
theorem dL_asked_285 : decode cL_asked 285 = .ok (.iconst 0, 1) := by decide +kernel
theorem dL_asked_286 : decode cL_asked 286 = .ok (.iand, 1) := by decide +kernel
theorem dL_asked_287 : decode cL_asked 287 = .ok (.istore 11, 2) := by decide +kernel
theorem dL_asked_289 : decode cL_asked 289 = .ok (.iload 9, 2) := by decide +kernel
theorem dL_asked_291 : decode cL_asked 291 = .ok (.sipush 2880, 3) := by decide +kernel
theorem dL_asked_294 : decode cL_asked 294 = .ok (.if_icmp .ge 116, 3) := by decide +kernel
theorem dL_asked_297 : decode cL_asked 297 = .ok (.aload_n 0, 1) := by decide +kernel
theorem dL_asked_298 : decode cL_asked 298 = .ok (.iload_n 1, 1) := by decide +kernel
theorem dL_asked_299 : decode cL_asked 299 = .ok (.iload_n 2, 1) := by decide +kernel
theorem dL_asked_300 : decode cL_asked 300 = .ok (.bipush 10, 2) := by decide +kernel
theorem dL_asked_302 : decode cL_asked 302 = .ok (.iload 9, 2) := by decide +kernel
theorem dL_asked_304 : decode cL_asked 304 = .ok (.invokestatic 152, 3) := by decide +kernel
theorem dL_asked_307 : decode cL_asked 307 = .ok (.istore 15, 2) := by decide +kernel
theorem dL_asked_309 : decode cL_asked 309 = .ok (.iload 15, 2) := by decide +kernel
theorem dL_asked_311 : decode cL_asked 311 = .ok (.sipush 1440, 3) := by decide +kernel
theorem dL_asked_314 : decode cL_asked 314 = .ok (.if_icmp .ge 16, 3) := by decide +kernel
theorem dL_asked_317 : decode cL_asked 317 = .ok (.aload_n 0, 1) := by decide +kernel
theorem dL_asked_318 : decode cL_asked 318 = .ok (.iload_n 1, 1) := by decide +kernel
theorem dL_asked_319 : decode cL_asked 319 = .ok (.iload_n 2, 1) := by decide +kernel
theorem dL_asked_320 : decode cL_asked 320 = .ok (.bipush 10, 2) := by decide +kernel
theorem dL_asked_322 : decode cL_asked 322 = .ok (.iload 15, 2) := by decide +kernel
theorem dL_asked_324 : decode cL_asked 324 = .ok (.invokestatic 131, 3) := by decide +kernel
theorem dL_asked_327 : decode cL_asked 327 = .ok (.goto 5, 3) := by decide +kernel
theorem dL_asked_330 : decode cL_asked 330 = .ok (.iload 9, 2) := by decide +kernel
theorem dL_asked_332 : decode cL_asked 332 = .ok (.istore 16, 2) := by decide +kernel
theorem dL_asked_334 : decode cL_asked 334 = .ok (.iload 11, 2) := by decide +kernel
theorem dL_asked_336 : decode cL_asked 336 = .ok (.iload 15, 2) := by decide +kernel
theorem dL_asked_338 : decode cL_asked 338 = .ok (.iload_n 3, 1) := by decide +kernel
theorem dL_asked_339 : decode cL_asked 339 = .ok (.if_icmp .lt 19, 3) := by decide +kernel
theorem dL_asked_342 : decode cL_asked 342 = .ok (.iload 16, 2) := by decide +kernel
theorem dL_asked_344 : decode cL_asked 344 = .ok (.ifCond .lt 14, 3) := by decide +kernel
theorem dL_asked_347 : decode cL_asked 347 = .ok (.iload 16, 2) := by decide +kernel
theorem dL_asked_349 : decode cL_asked 349 = .ok (.iload 9, 2) := by decide +kernel
theorem dL_asked_351 : decode cL_asked 351 = .ok (.if_icmp .gt 7, 3) := by decide +kernel
theorem dL_asked_354 : decode cL_asked 354 = .ok (.iconst 1, 1) := by decide +kernel
theorem dL_asked_355 : decode cL_asked 355 = .ok (.goto 4, 3) := by decide +kernel
theorem dL_asked_358 : decode cL_asked 358 = .ok (.iconst 0, 1) := by decide +kernel
theorem dL_asked_359 : decode cL_asked 359 = .ok (.iand, 1) := by decide +kernel
theorem dL_asked_360 : decode cL_asked 360 = .ok (.istore 11, 2) := by decide +kernel
theorem dL_asked_362 : decode cL_asked 362 = .ok (.iload 15, 2) := by decide +kernel
theorem dL_asked_364 : decode cL_asked 364 = .ok (.sipush 1439, 3) := by decide +kernel
theorem dL_asked_367 : decode cL_asked 367 = .ok (.if_icmp .ge 18, 3) := by decide +kernel
theorem dL_asked_370 : decode cL_asked 370 = .ok (.aload_n 0, 1) := by decide +kernel
theorem dL_asked_371 : decode cL_asked 371 = .ok (.iload_n 1, 1) := by decide +kernel
theorem dL_asked_372 : decode cL_asked 372 = .ok (.iload_n 2, 1) := by decide +kernel
theorem dL_asked_373 : decode cL_asked 373 = .ok (.bipush 10, 2) := by decide +kernel
theorem dL_asked_375 : decode cL_asked 375 = .ok (.iload 15, 2) := by decide +kernel
theorem dL_asked_377 : decode cL_asked 377 = .ok (.iconst 1, 1) := by decide +kernel
theorem dL_asked_378 : decode cL_asked 378 = .ok (.iadd, 1) := by decide +kernel
theorem dL_asked_379 : decode cL_asked 379 = .ok (.invokestatic 131, 3) := by decide +kernel
theorem dL_asked_382 : decode cL_asked 382 = .ok (.goto 4, 3) := by decide +kernel
theorem dL_asked_385 : decode cL_asked 385 = .ok (.iconst (-1), 1) := by decide +kernel
theorem dL_asked_386 : decode cL_asked 386 = .ok (.istore 17, 2) := by decide +kernel
theorem dL_asked_388 : decode cL_asked 388 = .ok (.iload 11, 2) := by decide +kernel
theorem dL_asked_390 : decode cL_asked 390 = .ok (.iload 17, 2) := by decide +kernel
theorem dL_asked_392 : decode cL_asked 392 = .ok (.ifCond .lt 10, 3) := by decide +kernel
theorem dL_asked_395 : decode cL_asked 395 = .ok (.iload 17, 2) := by decide +kernel
theorem dL_asked_397 : decode cL_asked 397 = .ok (.iload 9, 2) := by decide +kernel
theorem dL_asked_399 : decode cL_asked 399 = .ok (.if_icmp .le 7, 3) := by decide +kernel
theorem dL_asked_402 : decode cL_asked 402 = .ok (.iconst 1, 1) := by decide +kernel
theorem dL_asked_403 : decode cL_asked 403 = .ok (.goto 4, 3) := by decide +kernel
theorem dL_asked_406 : decode cL_asked 406 = .ok (.iconst 0, 1) := by decide +kernel
theorem dL_asked_407 : decode cL_asked 407 = .ok (.iand, 1) := by decide +kernel
theorem dL_asked_408 : decode cL_asked 408 = .ok (.istore 11, 2) := by decide +kernel
theorem dL_asked_410 : decode cL_asked 410 = .ok (.iload 11, 2) := by decide +kernel
theorem dL_asked_412 : decode cL_asked 412 = .ok (.ireturn, 1) := by decide +kernel
theorem dL_rise_0 : decode cL_rise 0 = .ok (.aload_n 0, 1) := by decide +kernel
theorem dL_rise_1 : decode cL_rise 1 = .ok (.iload_n 1, 1) := by decide +kernel
theorem dL_rise_2 : decode cL_rise 2 = .ok (.iload_n 2, 1) := by decide +kernel
theorem dL_rise_3 : decode cL_rise 3 = .ok (.bipush 10, 2) := by decide +kernel
theorem dL_rise_5 : decode cL_rise 5 = .ok (.invokestatic 154, 3) := by decide +kernel
theorem dL_rise_8 : decode cL_rise 8 = .ok (.istore 8, 2) := by decide +kernel
theorem dL_rise_10 : decode cL_rise 10 = .ok (.iload 8, 2) := by decide +kernel
theorem dL_rise_12 : decode cL_rise 12 = .ok (.ifCond .lt 23, 3) := by decide +kernel
theorem dL_rise_15 : decode cL_rise 15 = .ok (.aload_n 0, 1) := by decide +kernel
theorem dL_rise_16 : decode cL_rise 16 = .ok (.iload_n 1, 1) := by decide +kernel
theorem dL_rise_17 : decode cL_rise 17 = .ok (.iload_n 2, 1) := by decide +kernel
theorem dL_rise_18 : decode cL_rise 18 = .ok (.bipush 10, 2) := by decide +kernel
theorem dL_rise_20 : decode cL_rise 20 = .ok (.iload 8, 2) := by decide +kernel
theorem dL_rise_22 : decode cL_rise 22 = .ok (.iconst 1, 1) := by decide +kernel
theorem dL_rise_23 : decode cL_rise 23 = .ok (.invokestatic 156, 3) := by decide +kernel
theorem dL_rise_26 : decode cL_rise 26 = .ok (.ldc 40, 2) := by decide +kernel
theorem dL_rise_28 : decode cL_rise 28 = .ok (.if_icmp .ne 7, 3) := by decide +kernel
theorem dL_rise_31 : decode cL_rise 31 = .ok (.iconst 1, 1) := by decide +kernel
theorem dL_rise_32 : decode cL_rise 32 = .ok (.goto 4, 3) := by decide +kernel
theorem dL_rise_35 : decode cL_rise 35 = .ok (.iconst 0, 1) := by decide +kernel
theorem dL_rise_36 : decode cL_rise 36 = .ok (.istore 9, 2) := by decide +kernel
theorem dL_rise_38 : decode cL_rise 38 = .ok (.iconst 0, 1) := by decide +kernel
theorem dL_rise_39 : decode cL_rise 39 = .ok (.istore 10, 2) := by decide +kernel
theorem dL_rise_41 : decode cL_rise 41 = .ok (.iload 10, 2) := by decide +kernel
theorem dL_rise_43 : decode cL_rise 43 = .ok (.iload 8, 2) := by decide +kernel
theorem dL_rise_45 : decode cL_rise 45 = .ok (.if_icmp .ge 176, 3) := by decide +kernel
theorem dL_rise_48 : decode cL_rise 48 = .ok (.aload_n 0, 1) := by decide +kernel
theorem dL_rise_49 : decode cL_rise 49 = .ok (.iload_n 1, 1) := by decide +kernel
theorem dL_rise_50 : decode cL_rise 50 = .ok (.iload_n 2, 1) := by decide +kernel
theorem dL_rise_51 : decode cL_rise 51 = .ok (.bipush 10, 2) := by decide +kernel
theorem dL_rise_53 : decode cL_rise 53 = .ok (.iload 10, 2) := by decide +kernel
theorem dL_rise_55 : decode cL_rise 55 = .ok (.iconst 0, 1) := by decide +kernel
theorem dL_rise_56 : decode cL_rise 56 = .ok (.invokestatic 156, 3) := by decide +kernel
theorem dL_rise_59 : decode cL_rise 59 = .ok (.istore 11, 2) := by decide +kernel
theorem dL_rise_61 : decode cL_rise 61 = .ok (.aload_n 0, 1) := by decide +kernel
theorem dL_rise_62 : decode cL_rise 62 = .ok (.iload_n 1, 1) := by decide +kernel
theorem dL_rise_63 : decode cL_rise 63 = .ok (.iload_n 2, 1) := by decide +kernel
theorem dL_rise_64 : decode cL_rise 64 = .ok (.bipush 10, 2) := by decide +kernel
theorem dL_rise_66 : decode cL_rise 66 = .ok (.iload 10, 2) := by decide +kernel
theorem dL_rise_68 : decode cL_rise 68 = .ok (.iconst 1, 1) := by decide +kernel
theorem dL_rise_69 : decode cL_rise 69 = .ok (.invokestatic 156, 3) := by decide +kernel
theorem dL_rise_72 : decode cL_rise 72 = .ok (.istore 12, 2) := by decide +kernel
theorem dL_rise_74 : decode cL_rise 74 = .ok (.iload 9, 2) := by decide +kernel
theorem dL_rise_76 : decode cL_rise 76 = .ok (.iload 11, 2) := by decide +kernel
theorem dL_rise_78 : decode cL_rise 78 = .ok (.ifCond .lt 55, 3) := by decide +kernel
theorem dL_rise_81 : decode cL_rise 81 = .ok (.iload 12, 2) := by decide +kernel
theorem dL_rise_83 : decode cL_rise 83 = .ok (.iload 11, 2) := by decide +kernel
theorem dL_rise_85 : decode cL_rise 85 = .ok (.if_icmp .le 48, 3) := by decide +kernel
theorem dL_rise_88 : decode cL_rise 88 = .ok (.iload 10, 2) := by decide +kernel
theorem dL_rise_90 : decode cL_rise 90 = .ok (.ifCond .eq 39, 3) := by decide +kernel
theorem dL_rise_93 : decode cL_rise 93 = .ok (.iload 11, 2) := by decide +kernel
theorem dL_rise_95 : decode cL_rise 95 = .ok (.aload_n 0, 1) := by decide +kernel
theorem dL_rise_96 : decode cL_rise 96 = .ok (.iload_n 1, 1) := by decide +kernel
theorem dL_rise_97 : decode cL_rise 97 = .ok (.iload_n 2, 1) := by decide +kernel
theorem dL_rise_98 : decode cL_rise 98 = .ok (.bipush 10, 2) := by decide +kernel
theorem dL_rise_100 : decode cL_rise 100 = .ok (.iload 10, 2) := by decide +kernel
theorem dL_rise_102 : decode cL_rise 102 = .ok (.iconst 1, 1) := by decide +kernel
theorem dL_rise_103 : decode cL_rise 103 = .ok (.isub, 1) := by decide +kernel
theorem dL_rise_104 : decode cL_rise 104 = .ok (.iconst 0, 1) := by decide +kernel
theorem dL_rise_105 : decode cL_rise 105 = .ok (.invokestatic 156, 3) := by decide +kernel
theorem dL_rise_108 : decode cL_rise 108 = .ok (.if_icmp .le 25, 3) := by decide +kernel
theorem dL_rise_111 : decode cL_rise 111 = .ok (.iload 12, 2) := by decide +kernel
theorem dL_rise_113 : decode cL_rise 113 = .ok (.aload_n 0, 1) := by decide +kernel
theorem dL_rise_114 : decode cL_rise 114 = .ok (.iload_n 1, 1) := by decide +kernel
theorem dL_rise_115 : decode cL_rise 115 = .ok (.iload_n 2, 1) := by decide +kernel
theorem dL_rise_116 : decode cL_rise 116 = .ok (.bipush 10, 2) := by decide +kernel
theorem dL_rise_118 : decode cL_rise 118 = .ok (.iload 10, 2) := by decide +kernel
theorem dL_rise_120 : decode cL_rise 120 = .ok (.iconst 1, 1) := by decide +kernel
theorem dL_rise_121 : decode cL_rise 121 = .ok (.isub, 1) := by decide +kernel
theorem dL_rise_122 : decode cL_rise 122 = .ok (.iconst 1, 1) := by decide +kernel
theorem dL_rise_123 : decode cL_rise 123 = .ok (.invokestatic 156, 3) := by decide +kernel
theorem dL_rise_126 : decode cL_rise 126 = .ok (.if_icmp .le 7, 3) := by decide +kernel
theorem dL_rise_129 : decode cL_rise 129 = .ok (.iconst 1, 1) := by decide +kernel
theorem dL_rise_130 : decode cL_rise 130 = .ok (.goto 4, 3) := by decide +kernel
theorem dL_rise_133 : decode cL_rise 133 = .ok (.iconst 0, 1) := by decide +kernel
theorem dL_rise_134 : decode cL_rise 134 = .ok (.iand, 1) := by decide +kernel
theorem dL_rise_135 : decode cL_rise 135 = .ok (.istore 9, 2) := by decide +kernel
theorem dL_rise_137 : decode cL_rise 137 = .ok (.iload_n 1, 1) := by decide +kernel
theorem dL_rise_138 : decode cL_rise 138 = .ok (.iload 11, 2) := by decide +kernel
theorem dL_rise_140 : decode cL_rise 140 = .ok (.iconst (-1), 1) := by decide +kernel
theorem dL_rise_141 : decode cL_rise 141 = .ok (.aload_n 3, 1) := by decide +kernel
theorem dL_rise_142 : decode cL_rise 142 = .ok (.aload 4, 2) := by decide +kernel
theorem dL_rise_144 : decode cL_rise 144 = .ok (.aload 5, 2) := by decide +kernel
theorem dL_rise_146 : decode cL_rise 146 = .ok (.aload 6, 2) := by decide +kernel
theorem dL_rise_148 : decode cL_rise 148 = .ok (.aload 7, 2) := by decide +kernel
theorem dL_rise_150 : decode cL_rise 150 = .ok (.invokestatic 159, 3) := by decide +kernel
theorem dL_rise_153 : decode cL_rise 153 = .ok (.ldc 116, 2) := by decide +kernel
theorem dL_rise_155 : decode cL_rise 155 = .ok (.istore 13, 2) := by decide +kernel
theorem dL_rise_157 : decode cL_rise 157 = .ok (.iconst 0, 1) := by decide +kernel
theorem dL_rise_158 : decode cL_rise 158 = .ok (.istore 14, 2) := by decide +kernel
theorem dL_rise_160 : decode cL_rise 160 = .ok (.iload 14, 2) := by decide +kernel
theorem dL_rise_162 : decode cL_rise 162 = .ok (.aload_n 3, 1) := by decide +kernel
theorem dL_rise_163 : decode cL_rise 163 = .ok (.bipush 6, 2) := by decide +kernel
theorem dL_rise_165 : decode cL_rise 165 = .ok (.iaload, 1) := by decide +kernel
theorem dL_rise_166 : decode cL_rise 166 = .ok (.if_icmp .ge 32, 3) := by decide +kernel
theorem dL_rise_169 : decode cL_rise 169 = .ok (.iload 13, 2) := by decide +kernel
theorem dL_rise_171 : decode cL_rise 171 = .ok (.aload 7, 2) := by decide +kernel
theorem dL_rise_173 : decode cL_rise 173 = .ok (.iload 14, 2) := by decide +kernel
theorem dL_rise_175 : decode cL_rise 175 = .ok (.iaload, 1) := by decide +kernel
theorem dL_rise_176 : decode cL_rise 176 = .ok (.aload 4, 2) := by decide +kernel
theorem dL_rise_178 : decode cL_rise 178 = .ok (.bipush 6, 2) := by decide +kernel
theorem dL_rise_180 : decode cL_rise 180 = .ok (.iload 14, 2) := by decide +kernel
theorem dL_rise_182 : decode cL_rise 182 = .ok (.imul, 1) := by decide +kernel
theorem dL_rise_183 : decode cL_rise 183 = .ok (.iload_n 2, 1) := by decide +kernel
theorem dL_rise_184 : decode cL_rise 184 = .ok (.iadd, 1) := by decide +kernel
theorem dL_rise_185 : decode cL_rise 185 = .ok (.iaload, 1) := by decide +kernel
theorem dL_rise_186 : decode cL_rise 186 = .ok (.iadd, 1) := by decide +kernel
theorem dL_rise_187 : decode cL_rise 187 = .ok (.invokestatic 127, 3) := by decide +kernel
theorem dL_rise_190 : decode cL_rise 190 = .ok (.istore 13, 2) := by decide +kernel
theorem dL_rise_192 : decode cL_rise 192 = .ok (.iinc 14 1, 3) := by decide +kernel
theorem dL_rise_195 : decode cL_rise 195 = .ok (.goto (-35), 3) := by decide +kernel
theorem dL_rise_198 : decode cL_rise 198 = .ok (.iload 9, 2) := by decide +kernel
theorem dL_rise_200 : decode cL_rise 200 = .ok (.iload 13, 2) := by decide +kernel
theorem dL_rise_202 : decode cL_rise 202 = .ok (.iload 12, 2) := by decide +kernel
theorem dL_rise_204 : decode cL_rise 204 = .ok (.if_icmp .ne 7, 3) := by decide +kernel
theorem dL_rise_207 : decode cL_rise 207 = .ok (.iconst 1, 1) := by decide +kernel
theorem dL_rise_208 : decode cL_rise 208 = .ok (.goto 4, 3) := by decide +kernel
theorem dL_rise_211 : decode cL_rise 211 = .ok (.iconst 0, 1) := by decide +kernel
theorem dL_rise_212 : decode cL_rise 212 = .ok (.iand, 1) := by decide +kernel
theorem dL_rise_213 : decode cL_rise 213 = .ok (.istore 9, 2) := by decide +kernel
theorem dL_rise_215 : decode cL_rise 215 = .ok (.iinc 10 1, 3) := by decide +kernel
theorem dL_rise_218 : decode cL_rise 218 = .ok (.goto (-177), 3) := by decide +kernel
theorem dL_rise_221 : decode cL_rise 221 = .ok (.iload 9, 2) := by decide +kernel
theorem dL_rise_223 : decode cL_rise 223 = .ok (.ireturn, 1) := by decide +kernel
theorem dL_law_0 : decode cL_law 0 = .ok (.new 8, 3) := by decide +kernel
theorem dL_law_3 : decode cL_law 3 = .ok (.dup, 1) := by decide +kernel
theorem dL_law_4 : decode cL_law 4 = .ok (.invokespecial 163, 3) := by decide +kernel
theorem dL_law_7 : decode cL_law 7 = .ok (.astore_n 1, 1) := by decide +kernel
theorem dL_law_8 : decode cL_law 8 = .ok (.iconst 1, 1) := by decide +kernel
theorem dL_law_9 : decode cL_law 9 = .ok (.newarray .int, 2) := by decide +kernel
theorem dL_law_11 : decode cL_law 11 = .ok (.dup, 1) := by decide +kernel
theorem dL_law_12 : decode cL_law 12 = .ok (.iconst 0, 1) := by decide +kernel
theorem dL_law_13 : decode cL_law 13 = .ok (.aload_n 0, 1) := by decide +kernel
theorem dL_law_14 : decode cL_law 14 = .ok (.invokestatic 164, 3) := by decide +kernel
theorem dL_law_17 : decode cL_law 17 = .ok (.iastore, 1) := by decide +kernel
theorem dL_law_18 : decode cL_law 18 = .ok (.astore_n 2, 1) := by decide +kernel
theorem dL_law_19 : decode cL_law 19 = .ok (.bipush 7, 2) := by decide +kernel
theorem dL_law_21 : decode cL_law 21 = .ok (.newarray .int, 2) := by decide +kernel
theorem dL_law_23 : decode cL_law 23 = .ok (.astore_n 3, 1) := by decide +kernel
theorem dL_law_24 : decode cL_law 24 = .ok (.bipush 36, 2) := by decide +kernel
theorem dL_law_26 : decode cL_law 26 = .ok (.newarray .int, 2) := by decide +kernel
theorem dL_law_28 : decode cL_law 28 = .ok (.astore 4, 2) := by decide +kernel
theorem dL_law_30 : decode cL_law 30 = .ok (.bipush 127, 2) := by decide +kernel
theorem dL_law_32 : decode cL_law 32 = .ok (.newarray .int, 2) := by decide +kernel
theorem dL_law_34 : decode cL_law 34 = .ok (.astore 5, 2) := by decide +kernel
theorem dL_law_36 : decode cL_law 36 = .ok (.bipush 6, 2) := by decide +kernel
theorem dL_law_38 : decode cL_law 38 = .ok (.newarray .int, 2) := by decide +kernel
theorem dL_law_40 : decode cL_law 40 = .ok (.astore 6, 2) := by decide +kernel
theorem dL_law_42 : decode cL_law 42 = .ok (.bipush 6, 2) := by decide +kernel
theorem dL_law_44 : decode cL_law 44 = .ok (.newarray .int, 2) := by decide +kernel
theorem dL_law_46 : decode cL_law 46 = .ok (.astore 7, 2) := by decide +kernel
theorem dL_law_48 : decode cL_law 48 = .ok (.aload_n 1, 1) := by decide +kernel
theorem dL_law_49 : decode cL_law 49 = .ok (.aload_n 2, 1) := by decide +kernel
theorem dL_law_50 : decode cL_law 50 = .ok (.aload_n 3, 1) := by decide +kernel
theorem dL_law_51 : decode cL_law 51 = .ok (.aload 4, 2) := by decide +kernel
theorem dL_law_53 : decode cL_law 53 = .ok (.aload 5, 2) := by decide +kernel
theorem dL_law_55 : decode cL_law 55 = .ok (.invokestatic 168, 3) := by decide +kernel
theorem dL_law_58 : decode cL_law 58 = .ok (.istore 8, 2) := by decide +kernel
theorem dL_law_60 : decode cL_law 60 = .ok (.aload_n 3, 1) := by decide +kernel
theorem dL_law_61 : decode cL_law 61 = .ok (.bipush 6, 2) := by decide +kernel
theorem dL_law_63 : decode cL_law 63 = .ok (.iaload, 1) := by decide +kernel
theorem dL_law_64 : decode cL_law 64 = .ok (.istore 9, 2) := by decide +kernel
theorem dL_law_66 : decode cL_law 66 = .ok (.aload 4, 2) := by decide +kernel
theorem dL_law_68 : decode cL_law 68 = .ok (.iload 9, 2) := by decide +kernel
theorem dL_law_70 : decode cL_law 70 = .ok (.invokestatic 172, 3) := by decide +kernel
theorem dL_law_73 : decode cL_law 73 = .ok (.iconst 0, 1) := by decide +kernel
theorem dL_law_74 : decode cL_law 74 = .ok (.istore 10, 2) := by decide +kernel
theorem dL_law_76 : decode cL_law 76 = .ok (.iload 10, 2) := by decide +kernel
theorem dL_law_78 : decode cL_law 78 = .ok (.iconst 3, 1) := by decide +kernel
theorem dL_law_79 : decode cL_law 79 = .ok (.if_icmp .ge 142, 3) := by decide +kernel
theorem dL_law_82 : decode cL_law 82 = .ok (.aload_n 2, 1) := by decide +kernel
theorem dL_law_83 : decode cL_law 83 = .ok (.iload 9, 2) := by decide +kernel
theorem dL_law_85 : decode cL_law 85 = .ok (.invokestatic 98, 3) := by decide +kernel
theorem dL_law_88 : decode cL_law 88 = .ok (.istore 11, 2) := by decide +kernel
theorem dL_law_90 : decode cL_law 90 = .ok (.iload 10, 2) := by decide +kernel
theorem dL_law_92 : decode cL_law 92 = .ok (.ifCond .ne 13, 3) := by decide +kernel
theorem dL_law_95 : decode cL_law 95 = .ok (.aload_n 2, 1) := by decide +kernel
theorem dL_law_96 : decode cL_law 96 = .ok (.sipush 1440, 3) := by decide +kernel
theorem dL_law_99 : decode cL_law 99 = .ok (.invokestatic 98, 3) := by decide +kernel
theorem dL_law_102 : decode cL_law 102 = .ok (.goto 14, 3) := by decide +kernel
theorem dL_law_105 : decode cL_law 105 = .ok (.sipush 400, 3) := by decide +kernel
theorem dL_law_108 : decode cL_law 108 = .ok (.aload_n 2, 1) := by decide +kernel
theorem dL_law_109 : decode cL_law 109 = .ok (.sipush 200, 3) := by decide +kernel
theorem dL_law_112 : decode cL_law 112 = .ok (.invokestatic 98, 3) := by decide +kernel
theorem dL_law_115 : decode cL_law 115 = .ok (.iadd, 1) := by decide +kernel
theorem dL_law_116 : decode cL_law 116 = .ok (.istore 12, 2) := by decide +kernel
theorem dL_law_118 : decode cL_law 118 = .ok (.iload 11, 2) := by decide +kernel
theorem dL_law_120 : decode cL_law 120 = .ok (.iload 12, 2) := by decide +kernel
theorem dL_law_122 : decode cL_law 122 = .ok (.iconst (-1), 1) := by decide +kernel
theorem dL_law_123 : decode cL_law 123 = .ok (.aload_n 3, 1) := by decide +kernel
theorem dL_law_124 : decode cL_law 124 = .ok (.aload 4, 2) := by decide +kernel
theorem dL_law_126 : decode cL_law 126 = .ok (.aload 5, 2) := by decide +kernel
theorem dL_law_128 : decode cL_law 128 = .ok (.aload 6, 2) := by decide +kernel
theorem dL_law_130 : decode cL_law 130 = .ok (.aload 7, 2) := by decide +kernel
theorem dL_law_132 : decode cL_law 132 = .ok (.invokestatic 159, 3) := by decide +kernel
theorem dL_law_135 : decode cL_law 135 = .ok (.iconst 0, 1) := by decide +kernel
theorem dL_law_136 : decode cL_law 136 = .ok (.istore 13, 2) := by decide +kernel
theorem dL_law_138 : decode cL_law 138 = .ok (.iload 13, 2) := by decide +kernel
theorem dL_law_140 : decode cL_law 140 = .ok (.iload 9, 2) := by decide +kernel
theorem dL_law_142 : decode cL_law 142 = .ok (.if_icmp .ge 33, 3) := by decide +kernel
theorem dL_law_145 : decode cL_law 145 = .ok (.iload 8, 2) := by decide +kernel
theorem dL_law_147 : decode cL_law 147 = .ok (.aload_n 1, 1) := by decide +kernel
theorem dL_law_148 : decode cL_law 148 = .ok (.iload 11, 2) := by decide +kernel
theorem dL_law_150 : decode cL_law 150 = .ok (.iload 13, 2) := by decide +kernel
theorem dL_law_152 : decode cL_law 152 = .ok (.iload 12, 2) := by decide +kernel
theorem dL_law_154 : decode cL_law 154 = .ok (.aload_n 3, 1) := by decide +kernel
theorem dL_law_155 : decode cL_law 155 = .ok (.aload 4, 2) := by decide +kernel
theorem dL_law_157 : decode cL_law 157 = .ok (.aload 5, 2) := by decide +kernel
theorem dL_law_159 : decode cL_law 159 = .ok (.aload 6, 2) := by decide +kernel
theorem dL_law_161 : decode cL_law 161 = .ok (.aload 7, 2) := by decide +kernel
theorem dL_law_163 : decode cL_law 163 = .ok (.invokestatic 176, 3) := by decide +kernel
theorem dL_law_166 : decode cL_law 166 = .ok (.iand, 1) := by decide +kernel
theorem dL_law_167 : decode cL_law 167 = .ok (.istore 8, 2) := by decide +kernel
theorem dL_law_169 : decode cL_law 169 = .ok (.iinc 13 1, 3) := by decide +kernel
theorem dL_law_172 : decode cL_law 172 = .ok (.goto (-34), 3) := by decide +kernel
theorem dL_law_175 : decode cL_law 175 = .ok (.iload 11, 2) := by decide +kernel
theorem dL_law_177 : decode cL_law 177 = .ok (.iconst 1, 1) := by decide +kernel
theorem dL_law_178 : decode cL_law 178 = .ok (.iadd, 1) := by decide +kernel
theorem dL_law_179 : decode cL_law 179 = .ok (.aload_n 2, 1) := by decide +kernel
theorem dL_law_180 : decode cL_law 180 = .ok (.iload 9, 2) := by decide +kernel
theorem dL_law_182 : decode cL_law 182 = .ok (.iconst 1, 1) := by decide +kernel
theorem dL_law_183 : decode cL_law 183 = .ok (.isub, 1) := by decide +kernel
theorem dL_law_184 : decode cL_law 184 = .ok (.invokestatic 98, 3) := by decide +kernel
theorem dL_law_187 : decode cL_law 187 = .ok (.iadd, 1) := by decide +kernel
theorem dL_law_188 : decode cL_law 188 = .ok (.iload 9, 2) := by decide +kernel
theorem dL_law_190 : decode cL_law 190 = .ok (.irem, 1) := by decide +kernel
theorem dL_law_191 : decode cL_law 191 = .ok (.istore 13, 2) := by decide +kernel
theorem dL_law_193 : decode cL_law 193 = .ok (.iload 8, 2) := by decide +kernel
theorem dL_law_195 : decode cL_law 195 = .ok (.aload_n 1, 1) := by decide +kernel
theorem dL_law_196 : decode cL_law 196 = .ok (.iload 11, 2) := by decide +kernel
theorem dL_law_198 : decode cL_law 198 = .ok (.iload 13, 2) := by decide +kernel
theorem dL_law_200 : decode cL_law 200 = .ok (.aload_n 3, 1) := by decide +kernel
theorem dL_law_201 : decode cL_law 201 = .ok (.aload 4, 2) := by decide +kernel
theorem dL_law_203 : decode cL_law 203 = .ok (.aload 5, 2) := by decide +kernel
theorem dL_law_205 : decode cL_law 205 = .ok (.aload 6, 2) := by decide +kernel
theorem dL_law_207 : decode cL_law 207 = .ok (.aload 7, 2) := by decide +kernel
theorem dL_law_209 : decode cL_law 209 = .ok (.invokestatic 180, 3) := by decide +kernel
theorem dL_law_212 : decode cL_law 212 = .ok (.iand, 1) := by decide +kernel
theorem dL_law_213 : decode cL_law 213 = .ok (.istore 8, 2) := by decide +kernel
theorem dL_law_215 : decode cL_law 215 = .ok (.iinc 10 1, 3) := by decide +kernel
theorem dL_law_218 : decode cL_law 218 = .ok (.goto (-142), 3) := by decide +kernel
theorem dL_law_221 : decode cL_law 221 = .ok (.aload_n 1, 1) := by decide +kernel
theorem dL_law_222 : decode cL_law 222 = .ok (.bipush 10, 2) := by decide +kernel
theorem dL_law_224 : decode cL_law 224 = .ok (.invokestatic 184, 3) := by decide +kernel
theorem dL_law_227 : decode cL_law 227 = .ok (.istore 10, 2) := by decide +kernel
theorem dL_law_229 : decode cL_law 229 = .ok (.iload 8, 2) := by decide +kernel
theorem dL_law_231 : decode cL_law 231 = .ok (.ifCond .eq 37, 3) := by decide +kernel
theorem dL_law_234 : decode cL_law 234 = .ok (.iload 10, 2) := by decide +kernel
theorem dL_law_236 : decode cL_law 236 = .ok (.aload_n 1, 1) := by decide +kernel
theorem dL_law_237 : decode cL_law 237 = .ok (.bipush 10, 2) := by decide +kernel
theorem dL_law_239 : decode cL_law 239 = .ok (.invokestatic 186, 3) := by decide +kernel
theorem dL_law_242 : decode cL_law 242 = .ok (.if_icmp .ne 26, 3) := by decide +kernel
theorem dL_law_245 : decode cL_law 245 = .ok (.iload 10, 2) := by decide +kernel
theorem dL_law_247 : decode cL_law 247 = .ok (.aload 5, 2) := by decide +kernel
theorem dL_law_249 : decode cL_law 249 = .ok (.iconst 0, 1) := by decide +kernel
theorem dL_law_250 : decode cL_law 250 = .ok (.iaload, 1) := by decide +kernel
theorem dL_law_251 : decode cL_law 251 = .ok (.if_icmp .gt 17, 3) := by decide +kernel
theorem dL_law_254 : decode cL_law 254 = .ok (.aload_n 1, 1) := by decide +kernel
theorem dL_law_255 : decode cL_law 255 = .ok (.bipush 10, 2) := by decide +kernel
theorem dL_law_257 : decode cL_law 257 = .ok (.invokestatic 188, 3) := by decide +kernel
theorem dL_law_260 : decode cL_law 260 = .ok (.iconst 1, 1) := by decide +kernel
theorem dL_law_261 : decode cL_law 261 = .ok (.if_icmp .ne 7, 3) := by decide +kernel
theorem dL_law_264 : decode cL_law 264 = .ok (.iconst 1, 1) := by decide +kernel
theorem dL_law_265 : decode cL_law 265 = .ok (.goto 4, 3) := by decide +kernel
theorem dL_law_268 : decode cL_law 268 = .ok (.iconst 0, 1) := by decide +kernel
theorem dL_law_269 : decode cL_law 269 = .ok (.ireturn, 1) := by decide +kernel
