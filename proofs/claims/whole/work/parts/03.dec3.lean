theorem dX12_conflict_67 : decode cX12_conflict 67 = .ok (.iload_n 1, 1) := by decide +kernel
theorem dX12_conflict_68 : decode cX12_conflict 68 = .ok (.iload_n 3, 1) := by decide +kernel
theorem dX12_conflict_69 : decode cX12_conflict 69 = .ok (.invokestatic 141, 3) := by decide +kernel
theorem dX12_conflict_72 : decode cX12_conflict 72 = .ok (.istore 4, 2) := by decide +kernel
theorem dX12_conflict_74 : decode cX12_conflict 74 = .ok (.aload_n 0, 1) := by decide +kernel
theorem dX12_conflict_75 : decode cX12_conflict 75 = .ok (.getfield 185, 3) := by decide +kernel
theorem dX12_conflict_78 : decode cX12_conflict 78 = .ok (.iconst 1, 1) := by decide +kernel
theorem dX12_conflict_79 : decode cX12_conflict 79 = .ok (.if_icmp .ne 12, 3) := by decide +kernel
theorem dX12_conflict_82 : decode cX12_conflict 82 = .ok (.aload_n 0, 1) := by decide +kernel
theorem dX12_conflict_83 : decode cX12_conflict 83 = .ok (.iload 4, 2) := by decide +kernel
theorem dX12_conflict_85 : decode cX12_conflict 85 = .ok (.invokevirtual 191, 3) := by decide +kernel
theorem dX12_conflict_88 : decode cX12_conflict 88 = .ok (.goto 10, 3) := by decide +kernel
theorem dX12_conflict_91 : decode cX12_conflict 91 = .ok (.aload_n 0, 1) := by decide +kernel
theorem dX12_conflict_92 : decode cX12_conflict 92 = .ok (.iload 4, 2) := by decide +kernel
theorem dX12_conflict_94 : decode cX12_conflict 94 = .ok (.invokevirtual 191, 3) := by decide +kernel
theorem dX12_conflict_97 : decode cX12_conflict 97 = .ok (.ineg, 1) := by decide +kernel
theorem dX12_conflict_98 : decode cX12_conflict 98 = .ok (.istore 5, 2) := by decide +kernel
theorem dX12_conflict_100 : decode cX12_conflict 100 = .ok (.iload 5, 2) := by decide +kernel
theorem dX12_conflict_102 : decode cX12_conflict 102 = .ok (.ifCond .eq 47, 3) := by decide +kernel
theorem dX12_conflict_105 : decode cX12_conflict 105 = .ok (.aload_n 0, 1) := by decide +kernel
theorem dX12_conflict_106 : decode cX12_conflict 106 = .ok (.aload_n 0, 1) := by decide +kernel
theorem dX12_conflict_107 : decode cX12_conflict 107 = .ok (.aload_n 0, 1) := by decide +kernel
theorem dX12_conflict_108 : decode cX12_conflict 108 = .ok (.getfield 35, 3) := by decide +kernel
theorem dX12_conflict_111 : decode cX12_conflict 111 = .ok (.iload_n 3, 1) := by decide +kernel
theorem dX12_conflict_112 : decode cX12_conflict 112 = .ok (.iaload, 1) := by decide +kernel
theorem dX12_conflict_113 : decode cX12_conflict 113 = .ok (.iload 5, 2) := by decide +kernel
theorem dX12_conflict_115 : decode cX12_conflict 115 = .ok (.ifCond .le 7, 3) := by decide +kernel
theorem dX12_conflict_118 : decode cX12_conflict 118 = .ok (.iconst 0, 1) := by decide +kernel
theorem dX12_conflict_119 : decode cX12_conflict 119 = .ok (.goto 4, 3) := by decide +kernel
theorem dX12_conflict_122 : decode cX12_conflict 122 = .ok (.iconst 1, 1) := by decide +kernel
theorem dX12_conflict_123 : decode cX12_conflict 123 = .ok (.invokevirtual 209, 3) := by decide +kernel
theorem dX12_conflict_126 : decode cX12_conflict 126 = .ok (.aload_n 0, 1) := by decide +kernel
theorem dX12_conflict_127 : decode cX12_conflict 127 = .ok (.getfield 185, 3) := by decide +kernel
theorem dX12_conflict_130 : decode cX12_conflict 130 = .ok (.iconst 1, 1) := by decide +kernel
theorem dX12_conflict_131 : decode cX12_conflict 131 = .ok (.if_icmp .ne 8, 3) := by decide +kernel
theorem dX12_conflict_134 : decode cX12_conflict 134 = .ok (.iload 4, 2) := by decide +kernel
theorem dX12_conflict_136 : decode cX12_conflict 136 = .ok (.goto 9, 3) := by decide +kernel
theorem dX12_conflict_139 : decode cX12_conflict 139 = .ok (.aload_n 0, 1) := by decide +kernel
theorem dX12_conflict_140 : decode cX12_conflict 140 = .ok (.iload 4, 2) := by decide +kernel
theorem dX12_conflict_142 : decode cX12_conflict 142 = .ok (.invokevirtual 203, 3) := by decide +kernel
theorem dX12_conflict_145 : decode cX12_conflict 145 = .ok (.iconst 0, 1) := by decide +kernel
theorem dX12_conflict_146 : decode cX12_conflict 146 = .ok (.invokevirtual 214, 3) := by decide +kernel
theorem dX12_conflict_149 : decode cX12_conflict 149 = .ok (.iinc 3 1, 3) := by decide +kernel
theorem dX12_conflict_152 : decode cX12_conflict 152 = .ok (.goto (-93), 3) := by decide +kernel
theorem dX12_conflict_155 : decode cX12_conflict 155 = .ok (.aload_n 0, 1) := by decide +kernel
theorem dX12_conflict_156 : decode cX12_conflict 156 = .ok (.iload_n 2, 1) := by decide +kernel
theorem dX12_conflict_157 : decode cX12_conflict 157 = .ok (.putfield 76, 3) := by decide +kernel
theorem dX12_conflict_160 : decode cX12_conflict 160 = .ok (.aload_n 0, 1) := by decide +kernel
theorem dX12_conflict_161 : decode cX12_conflict 161 = .ok (.getfield 41, 3) := by decide +kernel
theorem dX12_conflict_164 : decode cX12_conflict 164 = .ok (.aload_n 0, 1) := by decide +kernel
theorem dX12_conflict_165 : decode cX12_conflict 165 = .ok (.getfield 169, 3) := by decide +kernel
theorem dX12_conflict_168 : decode cX12_conflict 168 = .ok (.iconst 1, 1) := by decide +kernel
theorem dX12_conflict_169 : decode cX12_conflict 169 = .ok (.bastore, 1) := by decide +kernel
theorem dX12_conflict_170 : decode cX12_conflict 170 = .ok (.aload_n 0, 1) := by decide +kernel
theorem dX12_conflict_171 : decode cX12_conflict 171 = .ok (.getfield 117, 3) := by decide +kernel
theorem dX12_conflict_174 : decode cX12_conflict 174 = .ok (.iconst 1, 1) := by decide +kernel
theorem dX12_conflict_175 : decode cX12_conflict 175 = .ok (.isub, 1) := by decide +kernel
theorem dX12_conflict_176 : decode cX12_conflict 176 = .ok (.istore_n 3, 1) := by decide +kernel
theorem dX12_conflict_177 : decode cX12_conflict 177 = .ok (.iload_n 3, 1) := by decide +kernel
theorem dX12_conflict_178 : decode cX12_conflict 178 = .ok (.ifCond .lt 18, 3) := by decide +kernel
theorem dX12_conflict_181 : decode cX12_conflict 181 = .ok (.aload_n 0, 1) := by decide +kernel
theorem dX12_conflict_182 : decode cX12_conflict 182 = .ok (.getfield 62, 3) := by decide +kernel
theorem dX12_conflict_185 : decode cX12_conflict 185 = .ok (.iload_n 3, 1) := by decide +kernel
theorem dX12_conflict_186 : decode cX12_conflict 186 = .ok (.baload, 1) := by decide +kernel
theorem dX12_conflict_187 : decode cX12_conflict 187 = .ok (.ifCond .eq 9, 3) := by decide +kernel
theorem dX12_conflict_190 : decode cX12_conflict 190 = .ok (.iinc 3 (-1), 3) := by decide +kernel
theorem dX12_conflict_193 : decode cX12_conflict 193 = .ok (.goto (-16), 3) := by decide +kernel
theorem dX12_conflict_196 : decode cX12_conflict 196 = .ok (.iload_n 3, 1) := by decide +kernel
theorem dX12_conflict_197 : decode cX12_conflict 197 = .ok (.ifCond .ge 14, 3) := by decide +kernel
theorem dX12_conflict_200 : decode cX12_conflict 200 = .ok (.aload_n 0, 1) := by decide +kernel
theorem dX12_conflict_201 : decode cX12_conflict 201 = .ok (.iconst 0, 1) := by decide +kernel
theorem dX12_conflict_202 : decode cX12_conflict 202 = .ok (.putfield 117, 3) := by decide +kernel
theorem dX12_conflict_205 : decode cX12_conflict 205 = .ok (.aload_n 0, 1) := by decide +kernel
theorem dX12_conflict_206 : decode cX12_conflict 206 = .ok (.iconst 3, 1) := by decide +kernel
theorem dX12_conflict_207 : decode cX12_conflict 207 = .ok (.putfield 96, 3) := by decide +kernel
theorem dX12_conflict_210 : decode cX12_conflict 210 = .ok (.return_, 1) := by decide +kernel
theorem dX12_conflict_211 : decode cX12_conflict 211 = .ok (.aload_n 0, 1) := by decide +kernel
theorem dX12_conflict_212 : decode cX12_conflict 212 = .ok (.iload_n 3, 1) := by decide +kernel
theorem dX12_conflict_213 : decode cX12_conflict 213 = .ok (.iconst 1, 1) := by decide +kernel
theorem dX12_conflict_214 : decode cX12_conflict 214 = .ok (.iadd, 1) := by decide +kernel
theorem dX12_conflict_215 : decode cX12_conflict 215 = .ok (.putfield 117, 3) := by decide +kernel
theorem dX12_conflict_218 : decode cX12_conflict 218 = .ok (.aload_n 0, 1) := by decide +kernel
theorem dX12_conflict_219 : decode cX12_conflict 219 = .ok (.getfield 62, 3) := by decide +kernel
theorem dX12_conflict_222 : decode cX12_conflict 222 = .ok (.iload_n 3, 1) := by decide +kernel
theorem dX12_conflict_223 : decode cX12_conflict 223 = .ok (.iconst 1, 1) := by decide +kernel
theorem dX12_conflict_224 : decode cX12_conflict 224 = .ok (.bastore, 1) := by decide +kernel
theorem dX12_conflict_225 : decode cX12_conflict 225 = .ok (.aload_n 0, 1) := by decide +kernel
theorem dX12_conflict_226 : decode cX12_conflict 226 = .ok (.invokevirtual 218, 3) := by decide +kernel
theorem dX12_conflict_229 : decode cX12_conflict 229 = .ok (.aload_n 0, 1) := by decide +kernel
theorem dX12_conflict_230 : decode cX12_conflict 230 = .ok (.getfield 59, 3) := by decide +kernel
theorem dX12_conflict_233 : decode cX12_conflict 233 = .ok (.iload_n 3, 1) := by decide +kernel
theorem dX12_conflict_234 : decode cX12_conflict 234 = .ok (.iaload, 1) := by decide +kernel
theorem dX12_conflict_235 : decode cX12_conflict 235 = .ok (.istore 4, 2) := by decide +kernel
theorem dX12_conflict_237 : decode cX12_conflict 237 = .ok (.aload_n 0, 1) := by decide +kernel
theorem dX12_conflict_238 : decode cX12_conflict 238 = .ok (.aload_n 0, 1) := by decide +kernel
theorem dX12_conflict_239 : decode cX12_conflict 239 = .ok (.iload 4, 2) := by decide +kernel
theorem dX12_conflict_241 : decode cX12_conflict 241 = .ok (.invokevirtual 166, 3) := by decide +kernel
theorem dX12_conflict_244 : decode cX12_conflict 244 = .ok (.putfield 169, 3) := by decide +kernel
theorem dX12_conflict_247 : decode cX12_conflict 247 = .ok (.aload_n 0, 1) := by decide +kernel
theorem dX12_conflict_248 : decode cX12_conflict 248 = .ok (.getfield 50, 3) := by decide +kernel
theorem dX12_conflict_251 : decode cX12_conflict 251 = .ok (.iload 4, 2) := by decide +kernel
theorem dX12_conflict_253 : decode cX12_conflict 253 = .ok (.aload_n 0, 1) := by decide +kernel
theorem dX12_conflict_254 : decode cX12_conflict 254 = .ok (.getfield 169, 3) := by decide +kernel
theorem dX12_conflict_257 : decode cX12_conflict 257 = .ok (.iastore, 1) := by decide +kernel
theorem dX12_conflict_258 : decode cX12_conflict 258 = .ok (.aload_n 0, 1) := by decide +kernel
theorem dX12_conflict_259 : decode cX12_conflict 259 = .ok (.getfield 44, 3) := by decide +kernel
theorem dX12_conflict_262 : decode cX12_conflict 262 = .ok (.iload 4, 2) := by decide +kernel
theorem dX12_conflict_264 : decode cX12_conflict 264 = .ok (.iaload, 1) := by decide +kernel
theorem dX12_conflict_265 : decode cX12_conflict 265 = .ok (.istore 5, 2) := by decide +kernel
theorem dX12_conflict_267 : decode cX12_conflict 267 = .ok (.aload_n 0, 1) := by decide +kernel
theorem dX12_conflict_268 : decode cX12_conflict 268 = .ok (.iload 5, 2) := by decide +kernel
theorem dX12_conflict_270 : decode cX12_conflict 270 = .ok (.invokevirtual 188, 3) := by decide +kernel
theorem dX12_conflict_273 : decode cX12_conflict 273 = .ok (.iconst (-1), 1) := by decide +kernel
theorem dX12_conflict_274 : decode cX12_conflict 274 = .ok (.if_icmp .eq 36, 3) := by decide +kernel
theorem dX12_conflict_277 : decode cX12_conflict 277 = .ok (.aload_n 0, 1) := by decide +kernel
theorem dX12_conflict_278 : decode cX12_conflict 278 = .ok (.iload 5, 2) := by decide +kernel
theorem dX12_conflict_280 : decode cX12_conflict 280 = .ok (.invokestatic 144, 3) := by decide +kernel
theorem dX12_conflict_283 : decode cX12_conflict 283 = .ok (.iload 5, 2) := by decide +kernel
theorem dX12_conflict_285 : decode cX12_conflict 285 = .ok (.iconst 1, 1) := by decide +kernel
theorem dX12_conflict_286 : decode cX12_conflict 286 = .ok (.invokestatic 138, 3) := by decide +kernel
theorem dX12_conflict_289 : decode cX12_conflict 289 = .ok (.invokevirtual 163, 3) := by decide +kernel
theorem dX12_conflict_292 : decode cX12_conflict 292 = .ok (.ifCond .ge 18, 3) := by decide +kernel
theorem dX12_conflict_295 : decode cX12_conflict 295 = .ok (.aload_n 0, 1) := by decide +kernel
theorem dX12_conflict_296 : decode cX12_conflict 296 = .ok (.iload 5, 2) := by decide +kernel
theorem dX12_conflict_298 : decode cX12_conflict 298 = .ok (.iconst 1, 1) := by decide +kernel
theorem dX12_conflict_299 : decode cX12_conflict 299 = .ok (.invokestatic 138, 3) := by decide +kernel
theorem dX12_conflict_302 : decode cX12_conflict 302 = .ok (.iload 5, 2) := by decide +kernel
theorem dX12_conflict_304 : decode cX12_conflict 304 = .ok (.invokestatic 144, 3) := by decide +kernel
theorem dX12_conflict_307 : decode cX12_conflict 307 = .ok (.invokevirtual 92, 3) := by decide +kernel
theorem dX12_conflict_310 : decode cX12_conflict 310 = .ok (.return_, 1) := by decide +kernel
theorem dX12_takeBounds_0 : decode cX12_takeBounds 0 = .ok (.iconst 0, 1) := by decide +kernel
theorem dX12_takeBounds_1 : decode cX12_takeBounds 1 = .ok (.istore_n 1, 1) := by decide +kernel
theorem dX12_takeBounds_2 : decode cX12_takeBounds 2 = .ok (.iload_n 1, 1) := by decide +kernel
theorem dX12_takeBounds_3 : decode cX12_takeBounds 3 = .ok (.bipush 20, 2) := by decide +kernel
theorem dX12_takeBounds_5 : decode cX12_takeBounds 5 = .ok (.if_icmp .ge 16, 3) := by decide +kernel
theorem dX12_takeBounds_8 : decode cX12_takeBounds 8 = .ok (.aload_n 0, 1) := by decide +kernel
theorem dX12_takeBounds_9 : decode cX12_takeBounds 9 = .ok (.getfield 29, 3) := by decide +kernel
theorem dX12_takeBounds_12 : decode cX12_takeBounds 12 = .ok (.iload_n 1, 1) := by decide +kernel
theorem dX12_takeBounds_13 : decode cX12_takeBounds 13 = .ok (.iconst 0, 1) := by decide +kernel
theorem dX12_takeBounds_14 : decode cX12_takeBounds 14 = .ok (.bastore, 1) := by decide +kernel
theorem dX12_takeBounds_15 : decode cX12_takeBounds 15 = .ok (.iinc 1 1, 3) := by decide +kernel
theorem dX12_takeBounds_18 : decode cX12_takeBounds 18 = .ok (.goto (-16), 3) := by decide +kernel
theorem dX12_takeBounds_21 : decode cX12_takeBounds 21 = .ok (.iconst 0, 1) := by decide +kernel
theorem dX12_takeBounds_22 : decode cX12_takeBounds 22 = .ok (.istore_n 1, 1) := by decide +kernel
theorem dX12_takeBounds_23 : decode cX12_takeBounds 23 = .ok (.iload_n 1, 1) := by decide +kernel
theorem dX12_takeBounds_24 : decode cX12_takeBounds 24 = .ok (.aload_n 0, 1) := by decide +kernel
theorem dX12_takeBounds_25 : decode cX12_takeBounds 25 = .ok (.getfield 117, 3) := by decide +kernel
theorem dX12_takeBounds_28 : decode cX12_takeBounds 28 = .ok (.if_icmp .ge 156, 3) := by decide +kernel
theorem dX12_takeBounds_31 : decode cX12_takeBounds 31 = .ok (.aload_n 0, 1) := by decide +kernel
theorem dX12_takeBounds_32 : decode cX12_takeBounds 32 = .ok (.getfield 44, 3) := by decide +kernel
theorem dX12_takeBounds_35 : decode cX12_takeBounds 35 = .ok (.aload_n 0, 1) := by decide +kernel
theorem dX12_takeBounds_36 : decode cX12_takeBounds 36 = .ok (.getfield 59, 3) := by decide +kernel
theorem dX12_takeBounds_39 : decode cX12_takeBounds 39 = .ok (.iload_n 1, 1) := by decide +kernel
theorem dX12_takeBounds_40 : decode cX12_takeBounds 40 = .ok (.iaload, 1) := by decide +kernel
theorem dX12_takeBounds_41 : decode cX12_takeBounds 41 = .ok (.iaload, 1) := by decide +kernel
theorem dX12_takeBounds_42 : decode cX12_takeBounds 42 = .ok (.istore_n 2, 1) := by decide +kernel
theorem dX12_takeBounds_43 : decode cX12_takeBounds 43 = .ok (.aload_n 0, 1) := by decide +kernel
theorem dX12_takeBounds_44 : decode cX12_takeBounds 44 = .ok (.getfield 62, 3) := by decide +kernel
theorem dX12_takeBounds_47 : decode cX12_takeBounds 47 = .ok (.iload_n 1, 1) := by decide +kernel
theorem dX12_takeBounds_48 : decode cX12_takeBounds 48 = .ok (.baload, 1) := by decide +kernel
theorem dX12_takeBounds_49 : decode cX12_takeBounds 49 = .ok (.ifCond .eq 7, 3) := by decide +kernel
theorem dX12_takeBounds_52 : decode cX12_takeBounds 52 = .ok (.iconst 1, 1) := by decide +kernel
theorem dX12_takeBounds_53 : decode cX12_takeBounds 53 = .ok (.goto 4, 3) := by decide +kernel
theorem dX12_takeBounds_56 : decode cX12_takeBounds 56 = .ok (.iconst 0, 1) := by decide +kernel
theorem dX12_takeBounds_57 : decode cX12_takeBounds 57 = .ok (.istore_n 3, 1) := by decide +kernel
theorem dX12_takeBounds_58 : decode cX12_takeBounds 58 = .ok (.aload_n 0, 1) := by decide +kernel
theorem dX12_takeBounds_59 : decode cX12_takeBounds 59 = .ok (.getfield 76, 3) := by decide +kernel
theorem dX12_takeBounds_62 : decode cX12_takeBounds 62 = .ok (.istore 4, 2) := by decide +kernel
theorem dX12_takeBounds_64 : decode cX12_takeBounds 64 = .ok (.iload_n 3, 1) := by decide +kernel
theorem dX12_takeBounds_65 : decode cX12_takeBounds 65 = .ok (.ifCond .ne 10, 3) := by decide +kernel
theorem dX12_takeBounds_68 : decode cX12_takeBounds 68 = .ok (.iload_n 1, 1) := by decide +kernel
theorem dX12_takeBounds_69 : decode cX12_takeBounds 69 = .ok (.invokestatic 221, 3) := by decide +kernel
theorem dX12_takeBounds_72 : decode cX12_takeBounds 72 = .ok (.goto 16, 3) := by decide +kernel
theorem dX12_takeBounds_75 : decode cX12_takeBounds 75 = .ok (.aload_n 0, 1) := by decide +kernel
theorem dX12_takeBounds_76 : decode cX12_takeBounds 76 = .ok (.iload_n 1, 1) := by decide +kernel
theorem dX12_takeBounds_77 : decode cX12_takeBounds 77 = .ok (.invokestatic 221, 3) := by decide +kernel
theorem dX12_takeBounds_80 : decode cX12_takeBounds 80 = .ok (.aload_n 0, 1) := by decide +kernel
theorem dX12_takeBounds_81 : decode cX12_takeBounds 81 = .ok (.lconst 1, 1) := by decide +kernel
theorem dX12_takeBounds_82 : decode cX12_takeBounds 82 = .ok (.invokevirtual 88, 3) := by decide +kernel
theorem dX12_takeBounds_85 : decode cX12_takeBounds 85 = .ok (.invokevirtual 151, 3) := by decide +kernel
theorem dX12_takeBounds_88 : decode cX12_takeBounds 88 = .ok (.istore 5, 2) := by decide +kernel
theorem dX12_takeBounds_90 : decode cX12_takeBounds 90 = .ok (.aload_n 0, 1) := by decide +kernel
theorem dX12_takeBounds_91 : decode cX12_takeBounds 91 = .ok (.getfield 29, 3) := by decide +kernel
theorem dX12_takeBounds_94 : decode cX12_takeBounds 94 = .ok (.iconst 2, 1) := by decide +kernel
theorem dX12_takeBounds_95 : decode cX12_takeBounds 95 = .ok (.iload_n 2, 1) := by decide +kernel
theorem dX12_takeBounds_96 : decode cX12_takeBounds 96 = .ok (.imul, 1) := by decide +kernel
theorem dX12_takeBounds_97 : decode cX12_takeBounds 97 = .ok (.iload_n 3, 1) := by decide +kernel
theorem dX12_takeBounds_98 : decode cX12_takeBounds 98 = .ok (.iadd, 1) := by decide +kernel
theorem dX12_takeBounds_99 : decode cX12_takeBounds 99 = .ok (.baload, 1) := by decide +kernel
theorem dX12_takeBounds_100 : decode cX12_takeBounds 100 = .ok (.ifCond .eq 38, 3) := by decide +kernel
theorem dX12_takeBounds_103 : decode cX12_takeBounds 103 = .ok (.iload_n 3, 1) := by decide +kernel
theorem dX12_takeBounds_104 : decode cX12_takeBounds 104 = .ok (.ifCond .ne 20, 3) := by decide +kernel
theorem dX12_takeBounds_107 : decode cX12_takeBounds 107 = .ok (.aload_n 0, 1) := by decide +kernel
theorem dX12_takeBounds_108 : decode cX12_takeBounds 108 = .ok (.iload 5, 2) := by decide +kernel
theorem dX12_takeBounds_110 : decode cX12_takeBounds 110 = .ok (.iload_n 2, 1) := by decide +kernel
theorem dX12_takeBounds_111 : decode cX12_takeBounds 111 = .ok (.iconst 0, 1) := by decide +kernel
theorem dX12_takeBounds_112 : decode cX12_takeBounds 112 = .ok (.invokestatic 138, 3) := by decide +kernel
theorem dX12_takeBounds_115 : decode cX12_takeBounds 115 = .ok (.invokevirtual 163, 3) := by decide +kernel
theorem dX12_takeBounds_118 : decode cX12_takeBounds 118 = .ok (.ifCond .ge 24, 3) := by decide +kernel
theorem dX12_takeBounds_121 : decode cX12_takeBounds 121 = .ok (.goto 17, 3) := by decide +kernel
theorem dX12_takeBounds_124 : decode cX12_takeBounds 124 = .ok (.aload_n 0, 1) := by decide +kernel
theorem dX12_takeBounds_125 : decode cX12_takeBounds 125 = .ok (.iload 5, 2) := by decide +kernel
theorem dX12_takeBounds_127 : decode cX12_takeBounds 127 = .ok (.iload_n 2, 1) := by decide +kernel
theorem dX12_takeBounds_128 : decode cX12_takeBounds 128 = .ok (.iconst 1, 1) := by decide +kernel
theorem dX12_takeBounds_129 : decode cX12_takeBounds 129 = .ok (.invokestatic 138, 3) := by decide +kernel
theorem dX12_takeBounds_132 : decode cX12_takeBounds 132 = .ok (.invokevirtual 163, 3) := by decide +kernel
theorem dX12_takeBounds_135 : decode cX12_takeBounds 135 = .ok (.ifCond .le 7, 3) := by decide +kernel
theorem dX12_takeBounds_138 : decode cX12_takeBounds 138 = .ok (.iconst 1, 1) := by decide +kernel
theorem dX12_takeBounds_139 : decode cX12_takeBounds 139 = .ok (.goto 4, 3) := by decide +kernel
theorem dX12_takeBounds_142 : decode cX12_takeBounds 142 = .ok (.iconst 0, 1) := by decide +kernel
theorem dX12_takeBounds_143 : decode cX12_takeBounds 143 = .ok (.istore 6, 2) := by decide +kernel
theorem dX12_takeBounds_145 : decode cX12_takeBounds 145 = .ok (.iload 6, 2) := by decide +kernel
theorem dX12_takeBounds_147 : decode cX12_takeBounds 147 = .ok (.ifCond .eq 25, 3) := by decide +kernel
theorem dX12_takeBounds_150 : decode cX12_takeBounds 150 = .ok (.aload_n 0, 1) := by decide +kernel
theorem dX12_takeBounds_151 : decode cX12_takeBounds 151 = .ok (.iload 5, 2) := by decide +kernel
theorem dX12_takeBounds_153 : decode cX12_takeBounds 153 = .ok (.iload_n 2, 1) := by decide +kernel
theorem dX12_takeBounds_154 : decode cX12_takeBounds 154 = .ok (.iload_n 3, 1) := by decide +kernel
theorem dX12_takeBounds_155 : decode cX12_takeBounds 155 = .ok (.invokestatic 138, 3) := by decide +kernel
theorem dX12_takeBounds_158 : decode cX12_takeBounds 158 = .ok (.invokevirtual 92, 3) := by decide +kernel
theorem dX12_takeBounds_161 : decode cX12_takeBounds 161 = .ok (.aload_n 0, 1) := by decide +kernel
theorem dX12_takeBounds_162 : decode cX12_takeBounds 162 = .ok (.getfield 29, 3) := by decide +kernel
theorem dX12_takeBounds_165 : decode cX12_takeBounds 165 = .ok (.iconst 2, 1) := by decide +kernel
theorem dX12_takeBounds_166 : decode cX12_takeBounds 166 = .ok (.iload_n 2, 1) := by decide +kernel
theorem dX12_takeBounds_167 : decode cX12_takeBounds 167 = .ok (.imul, 1) := by decide +kernel
theorem dX12_takeBounds_168 : decode cX12_takeBounds 168 = .ok (.iload_n 3, 1) := by decide +kernel
theorem dX12_takeBounds_169 : decode cX12_takeBounds 169 = .ok (.iadd, 1) := by decide +kernel
theorem dX12_takeBounds_170 : decode cX12_takeBounds 170 = .ok (.iconst 1, 1) := by decide +kernel
theorem dX12_takeBounds_171 : decode cX12_takeBounds 171 = .ok (.bastore, 1) := by decide +kernel
theorem dX12_takeBounds_172 : decode cX12_takeBounds 172 = .ok (.aload_n 0, 1) := by decide +kernel
theorem dX12_takeBounds_173 : decode cX12_takeBounds 173 = .ok (.iload 4, 2) := by decide +kernel
theorem dX12_takeBounds_175 : decode cX12_takeBounds 175 = .ok (.putfield 76, 3) := by decide +kernel
theorem dX12_takeBounds_178 : decode cX12_takeBounds 178 = .ok (.iinc 1 1, 3) := by decide +kernel
theorem dX12_takeBounds_181 : decode cX12_takeBounds 181 = .ok (.goto (-158), 3) := by decide +kernel
theorem dX12_takeBounds_184 : decode cX12_takeBounds 184 = .ok (.return_, 1) := by decide +kernel
theorem dX12_brokenVariable_0 : decode cX12_brokenVariable 0 = .ok (.iconst 0, 1) := by decide +kernel
theorem dX12_brokenVariable_1 : decode cX12_brokenVariable 1 = .ok (.istore_n 1, 1) := by decide +kernel
theorem dX12_brokenVariable_2 : decode cX12_brokenVariable 2 = .ok (.iload_n 1, 1) := by decide +kernel
theorem dX12_brokenVariable_3 : decode cX12_brokenVariable 3 = .ok (.aload_n 0, 1) := by decide +kernel
theorem dX12_brokenVariable_4 : decode cX12_brokenVariable 4 = .ok (.getfield 120, 3) := by decide +kernel
theorem dX12_brokenVariable_7 : decode cX12_brokenVariable 7 = .ok (.if_icmp .ge 107, 3) := by decide +kernel
theorem dX12_brokenVariable_10 : decode cX12_brokenVariable 10 = .ok (.aload_n 0, 1) := by decide +kernel
theorem dX12_brokenVariable_11 : decode cX12_brokenVariable 11 = .ok (.getfield 25, 3) := by decide +kernel
theorem dX12_brokenVariable_14 : decode cX12_brokenVariable 14 = .ok (.iload_n 1, 1) := by decide +kernel
theorem dX12_brokenVariable_15 : decode cX12_brokenVariable 15 = .ok (.baload, 1) := by decide +kernel
theorem dX12_brokenVariable_16 : decode cX12_brokenVariable 16 = .ok (.ifCond .eq 11, 3) := by decide +kernel
theorem dX12_brokenVariable_19 : decode cX12_brokenVariable 19 = .ok (.aload_n 0, 1) := by decide +kernel
theorem dX12_brokenVariable_20 : decode cX12_brokenVariable 20 = .ok (.iload_n 1, 1) := by decide +kernel
theorem dX12_brokenVariable_21 : decode cX12_brokenVariable 21 = .ok (.invokevirtual 176, 3) := by decide +kernel
theorem dX12_brokenVariable_24 : decode cX12_brokenVariable 24 = .ok (.goto 4, 3) := by decide +kernel
theorem dX12_brokenVariable_27 : decode cX12_brokenVariable 27 = .ok (.iconst (-1), 1) := by decide +kernel
theorem dX12_brokenVariable_28 : decode cX12_brokenVariable 28 = .ok (.istore_n 2, 1) := by decide +kernel
theorem dX12_brokenVariable_29 : decode cX12_brokenVariable 29 = .ok (.iload_n 2, 1) := by decide +kernel
theorem dX12_brokenVariable_30 : decode cX12_brokenVariable 30 = .ok (.iconst (-1), 1) := by decide +kernel
theorem dX12_brokenVariable_31 : decode cX12_brokenVariable 31 = .ok (.if_icmp .eq 77, 3) := by decide +kernel
theorem dX12_brokenVariable_34 : decode cX12_brokenVariable 34 = .ok (.aload_n 0, 1) := by decide +kernel
theorem dX12_brokenVariable_35 : decode cX12_brokenVariable 35 = .ok (.getfield 76, 3) := by decide +kernel
theorem dX12_brokenVariable_38 : decode cX12_brokenVariable 38 = .ok (.istore_n 3, 1) := by decide +kernel
theorem dX12_brokenVariable_39 : decode cX12_brokenVariable 39 = .ok (.aload_n 0, 1) := by decide +kernel
theorem dX12_brokenVariable_40 : decode cX12_brokenVariable 40 = .ok (.iload_n 2, 1) := by decide +kernel
theorem dX12_brokenVariable_41 : decode cX12_brokenVariable 41 = .ok (.invokevirtual 157, 3) := by decide +kernel
theorem dX12_brokenVariable_44 : decode cX12_brokenVariable 44 = .ok (.istore 4, 2) := by decide +kernel
theorem dX12_brokenVariable_46 : decode cX12_brokenVariable 46 = .ok (.aload_n 0, 1) := by decide +kernel
theorem dX12_brokenVariable_47 : decode cX12_brokenVariable 47 = .ok (.iload 4, 2) := by decide +kernel
theorem dX12_brokenVariable_49 : decode cX12_brokenVariable 49 = .ok (.iconst 0, 1) := by decide +kernel
theorem dX12_brokenVariable_50 : decode cX12_brokenVariable 50 = .ok (.invokevirtual 200, 3) := by decide +kernel
theorem dX12_brokenVariable_53 : decode cX12_brokenVariable 53 = .ok (.istore 5, 2) := by decide +kernel
theorem dX12_brokenVariable_55 : decode cX12_brokenVariable 55 = .ok (.aload_n 0, 1) := by decide +kernel
theorem dX12_brokenVariable_56 : decode cX12_brokenVariable 56 = .ok (.aload_n 0, 1) := by decide +kernel
theorem dX12_brokenVariable_57 : decode cX12_brokenVariable 57 = .ok (.iload 5, 2) := by decide +kernel
theorem dX12_brokenVariable_59 : decode cX12_brokenVariable 59 = .ok (.iconst 0, 1) := by decide +kernel
theorem dX12_brokenVariable_60 : decode cX12_brokenVariable 60 = .ok (.invokevirtual 148, 3) := by decide +kernel
theorem dX12_brokenVariable_63 : decode cX12_brokenVariable 63 = .ok (.iload 4, 2) := by decide +kernel
theorem dX12_brokenVariable_65 : decode cX12_brokenVariable 65 = .ok (.invokevirtual 163, 3) := by decide +kernel
theorem dX12_brokenVariable_68 : decode cX12_brokenVariable 68 = .ok (.ifCond .eq 7, 3) := by decide +kernel
theorem dX12_brokenVariable_71 : decode cX12_brokenVariable 71 = .ok (.iconst 1, 1) := by decide +kernel
theorem dX12_brokenVariable_72 : decode cX12_brokenVariable 72 = .ok (.goto 4, 3) := by decide +kernel
theorem dX12_brokenVariable_75 : decode cX12_brokenVariable 75 = .ok (.iconst 0, 1) := by decide +kernel
theorem dX12_brokenVariable_76 : decode cX12_brokenVariable 76 = .ok (.istore 6, 2) := by decide +kernel
theorem dX12_brokenVariable_78 : decode cX12_brokenVariable 78 = .ok (.iload 6, 2) := by decide +kernel
theorem dX12_brokenVariable_80 : decode cX12_brokenVariable 80 = .ok (.ifCond .eq 16, 3) := by decide +kernel
theorem dX12_brokenVariable_83 : decode cX12_brokenVariable 83 = .ok (.aload_n 0, 1) := by decide +kernel
theorem dX12_brokenVariable_84 : decode cX12_brokenVariable 84 = .ok (.iload 5, 2) := by decide +kernel
theorem dX12_brokenVariable_86 : decode cX12_brokenVariable 86 = .ok (.aload_n 0, 1) := by decide +kernel
theorem dX12_brokenVariable_87 : decode cX12_brokenVariable 87 = .ok (.getfield 169, 3) := by decide +kernel
theorem dX12_brokenVariable_90 : decode cX12_brokenVariable 90 = .ok (.invokestatic 224, 3) := by decide +kernel
theorem dX12_brokenVariable_93 : decode cX12_brokenVariable 93 = .ok (.invokevirtual 92, 3) := by decide +kernel
theorem dX12_brokenVariable_96 : decode cX12_brokenVariable 96 = .ok (.aload_n 0, 1) := by decide +kernel
theorem dX12_brokenVariable_97 : decode cX12_brokenVariable 97 = .ok (.iload_n 3, 1) := by decide +kernel
theorem dX12_brokenVariable_98 : decode cX12_brokenVariable 98 = .ok (.putfield 76, 3) := by decide +kernel
theorem dX12_brokenVariable_101 : decode cX12_brokenVariable 101 = .ok (.iload 6, 2) := by decide +kernel
theorem dX12_brokenVariable_103 : decode cX12_brokenVariable 103 = .ok (.ifCond .eq 5, 3) := by decide +kernel
theorem dX12_brokenVariable_106 : decode cX12_brokenVariable 106 = .ok (.iload_n 1, 1) := by decide +kernel
theorem dX12_brokenVariable_107 : decode cX12_brokenVariable 107 = .ok (.ireturn, 1) := by decide +kernel
theorem dX12_brokenVariable_108 : decode cX12_brokenVariable 108 = .ok (.iinc 1 1, 3) := by decide +kernel
theorem dX12_brokenVariable_111 : decode cX12_brokenVariable 111 = .ok (.goto (-109), 3) := by decide +kernel
theorem dX12_brokenVariable_114 : decode cX12_brokenVariable 114 = .ok (.iconst (-1), 1) := by decide +kernel
theorem dX12_brokenVariable_115 : decode cX12_brokenVariable 115 = .ok (.ireturn, 1) := by decide +kernel
theorem dX12_split_0 : decode cX12_split 0 = .ok (.aload_n 0, 1) := by decide +kernel
theorem dX12_split_1 : decode cX12_split 1 = .ok (.getfield 76, 3) := by decide +kernel
theorem dX12_split_4 : decode cX12_split 4 = .ok (.istore_n 2, 1) := by decide +kernel
theorem dX12_split_5 : decode cX12_split 5 = .ok (.aload_n 0, 1) := by decide +kernel
theorem dX12_split_6 : decode cX12_split 6 = .ok (.ldc2_w 227, 3) := by decide +kernel
theorem dX12_split_9 : decode cX12_split 9 = .ok (.invokevirtual 88, 3) := by decide +kernel
theorem dX12_split_12 : decode cX12_split 12 = .ok (.istore_n 3, 1) := by decide +kernel
theorem dX12_split_13 : decode cX12_split 13 = .ok (.aload_n 0, 1) := by decide +kernel
theorem dX12_split_14 : decode cX12_split 14 = .ok (.aload_n 0, 1) := by decide +kernel
theorem dX12_split_15 : decode cX12_split 15 = .ok (.getfield 169, 3) := by decide +kernel
theorem dX12_split_18 : decode cX12_split 18 = .ok (.invokestatic 224, 3) := by decide +kernel
theorem dX12_split_21 : decode cX12_split 21 = .ok (.iload_n 3, 1) := by decide +kernel
theorem dX12_split_22 : decode cX12_split 22 = .ok (.invokevirtual 163, 3) := by decide +kernel
theorem dX12_split_25 : decode cX12_split 25 = .ok (.ifCond .gt 22, 3) := by decide +kernel
theorem dX12_split_28 : decode cX12_split 28 = .ok (.aload_n 0, 1) := by decide +kernel
theorem dX12_split_29 : decode cX12_split 29 = .ok (.aload_n 0, 1) := by decide +kernel
theorem dX12_split_30 : decode cX12_split 30 = .ok (.getfield 169, 3) := by decide +kernel
theorem dX12_split_33 : decode cX12_split 33 = .ok (.invokestatic 224, 3) := by decide +kernel
theorem dX12_split_36 : decode cX12_split 36 = .ok (.aload_n 0, 1) := by decide +kernel
theorem dX12_split_37 : decode cX12_split 37 = .ok (.iload_n 3, 1) := by decide +kernel
theorem dX12_split_38 : decode cX12_split 38 = .ok (.invokevirtual 203, 3) := by decide +kernel
theorem dX12_split_41 : decode cX12_split 41 = .ok (.invokevirtual 163, 3) := by decide +kernel
theorem dX12_split_44 : decode cX12_split 44 = .ok (.ifCond .ge 7, 3) := by decide +kernel
theorem dX12_split_47 : decode cX12_split 47 = .ok (.iconst 1, 1) := by decide +kernel
theorem dX12_split_48 : decode cX12_split 48 = .ok (.goto 4, 3) := by decide +kernel
theorem dX12_split_51 : decode cX12_split 51 = .ok (.iconst 0, 1) := by decide +kernel
theorem dX12_split_52 : decode cX12_split 52 = .ok (.istore 4, 2) := by decide +kernel
theorem dX12_split_54 : decode cX12_split 54 = .ok (.aload_n 0, 1) := by decide +kernel
theorem dX12_split_55 : decode cX12_split 55 = .ok (.iload_n 2, 1) := by decide +kernel
theorem dX12_split_56 : decode cX12_split 56 = .ok (.putfield 76, 3) := by decide +kernel
theorem dX12_split_59 : decode cX12_split 59 = .ok (.aload_n 0, 1) := by decide +kernel
theorem dX12_split_60 : decode cX12_split 60 = .ok (.getfield 117, 3) := by decide +kernel
theorem dX12_split_63 : decode cX12_split 63 = .ok (.bipush 24, 2) := by decide +kernel
theorem dX12_split_65 : decode cX12_split 65 = .ok (.if_icmp .eq 18, 3) := by decide +kernel
theorem dX12_split_68 : decode cX12_split 68 = .ok (.aload_n 0, 1) := by decide +kernel
theorem dX12_split_69 : decode cX12_split 69 = .ok (.getfield 108, 3) := by decide +kernel
theorem dX12_split_72 : decode cX12_split 72 = .ok (.sipush 150, 3) := by decide +kernel
theorem dX12_split_75 : decode cX12_split 75 = .ok (.if_icmp .eq 8, 3) := by decide +kernel
theorem dX12_split_78 : decode cX12_split 78 = .ok (.iload 4, 2) := by decide +kernel
theorem dX12_split_80 : decode cX12_split 80 = .ok (.ifCond .eq 9, 3) := by decide +kernel
theorem dX12_split_83 : decode cX12_split 83 = .ok (.aload_n 0, 1) := by decide +kernel
theorem dX12_split_84 : decode cX12_split 84 = .ok (.iconst 4, 1) := by decide +kernel
theorem dX12_split_85 : decode cX12_split 85 = .ok (.putfield 96, 3) := by decide +kernel
theorem dX12_split_88 : decode cX12_split 88 = .ok (.return_, 1) := by decide +kernel
theorem dX12_split_89 : decode cX12_split 89 = .ok (.aload_n 0, 1) := by decide +kernel
theorem dX12_split_90 : decode cX12_split 90 = .ok (.dup, 1) := by decide +kernel
theorem dX12_split_91 : decode cX12_split 91 = .ok (.getfield 108, 3) := by decide +kernel
theorem dX12_split_94 : decode cX12_split 94 = .ok (.iconst 1, 1) := by decide +kernel
theorem dX12_split_95 : decode cX12_split 95 = .ok (.iadd, 1) := by decide +kernel
theorem dX12_split_96 : decode cX12_split 96 = .ok (.putfield 108, 3) := by decide +kernel
theorem dX12_split_99 : decode cX12_split 99 = .ok (.aload_n 0, 1) := by decide +kernel
theorem dX12_split_100 : decode cX12_split 100 = .ok (.getfield 169, 3) := by decide +kernel
theorem dX12_split_103 : decode cX12_split 103 = .ok (.istore 5, 2) := by decide +kernel
theorem dX12_split_105 : decode cX12_split 105 = .ok (.aload_n 0, 1) := by decide +kernel
theorem dX12_split_106 : decode cX12_split 106 = .ok (.getfield 38, 3) := by decide +kernel
theorem dX12_split_109 : decode cX12_split 109 = .ok (.iload 5, 2) := by decide +kernel
theorem dX12_split_111 : decode cX12_split 111 = .ok (.iconst 1, 1) := by decide +kernel
theorem dX12_split_112 : decode cX12_split 112 = .ok (.bastore, 1) := by decide +kernel
theorem dX12_split_113 : decode cX12_split 113 = .ok (.aload_n 0, 1) := by decide +kernel
theorem dX12_split_114 : decode cX12_split 114 = .ok (.getfield 44, 3) := by decide +kernel
theorem dX12_split_117 : decode cX12_split 117 = .ok (.iload 5, 2) := by decide +kernel
theorem dX12_split_119 : decode cX12_split 119 = .ok (.iload_n 1, 1) := by decide +kernel
theorem dX12_split_120 : decode cX12_split 120 = .ok (.iastore, 1) := by decide +kernel
theorem dX12_split_121 : decode cX12_split 121 = .ok (.aload_n 0, 1) := by decide +kernel
theorem dX12_split_122 : decode cX12_split 122 = .ok (.dup, 1) := by decide +kernel
theorem dX12_split_123 : decode cX12_split 123 = .ok (.getfield 114, 3) := by decide +kernel
theorem dX12_split_126 : decode cX12_split 126 = .ok (.iconst 1, 1) := by decide +kernel
theorem dX12_split_127 : decode cX12_split 127 = .ok (.isub, 1) := by decide +kernel
theorem dX12_split_128 : decode cX12_split 128 = .ok (.putfield 114, 3) := by decide +kernel
theorem dX12_split_131 : decode cX12_split 131 = .ok (.aload_n 0, 1) := by decide +kernel
theorem dX12_split_132 : decode cX12_split 132 = .ok (.getfield 59, 3) := by decide +kernel
theorem dX12_split_135 : decode cX12_split 135 = .ok (.aload_n 0, 1) := by decide +kernel
theorem dX12_split_136 : decode cX12_split 136 = .ok (.getfield 117, 3) := by decide +kernel
theorem dX12_split_139 : decode cX12_split 139 = .ok (.iload 5, 2) := by decide +kernel
theorem dX12_split_141 : decode cX12_split 141 = .ok (.iastore, 1) := by decide +kernel
theorem dX12_split_142 : decode cX12_split 142 = .ok (.aload_n 0, 1) := by decide +kernel
theorem dX12_split_143 : decode cX12_split 143 = .ok (.iload 5, 2) := by decide +kernel
theorem dX12_split_145 : decode cX12_split 145 = .ok (.invokestatic 224, 3) := by decide +kernel
theorem dX12_split_148 : decode cX12_split 148 = .ok (.aload_n 0, 1) := by decide +kernel
theorem dX12_split_149 : decode cX12_split 149 = .ok (.getfield 117, 3) := by decide +kernel
theorem dX12_split_152 : decode cX12_split 152 = .ok (.invokestatic 221, 3) := by decide +kernel
theorem dX12_split_155 : decode cX12_split 155 = .ok (.invokevirtual 92, 3) := by decide +kernel
theorem dX12_split_158 : decode cX12_split 158 = .ok (.aload_n 0, 1) := by decide +kernel
theorem dX12_split_159 : decode cX12_split 159 = .ok (.getfield 62, 3) := by decide +kernel
theorem dX12_split_162 : decode cX12_split 162 = .ok (.aload_n 0, 1) := by decide +kernel
theorem dX12_split_163 : decode cX12_split 163 = .ok (.getfield 117, 3) := by decide +kernel
theorem dX12_split_166 : decode cX12_split 166 = .ok (.iconst 0, 1) := by decide +kernel
theorem dX12_split_167 : decode cX12_split 167 = .ok (.bastore, 1) := by decide +kernel
theorem dX12_split_168 : decode cX12_split 168 = .ok (.aload_n 0, 1) := by decide +kernel
theorem dX12_split_169 : decode cX12_split 169 = .ok (.dup, 1) := by decide +kernel
theorem dX12_split_170 : decode cX12_split 170 = .ok (.getfield 117, 3) := by decide +kernel
theorem dX12_split_173 : decode cX12_split 173 = .ok (.iconst 1, 1) := by decide +kernel
theorem dX12_split_174 : decode cX12_split 174 = .ok (.iadd, 1) := by decide +kernel
theorem dX12_split_175 : decode cX12_split 175 = .ok (.putfield 117, 3) := by decide +kernel
theorem dX12_split_178 : decode cX12_split 178 = .ok (.aload_n 0, 1) := by decide +kernel
theorem dX12_split_179 : decode cX12_split 179 = .ok (.aload_n 0, 1) := by decide +kernel
theorem dX12_split_180 : decode cX12_split 180 = .ok (.iload 5, 2) := by decide +kernel
theorem dX12_split_182 : decode cX12_split 182 = .ok (.invokevirtual 166, 3) := by decide +kernel
theorem dX12_split_185 : decode cX12_split 185 = .ok (.putfield 169, 3) := by decide +kernel
theorem dX12_split_188 : decode cX12_split 188 = .ok (.aload_n 0, 1) := by decide +kernel
theorem dX12_split_189 : decode cX12_split 189 = .ok (.getfield 47, 3) := by decide +kernel
theorem dX12_split_192 : decode cX12_split 192 = .ok (.iload 5, 2) := by decide +kernel
theorem dX12_split_194 : decode cX12_split 194 = .ok (.aload_n 0, 1) := by decide +kernel
theorem dX12_split_195 : decode cX12_split 195 = .ok (.getfield 169, 3) := by decide +kernel
theorem dX12_split_198 : decode cX12_split 198 = .ok (.iastore, 1) := by decide +kernel
theorem dX12_split_199 : decode cX12_split 199 = .ok (.aload_n 0, 1) := by decide +kernel
theorem dX12_split_200 : decode cX12_split 200 = .ok (.invokevirtual 218, 3) := by decide +kernel
theorem dX12_split_203 : decode cX12_split 203 = .ok (.return_, 1) := by decide +kernel
theorem dX12_step_0 : decode cX12_step 0 = .ok (.aload_n 0, 1) := by decide +kernel
theorem dX12_step_1 : decode cX12_step 1 = .ok (.dup, 1) := by decide +kernel
theorem dX12_step_2 : decode cX12_step 2 = .ok (.getfield 99, 3) := by decide +kernel
theorem dX12_step_5 : decode cX12_step 5 = .ok (.iconst 1, 1) := by decide +kernel
theorem dX12_step_6 : decode cX12_step 6 = .ok (.iadd, 1) := by decide +kernel
theorem dX12_step_7 : decode cX12_step 7 = .ok (.putfield 99, 3) := by decide +kernel
theorem dX12_step_10 : decode cX12_step 10 = .ok (.aload_n 0, 1) := by decide +kernel
theorem dX12_step_11 : decode cX12_step 11 = .ok (.invokevirtual 229, 3) := by decide +kernel
theorem dX12_step_14 : decode cX12_step 14 = .ok (.istore_n 1, 1) := by decide +kernel
theorem dX12_step_15 : decode cX12_step 15 = .ok (.iload_n 1, 1) := by decide +kernel
theorem dX12_step_16 : decode cX12_step 16 = .ok (.iconst (-1), 1) := by decide +kernel
theorem dX12_step_17 : decode cX12_step 17 = .ok (.if_icmp .eq 29, 3) := by decide +kernel
theorem dX12_step_20 : decode cX12_step 20 = .ok (.aload_n 0, 1) := by decide +kernel
theorem dX12_step_21 : decode cX12_step 21 = .ok (.iload_n 1, 1) := by decide +kernel
theorem dX12_step_22 : decode cX12_step 22 = .ok (.invokevirtual 233, 3) := by decide +kernel
theorem dX12_step_25 : decode cX12_step 25 = .ok (.istore_n 2, 1) := by decide +kernel
theorem dX12_step_26 : decode cX12_step 26 = .ok (.iload_n 2, 1) := by decide +kernel
theorem dX12_step_27 : decode cX12_step 27 = .ok (.iconst (-1), 1) := by decide +kernel
theorem dX12_step_28 : decode cX12_step 28 = .ok (.if_icmp .eq 12, 3) := by decide +kernel
theorem dX12_step_31 : decode cX12_step 31 = .ok (.aload_n 0, 1) := by decide +kernel
theorem dX12_step_32 : decode cX12_step 32 = .ok (.iload_n 1, 1) := by decide +kernel
theorem dX12_step_33 : decode cX12_step 33 = .ok (.iload_n 2, 1) := by decide +kernel
theorem dX12_step_34 : decode cX12_step 34 = .ok (.invokevirtual 236, 3) := by decide +kernel
theorem dX12_step_37 : decode cX12_step 37 = .ok (.goto 8, 3) := by decide +kernel
theorem dX12_step_40 : decode cX12_step 40 = .ok (.aload_n 0, 1) := by decide +kernel
theorem dX12_step_41 : decode cX12_step 41 = .ok (.iload_n 1, 1) := by decide +kernel
theorem dX12_step_42 : decode cX12_step 42 = .ok (.invokevirtual 239, 3) := by decide +kernel
theorem dX12_step_45 : decode cX12_step 45 = .ok (.return_, 1) := by decide +kernel
theorem dX12_step_46 : decode cX12_step 46 = .ok (.aload_n 0, 1) := by decide +kernel
theorem dX12_step_47 : decode cX12_step 47 = .ok (.invokevirtual 243, 3) := by decide +kernel
theorem dX12_step_50 : decode cX12_step 50 = .ok (.istore_n 2, 1) := by decide +kernel
theorem dX12_step_51 : decode cX12_step 51 = .ok (.iload_n 2, 1) := by decide +kernel
theorem dX12_step_52 : decode cX12_step 52 = .ok (.iconst (-1), 1) := by decide +kernel
theorem dX12_step_53 : decode cX12_step 53 = .ok (.if_icmp .eq 11, 3) := by decide +kernel
theorem dX12_step_56 : decode cX12_step 56 = .ok (.aload_n 0, 1) := by decide +kernel
theorem dX12_step_57 : decode cX12_step 57 = .ok (.iload_n 2, 1) := by decide +kernel
theorem dX12_step_58 : decode cX12_step 58 = .ok (.invokevirtual 246, 3) := by decide +kernel
theorem dX12_step_61 : decode cX12_step 61 = .ok (.goto 8, 3) := by decide +kernel
theorem dX12_step_64 : decode cX12_step 64 = .ok (.aload_n 0, 1) := by decide +kernel
theorem dX12_step_65 : decode cX12_step 65 = .ok (.iconst 2, 1) := by decide +kernel
theorem dX12_step_66 : decode cX12_step 66 = .ok (.putfield 96, 3) := by decide +kernel
theorem dX12_step_69 : decode cX12_step 69 = .ok (.return_, 1) := by decide +kernel
theorem dX12_solve_0 : decode cX12_solve 0 = .ok (.aload_n 0, 1) := by decide +kernel
theorem dX12_solve_1 : decode cX12_solve 1 = .ok (.getfield 120, 3) := by decide +kernel
theorem dX12_solve_4 : decode cX12_solve 4 = .ok (.ifCond .eq 15, 3) := by decide +kernel
theorem dX12_solve_7 : decode cX12_solve 7 = .ok (.iload_n 1, 1) := by decide +kernel
theorem dX12_solve_8 : decode cX12_solve 8 = .ok (.iconst 1, 1) := by decide +kernel
theorem dX12_solve_9 : decode cX12_solve 9 = .ok (.if_icmp .lt 10, 3) := by decide +kernel
theorem dX12_solve_12 : decode cX12_solve 12 = .ok (.iload_n 1, 1) := by decide +kernel
theorem dX12_solve_13 : decode cX12_solve 13 = .ok (.sipush 20000, 3) := by decide +kernel
theorem dX12_solve_16 : decode cX12_solve 16 = .ok (.if_icmp .le 5, 3) := by decide +kernel
theorem dX12_solve_19 : decode cX12_solve 19 = .ok (.iconst (-1), 1) := by decide +kernel
theorem dX12_solve_20 : decode cX12_solve 20 = .ok (.ireturn, 1) := by decide +kernel
theorem dX12_solve_21 : decode cX12_solve 21 = .ok (.aload_n 0, 1) := by decide +kernel
theorem dX12_solve_22 : decode cX12_solve 22 = .ok (.getfield 96, 3) := by decide +kernel
theorem dX12_solve_25 : decode cX12_solve 25 = .ok (.ifCond .ne 7, 3) := by decide +kernel
theorem dX12_solve_28 : decode cX12_solve 28 = .ok (.aload_n 0, 1) := by decide +kernel
theorem dX12_solve_29 : decode cX12_solve 29 = .ok (.invokevirtual 249, 3) := by decide +kernel
theorem dX12_solve_32 : decode cX12_solve 32 = .ok (.iconst 0, 1) := by decide +kernel
theorem dX12_solve_33 : decode cX12_solve 33 = .ok (.istore_n 2, 1) := by decide +kernel
theorem dX12_solve_34 : decode cX12_solve 34 = .ok (.iload_n 2, 1) := by decide +kernel
theorem dX12_solve_35 : decode cX12_solve 35 = .ok (.iload_n 1, 1) := by decide +kernel
theorem dX12_solve_36 : decode cX12_solve 36 = .ok (.if_icmp .ge 21, 3) := by decide +kernel
theorem dX12_solve_39 : decode cX12_solve 39 = .ok (.aload_n 0, 1) := by decide +kernel
theorem dX12_solve_40 : decode cX12_solve 40 = .ok (.getfield 96, 3) := by decide +kernel
theorem dX12_solve_43 : decode cX12_solve 43 = .ok (.iconst 1, 1) := by decide +kernel
theorem dX12_solve_44 : decode cX12_solve 44 = .ok (.if_icmp .ne 13, 3) := by decide +kernel
theorem dX12_solve_47 : decode cX12_solve 47 = .ok (.aload_n 0, 1) := by decide +kernel
theorem dX12_solve_48 : decode cX12_solve 48 = .ok (.invokevirtual 252, 3) := by decide +kernel
theorem dX12_solve_51 : decode cX12_solve 51 = .ok (.iinc 2 1, 3) := by decide +kernel
theorem dX12_solve_54 : decode cX12_solve 54 = .ok (.goto (-20), 3) := by decide +kernel
theorem dX12_solve_57 : decode cX12_solve 57 = .ok (.iload_n 2, 1) := by decide +kernel
theorem dX12_solve_58 : decode cX12_solve 58 = .ok (.ireturn, 1) := by decide +kernel
theorem dX12_state_0 : decode cX12_state 0 = .ok (.iload_n 1, 1) := by decide +kernel
theorem dX12_state_1 : decode cX12_state 1 = .ok (.tableswitch 96 0 8 #[51, 56, 61, 66, 71, 76, 81, 86, 91], 51) := by decide +kernel
theorem dX12_state_52 : decode cX12_state 52 = .ok (.aload_n 0, 1) := by decide +kernel
theorem dX12_state_53 : decode cX12_state 53 = .ok (.getfield 96, 3) := by decide +kernel
theorem dX12_state_56 : decode cX12_state 56 = .ok (.ireturn, 1) := by decide +kernel
theorem dX12_state_57 : decode cX12_state 57 = .ok (.aload_n 0, 1) := by decide +kernel
theorem dX12_state_58 : decode cX12_state 58 = .ok (.getfield 99, 3) := by decide +kernel
theorem dX12_state_61 : decode cX12_state 61 = .ok (.ireturn, 1) := by decide +kernel
theorem dX12_state_62 : decode cX12_state 62 = .ok (.aload_n 0, 1) := by decide +kernel
theorem dX12_state_63 : decode cX12_state 63 = .ok (.getfield 102, 3) := by decide +kernel
theorem dX12_state_66 : decode cX12_state 66 = .ok (.ireturn, 1) := by decide +kernel
theorem dX12_state_67 : decode cX12_state 67 = .ok (.aload_n 0, 1) := by decide +kernel
theorem dX12_state_68 : decode cX12_state 68 = .ok (.getfield 105, 3) := by decide +kernel
theorem dX12_state_71 : decode cX12_state 71 = .ok (.ireturn, 1) := by decide +kernel
theorem dX12_state_72 : decode cX12_state 72 = .ok (.aload_n 0, 1) := by decide +kernel
theorem dX12_state_73 : decode cX12_state 73 = .ok (.getfield 108, 3) := by decide +kernel
theorem dX12_state_76 : decode cX12_state 76 = .ok (.ireturn, 1) := by decide +kernel
theorem dX12_state_77 : decode cX12_state 77 = .ok (.aload_n 0, 1) := by decide +kernel
theorem dX12_state_78 : decode cX12_state 78 = .ok (.getfield 117, 3) := by decide +kernel
theorem dX12_state_81 : decode cX12_state 81 = .ok (.ireturn, 1) := by decide +kernel
theorem dX12_state_82 : decode cX12_state 82 = .ok (.aload_n 0, 1) := by decide +kernel
theorem dX12_state_83 : decode cX12_state 83 = .ok (.getfield 123, 3) := by decide +kernel
theorem dX12_state_86 : decode cX12_state 86 = .ok (.ireturn, 1) := by decide +kernel
theorem dX12_state_87 : decode cX12_state 87 = .ok (.aload_n 0, 1) := by decide +kernel
theorem dX12_state_88 : decode cX12_state 88 = .ok (.getfield 120, 3) := by decide +kernel
theorem dX12_state_91 : decode cX12_state 91 = .ok (.ireturn, 1) := by decide +kernel
theorem dX12_state_92 : decode cX12_state 92 = .ok (.aload_n 0, 1) := by decide +kernel
theorem dX12_state_93 : decode cX12_state 93 = .ok (.getfield 111, 3) := by decide +kernel
theorem dX12_state_96 : decode cX12_state 96 = .ok (.ireturn, 1) := by decide +kernel
theorem dX12_state_97 : decode cX12_state 97 = .ok (.iconst (-1), 1) := by decide +kernel
theorem dX12_state_98 : decode cX12_state 98 = .ok (.ireturn, 1) := by decide +kernel
theorem dX12_isPlace_0 : decode cX12_isPlace 0 = .ok (.aload_n 0, 1) := by decide +kernel
theorem dX12_isPlace_1 : decode cX12_isPlace 1 = .ok (.getfield 96, 3) := by decide +kernel
theorem dX12_isPlace_4 : decode cX12_isPlace 4 = .ok (.ifCond .le 24, 3) := by decide +kernel
theorem dX12_isPlace_7 : decode cX12_isPlace 7 = .ok (.iload_n 1, 1) := by decide +kernel
theorem dX12_isPlace_8 : decode cX12_isPlace 8 = .ok (.ifCond .lt 20, 3) := by decide +kernel
theorem dX12_isPlace_11 : decode cX12_isPlace 11 = .ok (.iload_n 1, 1) := by decide +kernel
theorem dX12_isPlace_12 : decode cX12_isPlace 12 = .ok (.aload_n 0, 1) := by decide +kernel
theorem dX12_isPlace_13 : decode cX12_isPlace 13 = .ok (.getfield 120, 3) := by decide +kernel
theorem dX12_isPlace_16 : decode cX12_isPlace 16 = .ok (.aload_n 0, 1) := by decide +kernel
theorem dX12_isPlace_17 : decode cX12_isPlace 17 = .ok (.getfield 123, 3) := by decide +kernel
theorem dX12_isPlace_20 : decode cX12_isPlace 20 = .ok (.iadd, 1) := by decide +kernel
theorem dX12_isPlace_21 : decode cX12_isPlace 21 = .ok (.if_icmp .ge 7, 3) := by decide +kernel
theorem dX12_isPlace_24 : decode cX12_isPlace 24 = .ok (.iconst 1, 1) := by decide +kernel
theorem dX12_isPlace_25 : decode cX12_isPlace 25 = .ok (.goto 4, 3) := by decide +kernel
theorem dX12_isPlace_28 : decode cX12_isPlace 28 = .ok (.iconst 0, 1) := by decide +kernel
theorem dX12_isPlace_29 : decode cX12_isPlace 29 = .ok (.ireturn, 1) := by decide +kernel
theorem dX12_basic_0 : decode cX12_basic 0 = .ok (.aload_n 0, 1) := by decide +kernel
theorem dX12_basic_1 : decode cX12_basic 1 = .ok (.iload_n 1, 1) := by decide +kernel
theorem dX12_basic_2 : decode cX12_basic 2 = .ok (.invokevirtual 255, 3) := by decide +kernel
theorem dX12_basic_5 : decode cX12_basic 5 = .ok (.ifCond .ne 7, 3) := by decide +kernel
theorem dX12_basic_8 : decode cX12_basic 8 = .ok (.iconst (-1), 1) := by decide +kernel
theorem dX12_basic_9 : decode cX12_basic 9 = .ok (.goto 17, 3) := by decide +kernel
theorem dX12_basic_12 : decode cX12_basic 12 = .ok (.aload_n 0, 1) := by decide +kernel
theorem dX12_basic_13 : decode cX12_basic 13 = .ok (.iload_n 1, 1) := by decide +kernel
theorem dX12_basic_14 : decode cX12_basic 14 = .ok (.invokevirtual 176, 3) := by decide +kernel
theorem dX12_basic_17 : decode cX12_basic 17 = .ok (.iconst (-1), 1) := by decide +kernel
theorem dX12_basic_18 : decode cX12_basic 18 = .ok (.if_icmp .eq 7, 3) := by decide +kernel
theorem dX12_basic_21 : decode cX12_basic 21 = .ok (.iconst 1, 1) := by decide +kernel
theorem dX12_basic_22 : decode cX12_basic 22 = .ok (.goto 4, 3) := by decide +kernel
theorem dX12_basic_25 : decode cX12_basic 25 = .ok (.iconst 0, 1) := by decide +kernel
theorem dX12_basic_26 : decode cX12_basic 26 = .ok (.ireturn, 1) := by decide +kernel
theorem dX12_hand_0 : decode cX12_hand 0 = .ok (.aload_n 0, 1) := by decide +kernel
theorem dX12_hand_1 : decode cX12_hand 1 = .ok (.getfield 76, 3) := by decide +kernel
theorem dX12_hand_4 : decode cX12_hand 4 = .ok (.istore_n 3, 1) := by decide +kernel
theorem dX12_hand_5 : decode cX12_hand 5 = .ok (.aload_n 0, 1) := by decide +kernel
theorem dX12_hand_6 : decode cX12_hand 6 = .ok (.iload_n 1, 1) := by decide +kernel
theorem dX12_hand_7 : decode cX12_hand 7 = .ok (.iload_n 2, 1) := by decide +kernel
theorem dX12_hand_8 : decode cX12_hand 8 = .ok (.invokevirtual 206, 3) := by decide +kernel
theorem dX12_hand_11 : decode cX12_hand 11 = .ok (.istore 4, 2) := by decide +kernel
theorem dX12_hand_13 : decode cX12_hand 13 = .ok (.aload_n 0, 1) := by decide +kernel
theorem dX12_hand_14 : decode cX12_hand 14 = .ok (.aload_n 0, 1) := by decide +kernel
theorem dX12_hand_15 : decode cX12_hand 15 = .ok (.iload_n 1, 1) := by decide +kernel
theorem dX12_hand_16 : decode cX12_hand 16 = .ok (.iload 4, 2) := by decide +kernel
theorem dX12_hand_18 : decode cX12_hand 18 = .ok (.invokevirtual 200, 3) := by decide +kernel
theorem dX12_hand_21 : decode cX12_hand 21 = .ok (.ldc_w 258, 3) := by decide +kernel
theorem dX12_hand_24 : decode cX12_hand 24 = .ok (.invokevirtual 92, 3) := by decide +kernel
theorem dX12_hand_27 : decode cX12_hand 27 = .ok (.aload_n 0, 1) := by decide +kernel
theorem dX12_hand_28 : decode cX12_hand 28 = .ok (.aload_n 0, 1) := by decide +kernel
theorem dX12_hand_29 : decode cX12_hand 29 = .ok (.iload_n 2, 1) := by decide +kernel
theorem dX12_hand_30 : decode cX12_hand 30 = .ok (.iload 4, 2) := by decide +kernel
theorem dX12_hand_32 : decode cX12_hand 32 = .ok (.invokevirtual 200, 3) := by decide +kernel
theorem dX12_hand_35 : decode cX12_hand 35 = .ok (.ldc_w 259, 3) := by decide +kernel
theorem dX12_hand_38 : decode cX12_hand 38 = .ok (.invokevirtual 92, 3) := by decide +kernel
theorem dX12_hand_41 : decode cX12_hand 41 = .ok (.aload_n 0, 1) := by decide +kernel
theorem dX12_hand_42 : decode cX12_hand 42 = .ok (.iload_n 3, 1) := by decide +kernel
theorem dX12_hand_43 : decode cX12_hand 43 = .ok (.putfield 76, 3) := by decide +kernel
theorem dX12_hand_46 : decode cX12_hand 46 = .ok (.aload_n 0, 1) := by decide +kernel
theorem dX12_hand_47 : decode cX12_hand 47 = .ok (.iconst 1, 1) := by decide +kernel
theorem dX12_hand_48 : decode cX12_hand 48 = .ok (.putfield 260, 3) := by decide +kernel
theorem dX12_hand_51 : decode cX12_hand 51 = .ok (.aload_n 0, 1) := by decide +kernel
theorem dX12_hand_52 : decode cX12_hand 52 = .ok (.ldc_w 258, 3) := by decide +kernel
theorem dX12_hand_55 : decode cX12_hand 55 = .ok (.invokevirtual 191, 3) := by decide +kernel
theorem dX12_hand_58 : decode cX12_hand 58 = .ok (.ireturn, 1) := by decide +kernel
theorem dX12_value_0 : decode cX12_value 0 = .ok (.aload_n 0, 1) := by decide +kernel
theorem dX12_value_1 : decode cX12_value 1 = .ok (.iload_n 1, 1) := by decide +kernel
theorem dX12_value_2 : decode cX12_value 2 = .ok (.invokevirtual 255, 3) := by decide +kernel
theorem dX12_value_5 : decode cX12_value 5 = .ok (.ifCond .ne 6, 3) := by decide +kernel
theorem dX12_value_8 : decode cX12_value 8 = .ok (.bipush (-4), 2) := by decide +kernel
theorem dX12_value_10 : decode cX12_value 10 = .ok (.ireturn, 1) := by decide +kernel
theorem dX12_value_11 : decode cX12_value 11 = .ok (.aload_n 0, 1) := by decide +kernel
theorem dX12_value_12 : decode cX12_value 12 = .ok (.getfield 76, 3) := by decide +kernel
theorem dX12_value_15 : decode cX12_value 15 = .ok (.istore_n 2, 1) := by decide +kernel
theorem dX12_value_16 : decode cX12_value 16 = .ok (.aload_n 0, 1) := by decide +kernel
theorem dX12_value_17 : decode cX12_value 17 = .ok (.iload_n 1, 1) := by decide +kernel
theorem dX12_value_18 : decode cX12_value 18 = .ok (.invokevirtual 176, 3) := by decide +kernel
theorem dX12_value_21 : decode cX12_value 21 = .ok (.istore_n 3, 1) := by decide +kernel
theorem dX12_value_22 : decode cX12_value 22 = .ok (.iload_n 3, 1) := by decide +kernel
theorem dX12_value_23 : decode cX12_value 23 = .ok (.iconst (-1), 1) := by decide +kernel
theorem dX12_value_24 : decode cX12_value 24 = .ok (.if_icmp .ne 19, 3) := by decide +kernel
theorem dX12_value_27 : decode cX12_value 27 = .ok (.aload_n 0, 1) := by decide +kernel
theorem dX12_value_28 : decode cX12_value 28 = .ok (.iload_n 1, 1) := by decide +kernel
theorem dX12_value_29 : decode cX12_value 29 = .ok (.invokestatic 144, 3) := by decide +kernel
theorem dX12_value_32 : decode cX12_value 32 = .ok (.aload_n 0, 1) := by decide +kernel
theorem dX12_value_33 : decode cX12_value 33 = .ok (.lconst 1, 1) := by decide +kernel
theorem dX12_value_34 : decode cX12_value 34 = .ok (.invokevirtual 88, 3) := by decide +kernel
theorem dX12_value_37 : decode cX12_value 37 = .ok (.invokevirtual 264, 3) := by decide +kernel
theorem dX12_value_40 : decode cX12_value 40 = .ok (.goto 13, 3) := by decide +kernel
theorem dX12_value_43 : decode cX12_value 43 = .ok (.aload_n 0, 1) := by decide +kernel
theorem dX12_value_44 : decode cX12_value 44 = .ok (.aload_n 0, 1) := by decide +kernel
theorem dX12_value_45 : decode cX12_value 45 = .ok (.iload_n 3, 1) := by decide +kernel
theorem dX12_value_46 : decode cX12_value 46 = .ok (.invokevirtual 157, 3) := by decide +kernel
theorem dX12_value_49 : decode cX12_value 49 = .ok (.iconst 0, 1) := by decide +kernel
theorem dX12_value_50 : decode cX12_value 50 = .ok (.invokevirtual 264, 3) := by decide +kernel
theorem dX12_value_53 : decode cX12_value 53 = .ok (.istore 4, 2) := by decide +kernel
theorem dX12_value_55 : decode cX12_value 55 = .ok (.aload_n 0, 1) := by decide +kernel
theorem dX12_value_56 : decode cX12_value 56 = .ok (.iload_n 2, 1) := by decide +kernel
theorem dX12_value_57 : decode cX12_value 57 = .ok (.putfield 76, 3) := by decide +kernel
theorem dX12_value_60 : decode cX12_value 60 = .ok (.iload 4, 2) := by decide +kernel
theorem dX12_value_62 : decode cX12_value 62 = .ok (.ireturn, 1) := by decide +kernel
theorem dX12_told_0 : decode cX12_told 0 = .ok (.aload_n 0, 1) := by decide +kernel
theorem dX12_told_1 : decode cX12_told 1 = .ok (.iload_n 1, 1) := by decide +kernel
theorem dX12_told_2 : decode cX12_told 2 = .ok (.invokevirtual 255, 3) := by decide +kernel
theorem dX12_told_5 : decode cX12_told 5 = .ok (.ifCond .eq 29, 3) := by decide +kernel
theorem dX12_told_8 : decode cX12_told 8 = .ok (.aload_n 0, 1) := by decide +kernel
theorem dX12_told_9 : decode cX12_told 9 = .ok (.iload_n 2, 1) := by decide +kernel
theorem dX12_told_10 : decode cX12_told 10 = .ok (.invokevirtual 255, 3) := by decide +kernel
theorem dX12_told_13 : decode cX12_told 13 = .ok (.ifCond .eq 21, 3) := by decide +kernel
theorem dX12_told_16 : decode cX12_told 16 = .ok (.aload_n 0, 1) := by decide +kernel
theorem dX12_told_17 : decode cX12_told 17 = .ok (.iload_n 1, 1) := by decide +kernel
theorem dX12_told_18 : decode cX12_told 18 = .ok (.invokevirtual 176, 3) := by decide +kernel
theorem dX12_told_21 : decode cX12_told 21 = .ok (.iconst (-1), 1) := by decide +kernel
theorem dX12_told_22 : decode cX12_told 22 = .ok (.if_icmp .eq 12, 3) := by decide +kernel
theorem dX12_told_25 : decode cX12_told 25 = .ok (.aload_n 0, 1) := by decide +kernel
theorem dX12_told_26 : decode cX12_told 26 = .ok (.iload_n 2, 1) := by decide +kernel
theorem dX12_told_27 : decode cX12_told 27 = .ok (.invokevirtual 188, 3) := by decide +kernel
theorem dX12_told_30 : decode cX12_told 30 = .ok (.iconst (-1), 1) := by decide +kernel
theorem dX12_told_31 : decode cX12_told 31 = .ok (.if_icmp .ne 6, 3) := by decide +kernel
theorem dX12_told_34 : decode cX12_told 34 = .ok (.bipush (-4), 2) := by decide +kernel
theorem dX12_told_36 : decode cX12_told 36 = .ok (.ireturn, 1) := by decide +kernel
theorem dX12_told_37 : decode cX12_told 37 = .ok (.aload_n 0, 1) := by decide +kernel
theorem dX12_told_38 : decode cX12_told 38 = .ok (.aload_n 0, 1) := by decide +kernel
theorem dX12_told_39 : decode cX12_told 39 = .ok (.iload_n 1, 1) := by decide +kernel
theorem dX12_told_40 : decode cX12_told 40 = .ok (.invokevirtual 176, 3) := by decide +kernel
theorem dX12_told_43 : decode cX12_told 43 = .ok (.aload_n 0, 1) := by decide +kernel
theorem dX12_told_44 : decode cX12_told 44 = .ok (.iload_n 2, 1) := by decide +kernel
theorem dX12_told_45 : decode cX12_told 45 = .ok (.invokevirtual 188, 3) := by decide +kernel
theorem dX12_told_48 : decode cX12_told 48 = .ok (.invokestatic 141, 3) := by decide +kernel
theorem dX12_told_51 : decode cX12_told 51 = .ok (.iconst 0, 1) := by decide +kernel
theorem dX12_told_52 : decode cX12_told 52 = .ok (.invokevirtual 264, 3) := by decide +kernel
theorem dX12_told_55 : decode cX12_told 55 = .ok (.ireturn, 1) := by decide +kernel
theorem dX12_digits_0 : decode cX12_digits 0 = .ok (.iload_n 1, 1) := by decide +kernel
theorem dX12_digits_1 : decode cX12_digits 1 = .ok (.ifCond .lt 19, 3) := by decide +kernel
theorem dX12_digits_4 : decode cX12_digits 4 = .ok (.iload_n 1, 1) := by decide +kernel
theorem dX12_digits_5 : decode cX12_digits 5 = .ok (.iconst 1, 1) := by decide +kernel
theorem dX12_digits_6 : decode cX12_digits 6 = .ok (.if_icmp .gt 14, 3) := by decide +kernel
theorem dX12_digits_9 : decode cX12_digits 9 = .ok (.iload_n 2, 1) := by decide +kernel
theorem dX12_digits_10 : decode cX12_digits 10 = .ok (.ifCond .lt 10, 3) := by decide +kernel
theorem dX12_digits_13 : decode cX12_digits 13 = .ok (.aload_n 0, 1) := by decide +kernel
theorem dX12_digits_14 : decode cX12_digits 14 = .ok (.getfield 260, 3) := by decide +kernel
theorem dX12_digits_17 : decode cX12_digits 17 = .ok (.ifCond .ne 5, 3) := by decide +kernel
theorem dX12_digits_20 : decode cX12_digits 20 = .ok (.iconst (-1), 1) := by decide +kernel
theorem dX12_digits_21 : decode cX12_digits 21 = .ok (.ireturn, 1) := by decide +kernel
theorem dX12_digits_22 : decode cX12_digits 22 = .ok (.ldc_w 258, 3) := by decide +kernel
theorem dX12_digits_25 : decode cX12_digits 25 = .ok (.sipush 300, 3) := by decide +kernel
theorem dX12_digits_28 : decode cX12_digits 28 = .ok (.iload_n 1, 1) := by decide +kernel
theorem dX12_digits_29 : decode cX12_digits 29 = .ok (.imul, 1) := by decide +kernel
theorem dX12_digits_30 : decode cX12_digits 30 = .ok (.iadd, 1) := by decide +kernel
theorem dX12_digits_31 : decode cX12_digits 31 = .ok (.istore_n 3, 1) := by decide +kernel
theorem dX12_digits_32 : decode cX12_digits 32 = .ok (.iload_n 2, 1) := by decide +kernel
theorem dX12_digits_33 : decode cX12_digits 33 = .ok (.aload_n 0, 1) := by decide +kernel
theorem dX12_digits_34 : decode cX12_digits 34 = .ok (.iload_n 3, 1) := by decide +kernel
theorem dX12_digits_35 : decode cX12_digits 35 = .ok (.invokevirtual 267, 3) := by decide +kernel
theorem dX12_digits_38 : decode cX12_digits 38 = .ok (.if_icmp .ge 16, 3) := by decide +kernel
theorem dX12_digits_41 : decode cX12_digits 41 = .ok (.aload_n 0, 1) := by decide +kernel
theorem dX12_digits_42 : decode cX12_digits 42 = .ok (.getfield 72, 3) := by decide +kernel
theorem dX12_digits_45 : decode cX12_digits 45 = .ok (.iload_n 3, 1) := by decide +kernel
theorem dX12_digits_46 : decode cX12_digits 46 = .ok (.iload_n 2, 1) := by decide +kernel
theorem dX12_digits_47 : decode cX12_digits 47 = .ok (.iadd, 1) := by decide +kernel
theorem dX12_digits_48 : decode cX12_digits 48 = .ok (.iconst 1, 1) := by decide +kernel
theorem dX12_digits_49 : decode cX12_digits 49 = .ok (.iadd, 1) := by decide +kernel
theorem dX12_digits_50 : decode cX12_digits 50 = .ok (.iaload, 1) := by decide +kernel
theorem dX12_digits_51 : decode cX12_digits 51 = .ok (.goto 4, 3) := by decide +kernel
theorem dX12_digits_54 : decode cX12_digits 54 = .ok (.iconst 0, 1) := by decide +kernel
theorem dX12_digits_55 : decode cX12_digits 55 = .ok (.ireturn, 1) := by decide +kernel
theorem dX12_witness_0 : decode cX12_witness 0 = .ok (.aload_n 0, 1) := by decide +kernel
theorem dX12_witness_1 : decode cX12_witness 1 = .ok (.getfield 96, 3) := by decide +kernel
theorem dX12_witness_4 : decode cX12_witness 4 = .ok (.iconst 2, 1) := by decide +kernel
theorem dX12_witness_5 : decode cX12_witness 5 = .ok (.if_icmp .eq 5, 3) := by decide +kernel
theorem dX12_witness_8 : decode cX12_witness 8 = .ok (.iconst (-1), 1) := by decide +kernel
theorem dX12_witness_9 : decode cX12_witness 9 = .ok (.ireturn, 1) := by decide +kernel
theorem dX12_witness_10 : decode cX12_witness 10 = .ok (.iconst 0, 1) := by decide +kernel
theorem dX12_witness_11 : decode cX12_witness 11 = .ok (.istore_n 1, 1) := by decide +kernel
theorem dX12_witness_12 : decode cX12_witness 12 = .ok (.iload_n 1, 1) := by decide +kernel
theorem dX12_witness_13 : decode cX12_witness 13 = .ok (.aload_n 0, 1) := by decide +kernel
theorem dX12_witness_14 : decode cX12_witness 14 = .ok (.getfield 120, 3) := by decide +kernel
theorem dX12_witness_17 : decode cX12_witness 17 = .ok (.if_icmp .ge 112, 3) := by decide +kernel
theorem dX12_witness_20 : decode cX12_witness 20 = .ok (.aload_n 0, 1) := by decide +kernel
theorem dX12_witness_21 : decode cX12_witness 21 = .ok (.getfield 76, 3) := by decide +kernel
theorem dX12_witness_24 : decode cX12_witness 24 = .ok (.istore_n 2, 1) := by decide +kernel
theorem dX12_witness_25 : decode cX12_witness 25 = .ok (.aload_n 0, 1) := by decide +kernel
theorem dX12_witness_26 : decode cX12_witness 26 = .ok (.iload_n 1, 1) := by decide +kernel
theorem dX12_witness_27 : decode cX12_witness 27 = .ok (.invokevirtual 176, 3) := by decide +kernel
theorem dX12_witness_30 : decode cX12_witness 30 = .ok (.istore_n 3, 1) := by decide +kernel
theorem dX12_witness_31 : decode cX12_witness 31 = .ok (.iload_n 3, 1) := by decide +kernel
theorem dX12_witness_32 : decode cX12_witness 32 = .ok (.iconst (-1), 1) := by decide +kernel
theorem dX12_witness_33 : decode cX12_witness 33 = .ok (.if_icmp .ne 14, 3) := by decide +kernel
theorem dX12_witness_36 : decode cX12_witness 36 = .ok (.aload_n 0, 1) := by decide +kernel
theorem dX12_witness_37 : decode cX12_witness 37 = .ok (.iload_n 1, 1) := by decide +kernel
theorem dX12_witness_38 : decode cX12_witness 38 = .ok (.invokestatic 144, 3) := by decide +kernel
theorem dX12_witness_41 : decode cX12_witness 41 = .ok (.invokevirtual 194, 3) := by decide +kernel
theorem dX12_witness_44 : decode cX12_witness 44 = .ok (.goto 8, 3) := by decide +kernel
theorem dX12_witness_47 : decode cX12_witness 47 = .ok (.aload_n 0, 1) := by decide +kernel
theorem dX12_witness_48 : decode cX12_witness 48 = .ok (.iload_n 3, 1) := by decide +kernel
theorem dX12_witness_49 : decode cX12_witness 49 = .ok (.invokevirtual 157, 3) := by decide +kernel
theorem dX12_witness_52 : decode cX12_witness 52 = .ok (.istore 4, 2) := by decide +kernel
theorem dX12_witness_54 : decode cX12_witness 54 = .ok (.iload_n 3, 1) := by decide +kernel
theorem dX12_witness_55 : decode cX12_witness 55 = .ok (.iconst (-1), 1) := by decide +kernel
theorem dX12_witness_56 : decode cX12_witness 56 = .ok (.if_icmp .ne 11, 3) := by decide +kernel
theorem dX12_witness_59 : decode cX12_witness 59 = .ok (.aload_n 0, 1) := by decide +kernel
theorem dX12_witness_60 : decode cX12_witness 60 = .ok (.lconst 1, 1) := by decide +kernel
theorem dX12_witness_61 : decode cX12_witness 61 = .ok (.invokevirtual 88, 3) := by decide +kernel
theorem dX12_witness_64 : decode cX12_witness 64 = .ok (.goto 8, 3) := by decide +kernel
theorem dX12_witness_67 : decode cX12_witness 67 = .ok (.aload_n 0, 1) := by decide +kernel
theorem dX12_witness_68 : decode cX12_witness 68 = .ok (.iconst 0, 1) := by decide +kernel
theorem dX12_witness_69 : decode cX12_witness 69 = .ok (.invokevirtual 194, 3) := by decide +kernel
theorem dX12_witness_72 : decode cX12_witness 72 = .ok (.istore 5, 2) := by decide +kernel
theorem dX12_witness_74 : decode cX12_witness 74 = .ok (.aload_n 0, 1) := by decide +kernel
theorem dX12_witness_75 : decode cX12_witness 75 = .ok (.iload 4, 2) := by decide +kernel
theorem dX12_witness_77 : decode cX12_witness 77 = .ok (.iload 5, 2) := by decide +kernel
theorem dX12_witness_79 : decode cX12_witness 79 = .ok (.invokevirtual 206, 3) := by decide +kernel
theorem dX12_witness_82 : decode cX12_witness 82 = .ok (.istore 6, 2) := by decide +kernel
theorem dX12_witness_84 : decode cX12_witness 84 = .ok (.aload_n 0, 1) := by decide +kernel
theorem dX12_witness_85 : decode cX12_witness 85 = .ok (.aload_n 0, 1) := by decide +kernel
theorem dX12_witness_86 : decode cX12_witness 86 = .ok (.iload 4, 2) := by decide +kernel
theorem dX12_witness_88 : decode cX12_witness 88 = .ok (.iload 6, 2) := by decide +kernel
theorem dX12_witness_90 : decode cX12_witness 90 = .ok (.invokevirtual 200, 3) := by decide +kernel
theorem dX12_witness_93 : decode cX12_witness 93 = .ok (.iload_n 1, 1) := by decide +kernel
theorem dX12_witness_94 : decode cX12_witness 94 = .ok (.iconst 0, 1) := by decide +kernel
theorem dX12_witness_95 : decode cX12_witness 95 = .ok (.invokestatic 80, 3) := by decide +kernel
theorem dX12_witness_98 : decode cX12_witness 98 = .ok (.invokevirtual 92, 3) := by decide +kernel
theorem dX12_witness_101 : decode cX12_witness 101 = .ok (.aload_n 0, 1) := by decide +kernel
theorem dX12_witness_102 : decode cX12_witness 102 = .ok (.aload_n 0, 1) := by decide +kernel
theorem dX12_witness_103 : decode cX12_witness 103 = .ok (.iload 5, 2) := by decide +kernel
theorem dX12_witness_105 : decode cX12_witness 105 = .ok (.iload 6, 2) := by decide +kernel
theorem dX12_witness_107 : decode cX12_witness 107 = .ok (.invokevirtual 200, 3) := by decide +kernel
theorem dX12_witness_110 : decode cX12_witness 110 = .ok (.iload_n 1, 1) := by decide +kernel
theorem dX12_witness_111 : decode cX12_witness 111 = .ok (.iconst 1, 1) := by decide +kernel
theorem dX12_witness_112 : decode cX12_witness 112 = .ok (.invokestatic 80, 3) := by decide +kernel
theorem dX12_witness_115 : decode cX12_witness 115 = .ok (.invokevirtual 92, 3) := by decide +kernel
theorem dX12_witness_118 : decode cX12_witness 118 = .ok (.aload_n 0, 1) := by decide +kernel
theorem dX12_witness_119 : decode cX12_witness 119 = .ok (.iload_n 2, 1) := by decide +kernel
theorem dX12_witness_120 : decode cX12_witness 120 = .ok (.putfield 76, 3) := by decide +kernel
theorem dX12_witness_123 : decode cX12_witness 123 = .ok (.iinc 1 1, 3) := by decide +kernel
theorem dX12_witness_126 : decode cX12_witness 126 = .ok (.goto (-114), 3) := by decide +kernel
theorem dX12_witness_129 : decode cX12_witness 129 = .ok (.iconst 0, 1) := by decide +kernel
theorem dX12_witness_130 : decode cX12_witness 130 = .ok (.ireturn, 1) := by decide +kernel
theorem dX12_isFraction_0 : decode cX12_isFraction 0 = .ok (.iload_n 1, 1) := by decide +kernel
theorem dX12_isFraction_1 : decode cX12_isFraction 1 = .ok (.iconst 1, 1) := by decide +kernel
theorem dX12_isFraction_2 : decode cX12_isFraction 2 = .ok (.if_icmp .lt 24, 3) := by decide +kernel
theorem dX12_isFraction_5 : decode cX12_isFraction 5 = .ok (.iload_n 1, 1) := by decide +kernel
theorem dX12_isFraction_6 : decode cX12_isFraction 6 = .ok (.ldc_w 270, 3) := by decide +kernel
theorem dX12_isFraction_9 : decode cX12_isFraction 9 = .ok (.if_icmp .gt 17, 3) := by decide +kernel
theorem dX12_isFraction_12 : decode cX12_isFraction 12 = .ok (.iload_n 0, 1) := by decide +kernel
theorem dX12_isFraction_13 : decode cX12_isFraction 13 = .ok (.ldc_w 270, 3) := by decide +kernel
theorem dX12_isFraction_16 : decode cX12_isFraction 16 = .ok (.invokestatic 134, 3) := by decide +kernel
theorem dX12_isFraction_19 : decode cX12_isFraction 19 = .ok (.ifCond .eq 7, 3) := by decide +kernel
theorem dX12_isFraction_22 : decode cX12_isFraction 22 = .ok (.iconst 1, 1) := by decide +kernel
theorem dX12_isFraction_23 : decode cX12_isFraction 23 = .ok (.goto 4, 3) := by decide +kernel
theorem dX12_isFraction_26 : decode cX12_isFraction 26 = .ok (.iconst 0, 1) := by decide +kernel
theorem dX12_isFraction_27 : decode cX12_isFraction 27 = .ok (.ireturn, 1) := by decide +kernel
theorem dX12_setWitness_0 : decode cX12_setWitness 0 = .ok (.aload_n 0, 1) := by decide +kernel
theorem dX12_setWitness_1 : decode cX12_setWitness 1 = .ok (.iload_n 1, 1) := by decide +kernel
theorem dX12_setWitness_2 : decode cX12_setWitness 2 = .ok (.invokevirtual 129, 3) := by decide +kernel
theorem dX12_setWitness_5 : decode cX12_setWitness 5 = .ok (.ifCond .eq 11, 3) := by decide +kernel
theorem dX12_setWitness_8 : decode cX12_setWitness 8 = .ok (.iload_n 2, 1) := by decide +kernel
theorem dX12_setWitness_9 : decode cX12_setWitness 9 = .ok (.iload_n 3, 1) := by decide +kernel
theorem dX12_setWitness_10 : decode cX12_setWitness 10 = .ok (.invokestatic 271, 3) := by decide +kernel
theorem dX12_setWitness_13 : decode cX12_setWitness 13 = .ok (.ifCond .ne 5, 3) := by decide +kernel
theorem dX12_setWitness_16 : decode cX12_setWitness 16 = .ok (.iconst (-1), 1) := by decide +kernel
theorem dX12_setWitness_17 : decode cX12_setWitness 17 = .ok (.ireturn, 1) := by decide +kernel
theorem dX12_setWitness_18 : decode cX12_setWitness 18 = .ok (.aload_n 0, 1) := by decide +kernel
theorem dX12_setWitness_19 : decode cX12_setWitness 19 = .ok (.iload_n 1, 1) := by decide +kernel
theorem dX12_setWitness_20 : decode cX12_setWitness 20 = .ok (.iconst 0, 1) := by decide +kernel
theorem dX12_setWitness_21 : decode cX12_setWitness 21 = .ok (.invokestatic 80, 3) := by decide +kernel
theorem dX12_setWitness_24 : decode cX12_setWitness 24 = .ok (.iload_n 2, 1) := by decide +kernel
theorem dX12_setWitness_25 : decode cX12_setWitness 25 = .ok (.i2l, 1) := by decide +kernel
theorem dX12_setWitness_26 : decode cX12_setWitness 26 = .ok (.invokevirtual 84, 3) := by decide +kernel
theorem dX12_setWitness_29 : decode cX12_setWitness 29 = .ok (.aload_n 0, 1) := by decide +kernel
theorem dX12_setWitness_30 : decode cX12_setWitness 30 = .ok (.iload_n 1, 1) := by decide +kernel
theorem dX12_setWitness_31 : decode cX12_setWitness 31 = .ok (.iconst 1, 1) := by decide +kernel
theorem dX12_setWitness_32 : decode cX12_setWitness 32 = .ok (.invokestatic 80, 3) := by decide +kernel
theorem dX12_setWitness_35 : decode cX12_setWitness 35 = .ok (.iload_n 3, 1) := by decide +kernel
theorem dX12_setWitness_36 : decode cX12_setWitness 36 = .ok (.i2l, 1) := by decide +kernel
theorem dX12_setWitness_37 : decode cX12_setWitness 37 = .ok (.invokevirtual 84, 3) := by decide +kernel
theorem dX12_setWitness_40 : decode cX12_setWitness 40 = .ok (.iconst 0, 1) := by decide +kernel
theorem dX12_setWitness_41 : decode cX12_setWitness 41 = .ok (.ireturn, 1) := by decide +kernel
theorem dX12_beginSum_0 : decode cX12_beginSum 0 = .ok (.aload_n 0, 1) := by decide +kernel
theorem dX12_beginSum_1 : decode cX12_beginSum 1 = .ok (.aload_n 0, 1) := by decide +kernel
theorem dX12_beginSum_2 : decode cX12_beginSum 2 = .ok (.lconst 0, 1) := by decide +kernel
theorem dX12_beginSum_3 : decode cX12_beginSum 3 = .ok (.invokevirtual 88, 3) := by decide +kernel
theorem dX12_beginSum_6 : decode cX12_beginSum 6 = .ok (.putfield 274, 3) := by decide +kernel
theorem dX12_beginSum_9 : decode cX12_beginSum 9 = .ok (.aload_n 0, 1) := by decide +kernel
theorem dX12_beginSum_10 : decode cX12_beginSum 10 = .ok (.aload_n 0, 1) := by decide +kernel
theorem dX12_beginSum_11 : decode cX12_beginSum 11 = .ok (.lconst 1, 1) := by decide +kernel
theorem dX12_beginSum_12 : decode cX12_beginSum 12 = .ok (.invokevirtual 88, 3) := by decide +kernel
theorem dX12_beginSum_15 : decode cX12_beginSum 15 = .ok (.putfield 277, 3) := by decide +kernel
theorem dX12_beginSum_18 : decode cX12_beginSum 18 = .ok (.return_, 1) := by decide +kernel
theorem dX12_addTo_0 : decode cX12_addTo 0 = .ok (.aload_n 0, 1) := by decide +kernel
theorem dX12_addTo_1 : decode cX12_addTo 1 = .ok (.aload_n 0, 1) := by decide +kernel
theorem dX12_addTo_2 : decode cX12_addTo 2 = .ok (.aload_n 0, 1) := by decide +kernel
theorem dX12_addTo_3 : decode cX12_addTo 3 = .ok (.getfield 274, 3) := by decide +kernel
theorem dX12_addTo_6 : decode cX12_addTo 6 = .ok (.iload_n 3, 1) := by decide +kernel
theorem dX12_addTo_7 : decode cX12_addTo 7 = .ok (.invokevirtual 148, 3) := by decide +kernel
theorem dX12_addTo_10 : decode cX12_addTo 10 = .ok (.aload_n 0, 1) := by decide +kernel
theorem dX12_addTo_11 : decode cX12_addTo 11 = .ok (.aload_n 0, 1) := by decide +kernel
theorem dX12_addTo_12 : decode cX12_addTo 12 = .ok (.iload_n 1, 1) := by decide +kernel
theorem dX12_addTo_13 : decode cX12_addTo 13 = .ok (.iload_n 2, 1) := by decide +kernel
theorem dX12_addTo_14 : decode cX12_addTo 14 = .ok (.invokevirtual 148, 3) := by decide +kernel
theorem dX12_addTo_17 : decode cX12_addTo 17 = .ok (.aload_n 0, 1) := by decide +kernel
theorem dX12_addTo_18 : decode cX12_addTo 18 = .ok (.getfield 277, 3) := by decide +kernel
theorem dX12_addTo_21 : decode cX12_addTo 21 = .ok (.invokevirtual 148, 3) := by decide +kernel
theorem dX12_addTo_24 : decode cX12_addTo 24 = .ok (.invokevirtual 151, 3) := by decide +kernel
theorem dX12_addTo_27 : decode cX12_addTo 27 = .ok (.istore 4, 2) := by decide +kernel
theorem dX12_addTo_29 : decode cX12_addTo 29 = .ok (.aload_n 0, 1) := by decide +kernel
theorem dX12_addTo_30 : decode cX12_addTo 30 = .ok (.aload_n 0, 1) := by decide +kernel
theorem dX12_addTo_31 : decode cX12_addTo 31 = .ok (.getfield 277, 3) := by decide +kernel
theorem dX12_addTo_34 : decode cX12_addTo 34 = .ok (.iload_n 3, 1) := by decide +kernel
theorem dX12_addTo_35 : decode cX12_addTo 35 = .ok (.invokevirtual 148, 3) := by decide +kernel
theorem dX12_addTo_38 : decode cX12_addTo 38 = .ok (.istore 5, 2) := by decide +kernel
theorem dX12_addTo_40 : decode cX12_addTo 40 = .ok (.aload_n 0, 1) := by decide +kernel
theorem dX12_addTo_41 : decode cX12_addTo 41 = .ok (.iload 4, 2) := by decide +kernel
theorem dX12_addTo_43 : decode cX12_addTo 43 = .ok (.iload 5, 2) := by decide +kernel
theorem dX12_addTo_45 : decode cX12_addTo 45 = .ok (.invokevirtual 206, 3) := by decide +kernel
theorem dX12_addTo_48 : decode cX12_addTo 48 = .ok (.istore 6, 2) := by decide +kernel
theorem dX12_addTo_50 : decode cX12_addTo 50 = .ok (.aload_n 0, 1) := by decide +kernel
theorem dX12_addTo_51 : decode cX12_addTo 51 = .ok (.aload_n 0, 1) := by decide +kernel
theorem dX12_addTo_52 : decode cX12_addTo 52 = .ok (.iload 4, 2) := by decide +kernel
theorem dX12_addTo_54 : decode cX12_addTo 54 = .ok (.iload 6, 2) := by decide +kernel
theorem dX12_addTo_56 : decode cX12_addTo 56 = .ok (.invokevirtual 200, 3) := by decide +kernel
theorem dX12_addTo_59 : decode cX12_addTo 59 = .ok (.putfield 274, 3) := by decide +kernel
theorem dX12_addTo_62 : decode cX12_addTo 62 = .ok (.aload_n 0, 1) := by decide +kernel
theorem dX12_addTo_63 : decode cX12_addTo 63 = .ok (.aload_n 0, 1) := by decide +kernel
theorem dX12_addTo_64 : decode cX12_addTo 64 = .ok (.iload 5, 2) := by decide +kernel
theorem dX12_addTo_66 : decode cX12_addTo 66 = .ok (.iload 6, 2) := by decide +kernel
theorem dX12_addTo_68 : decode cX12_addTo 68 = .ok (.invokevirtual 200, 3) := by decide +kernel
theorem dX12_addTo_71 : decode cX12_addTo 71 = .ok (.putfield 277, 3) := by decide +kernel
theorem dX12_addTo_74 : decode cX12_addTo 74 = .ok (.return_, 1) := by decide +kernel
theorem dX12_holds_0 : decode cX12_holds 0 = .ok (.aload_n 0, 1) := by decide +kernel
theorem dX12_holds_1 : decode cX12_holds 1 = .ok (.getfield 76, 3) := by decide +kernel
theorem dX12_holds_4 : decode cX12_holds 4 = .ok (.istore_n 2, 1) := by decide +kernel
theorem dX12_holds_5 : decode cX12_holds 5 = .ok (.aload_n 0, 1) := by decide +kernel
theorem dX12_holds_6 : decode cX12_holds 6 = .ok (.invokevirtual 280, 3) := by decide +kernel
theorem dX12_holds_9 : decode cX12_holds 9 = .ok (.iconst 0, 1) := by decide +kernel
theorem dX12_holds_10 : decode cX12_holds 10 = .ok (.istore_n 3, 1) := by decide +kernel
theorem dX12_holds_11 : decode cX12_holds 11 = .ok (.iload_n 3, 1) := by decide +kernel
theorem dX12_holds_12 : decode cX12_holds 12 = .ok (.aload_n 0, 1) := by decide +kernel
theorem dX12_holds_13 : decode cX12_holds 13 = .ok (.getfield 120, 3) := by decide +kernel
theorem dX12_holds_16 : decode cX12_holds 16 = .ok (.if_icmp .ge 39, 3) := by decide +kernel
theorem dX12_holds_19 : decode cX12_holds 19 = .ok (.aload_n 0, 1) := by decide +kernel
theorem dX12_holds_20 : decode cX12_holds 20 = .ok (.aload_n 0, 1) := by decide +kernel
theorem dX12_holds_21 : decode cX12_holds 21 = .ok (.aload_n 0, 1) := by decide +kernel
theorem dX12_holds_22 : decode cX12_holds 22 = .ok (.getfield 12, 3) := by decide +kernel
theorem dX12_holds_25 : decode cX12_holds 25 = .ok (.bipush 10, 2) := by decide +kernel
theorem dX12_holds_27 : decode cX12_holds 27 = .ok (.iload_n 1, 1) := by decide +kernel
theorem dX12_holds_28 : decode cX12_holds 28 = .ok (.imul, 1) := by decide +kernel
theorem dX12_holds_29 : decode cX12_holds 29 = .ok (.iload_n 3, 1) := by decide +kernel
theorem dX12_holds_30 : decode cX12_holds 30 = .ok (.iadd, 1) := by decide +kernel
theorem dX12_holds_31 : decode cX12_holds 31 = .ok (.iaload, 1) := by decide +kernel
theorem dX12_holds_32 : decode cX12_holds 32 = .ok (.i2l, 1) := by decide +kernel
theorem dX12_holds_33 : decode cX12_holds 33 = .ok (.invokevirtual 88, 3) := by decide +kernel
theorem dX12_holds_36 : decode cX12_holds 36 = .ok (.iload_n 3, 1) := by decide +kernel
theorem dX12_holds_37 : decode cX12_holds 37 = .ok (.iconst 0, 1) := by decide +kernel
theorem dX12_holds_38 : decode cX12_holds 38 = .ok (.invokestatic 80, 3) := by decide +kernel
theorem dX12_holds_41 : decode cX12_holds 41 = .ok (.iload_n 3, 1) := by decide +kernel
theorem dX12_holds_42 : decode cX12_holds 42 = .ok (.iconst 1, 1) := by decide +kernel
theorem dX12_holds_43 : decode cX12_holds 43 = .ok (.invokestatic 80, 3) := by decide +kernel
theorem dX12_holds_46 : decode cX12_holds 46 = .ok (.invokevirtual 283, 3) := by decide +kernel
theorem dX12_holds_49 : decode cX12_holds 49 = .ok (.iinc 3 1, 3) := by decide +kernel
theorem dX12_holds_52 : decode cX12_holds 52 = .ok (.goto (-41), 3) := by decide +kernel
theorem dX12_holds_55 : decode cX12_holds 55 = .ok (.aload_n 0, 1) := by decide +kernel
theorem dX12_holds_56 : decode cX12_holds 56 = .ok (.aload_n 0, 1) := by decide +kernel
theorem dX12_holds_57 : decode cX12_holds 57 = .ok (.getfield 274, 3) := by decide +kernel
theorem dX12_holds_60 : decode cX12_holds 60 = .ok (.aload_n 0, 1) := by decide +kernel
theorem dX12_holds_61 : decode cX12_holds 61 = .ok (.aload_n 0, 1) := by decide +kernel
theorem dX12_holds_62 : decode cX12_holds 62 = .ok (.aload_n 0, 1) := by decide +kernel
theorem dX12_holds_63 : decode cX12_holds 63 = .ok (.getfield 19, 3) := by decide +kernel
theorem dX12_holds_66 : decode cX12_holds 66 = .ok (.iload_n 1, 1) := by decide +kernel
theorem dX12_holds_67 : decode cX12_holds 67 = .ok (.iaload, 1) := by decide +kernel
theorem dX12_holds_68 : decode cX12_holds 68 = .ok (.i2l, 1) := by decide +kernel
theorem dX12_holds_69 : decode cX12_holds 69 = .ok (.invokevirtual 88, 3) := by decide +kernel
theorem dX12_holds_72 : decode cX12_holds 72 = .ok (.aload_n 0, 1) := by decide +kernel
theorem dX12_holds_73 : decode cX12_holds 73 = .ok (.getfield 277, 3) := by decide +kernel
theorem dX12_holds_76 : decode cX12_holds 76 = .ok (.invokevirtual 148, 3) := by decide +kernel
theorem dX12_holds_79 : decode cX12_holds 79 = .ok (.invokevirtual 163, 3) := by decide +kernel
theorem dX12_holds_82 : decode cX12_holds 82 = .ok (.istore_n 3, 1) := by decide +kernel
theorem dX12_holds_83 : decode cX12_holds 83 = .ok (.aload_n 0, 1) := by decide +kernel
theorem dX12_holds_84 : decode cX12_holds 84 = .ok (.iload_n 2, 1) := by decide +kernel
theorem dX12_holds_85 : decode cX12_holds 85 = .ok (.putfield 76, 3) := by decide +kernel
theorem dX12_holds_88 : decode cX12_holds 88 = .ok (.aload_n 0, 1) := by decide +kernel
theorem dX12_holds_89 : decode cX12_holds 89 = .ok (.getfield 16, 3) := by decide +kernel
theorem dX12_holds_92 : decode cX12_holds 92 = .ok (.iload_n 1, 1) := by decide +kernel
theorem dX12_holds_93 : decode cX12_holds 93 = .ok (.iaload, 1) := by decide +kernel
theorem dX12_holds_94 : decode cX12_holds 94 = .ok (.ifCond .ne 15, 3) := by decide +kernel
theorem dX12_holds_97 : decode cX12_holds 97 = .ok (.iload_n 3, 1) := by decide +kernel
theorem dX12_holds_98 : decode cX12_holds 98 = .ok (.ifCond .gt 7, 3) := by decide +kernel
theorem dX12_holds_101 : decode cX12_holds 101 = .ok (.iconst 1, 1) := by decide +kernel
theorem dX12_holds_102 : decode cX12_holds 102 = .ok (.goto 38, 3) := by decide +kernel
theorem dX12_holds_105 : decode cX12_holds 105 = .ok (.iconst 0, 1) := by decide +kernel
theorem dX12_holds_106 : decode cX12_holds 106 = .ok (.goto 34, 3) := by decide +kernel
theorem dX12_holds_109 : decode cX12_holds 109 = .ok (.aload_n 0, 1) := by decide +kernel
theorem dX12_holds_110 : decode cX12_holds 110 = .ok (.getfield 16, 3) := by decide +kernel
theorem dX12_holds_113 : decode cX12_holds 113 = .ok (.iload_n 1, 1) := by decide +kernel
theorem dX12_holds_114 : decode cX12_holds 114 = .ok (.iaload, 1) := by decide +kernel
theorem dX12_holds_115 : decode cX12_holds 115 = .ok (.iconst 1, 1) := by decide +kernel
theorem dX12_holds_116 : decode cX12_holds 116 = .ok (.if_icmp .ne 15, 3) := by decide +kernel
theorem dX12_holds_119 : decode cX12_holds 119 = .ok (.iload_n 3, 1) := by decide +kernel
theorem dX12_holds_120 : decode cX12_holds 120 = .ok (.ifCond .lt 7, 3) := by decide +kernel
theorem dX12_holds_123 : decode cX12_holds 123 = .ok (.iconst 1, 1) := by decide +kernel
theorem dX12_holds_124 : decode cX12_holds 124 = .ok (.goto 16, 3) := by decide +kernel
theorem dX12_holds_127 : decode cX12_holds 127 = .ok (.iconst 0, 1) := by decide +kernel
theorem dX12_holds_128 : decode cX12_holds 128 = .ok (.goto 12, 3) := by decide +kernel
theorem dX12_holds_131 : decode cX12_holds 131 = .ok (.iload_n 3, 1) := by decide +kernel
theorem dX12_holds_132 : decode cX12_holds 132 = .ok (.ifCond .ne 7, 3) := by decide +kernel
theorem dX12_holds_135 : decode cX12_holds 135 = .ok (.iconst 1, 1) := by decide +kernel
theorem dX12_holds_136 : decode cX12_holds 136 = .ok (.goto 4, 3) := by decide +kernel
theorem dX12_holds_139 : decode cX12_holds 139 = .ok (.iconst 0, 1) := by decide +kernel
theorem dX12_holds_140 : decode cX12_holds 140 = .ok (.ireturn, 1) := by decide +kernel
theorem dX12_judgeWitness_0 : decode cX12_judgeWitness 0 = .ok (.aload_n 0, 1) := by decide +kernel
theorem dX12_judgeWitness_1 : decode cX12_judgeWitness 1 = .ok (.getfield 120, 3) := by decide +kernel
theorem dX12_judgeWitness_4 : decode cX12_judgeWitness 4 = .ok (.ifCond .ne 5, 3) := by decide +kernel
theorem dX12_judgeWitness_7 : decode cX12_judgeWitness 7 = .ok (.iconst (-1), 1) := by decide +kernel
theorem dX12_judgeWitness_8 : decode cX12_judgeWitness 8 = .ok (.ireturn, 1) := by decide +kernel
theorem dX12_judgeWitness_9 : decode cX12_judgeWitness 9 = .ok (.iconst 0, 1) := by decide +kernel
theorem dX12_judgeWitness_10 : decode cX12_judgeWitness 10 = .ok (.istore_n 1, 1) := by decide +kernel
theorem dX12_judgeWitness_11 : decode cX12_judgeWitness 11 = .ok (.iload_n 1, 1) := by decide +kernel
theorem dX12_judgeWitness_12 : decode cX12_judgeWitness 12 = .ok (.aload_n 0, 1) := by decide +kernel
theorem dX12_judgeWitness_13 : decode cX12_judgeWitness 13 = .ok (.getfield 123, 3) := by decide +kernel
theorem dX12_judgeWitness_16 : decode cX12_judgeWitness 16 = .ok (.if_icmp .ge 21, 3) := by decide +kernel
theorem dX12_judgeWitness_19 : decode cX12_judgeWitness 19 = .ok (.aload_n 0, 1) := by decide +kernel
theorem dX12_judgeWitness_20 : decode cX12_judgeWitness 20 = .ok (.iload_n 1, 1) := by decide +kernel
theorem dX12_judgeWitness_21 : decode cX12_judgeWitness 21 = .ok (.invokevirtual 286, 3) := by decide +kernel
theorem dX12_judgeWitness_24 : decode cX12_judgeWitness 24 = .ok (.ifCond .ne 7, 3) := by decide +kernel
theorem dX12_judgeWitness_27 : decode cX12_judgeWitness 27 = .ok (.iconst 1, 1) := by decide +kernel
theorem dX12_judgeWitness_28 : decode cX12_judgeWitness 28 = .ok (.iload_n 1, 1) := by decide +kernel
theorem dX12_judgeWitness_29 : decode cX12_judgeWitness 29 = .ok (.iadd, 1) := by decide +kernel
theorem dX12_judgeWitness_30 : decode cX12_judgeWitness 30 = .ok (.ireturn, 1) := by decide +kernel
theorem dX12_judgeWitness_31 : decode cX12_judgeWitness 31 = .ok (.iinc 1 1, 3) := by decide +kernel
theorem dX12_judgeWitness_34 : decode cX12_judgeWitness 34 = .ok (.goto (-23), 3) := by decide +kernel
theorem dX12_judgeWitness_37 : decode cX12_judgeWitness 37 = .ok (.iconst 0, 1) := by decide +kernel
theorem dX12_judgeWitness_38 : decode cX12_judgeWitness 38 = .ok (.istore_n 1, 1) := by decide +kernel
theorem dX12_judgeWitness_39 : decode cX12_judgeWitness 39 = .ok (.iload_n 1, 1) := by decide +kernel
theorem dX12_judgeWitness_40 : decode cX12_judgeWitness 40 = .ok (.aload_n 0, 1) := by decide +kernel
theorem dX12_judgeWitness_41 : decode cX12_judgeWitness 41 = .ok (.getfield 120, 3) := by decide +kernel
theorem dX12_judgeWitness_44 : decode cX12_judgeWitness 44 = .ok (.if_icmp .ge 79, 3) := by decide +kernel
theorem dX12_judgeWitness_47 : decode cX12_judgeWitness 47 = .ok (.aload_n 0, 1) := by decide +kernel
theorem dX12_judgeWitness_48 : decode cX12_judgeWitness 48 = .ok (.getfield 76, 3) := by decide +kernel
theorem dX12_judgeWitness_51 : decode cX12_judgeWitness 51 = .ok (.istore_n 2, 1) := by decide +kernel
theorem dX12_judgeWitness_52 : decode cX12_judgeWitness 52 = .ok (.iload_n 1, 1) := by decide +kernel
theorem dX12_judgeWitness_53 : decode cX12_judgeWitness 53 = .ok (.iconst 0, 1) := by decide +kernel
theorem dX12_judgeWitness_54 : decode cX12_judgeWitness 54 = .ok (.invokestatic 80, 3) := by decide +kernel
theorem dX12_judgeWitness_57 : decode cX12_judgeWitness 57 = .ok (.istore_n 3, 1) := by decide +kernel
theorem dX12_judgeWitness_58 : decode cX12_judgeWitness 58 = .ok (.iload_n 1, 1) := by decide +kernel
theorem dX12_judgeWitness_59 : decode cX12_judgeWitness 59 = .ok (.iconst 1, 1) := by decide +kernel
theorem dX12_judgeWitness_60 : decode cX12_judgeWitness 60 = .ok (.invokestatic 80, 3) := by decide +kernel
theorem dX12_judgeWitness_63 : decode cX12_judgeWitness 63 = .ok (.istore 4, 2) := by decide +kernel
theorem dX12_judgeWitness_65 : decode cX12_judgeWitness 65 = .ok (.aload_n 0, 1) := by decide +kernel
theorem dX12_judgeWitness_66 : decode cX12_judgeWitness 66 = .ok (.aload_n 0, 1) := by decide +kernel
theorem dX12_judgeWitness_67 : decode cX12_judgeWitness 67 = .ok (.aload_n 0, 1) := by decide +kernel
theorem dX12_judgeWitness_68 : decode cX12_judgeWitness 68 = .ok (.iload_n 3, 1) := by decide +kernel
theorem dX12_judgeWitness_69 : decode cX12_judgeWitness 69 = .ok (.iload 4, 2) := by decide +kernel
theorem dX12_judgeWitness_71 : decode cX12_judgeWitness 71 = .ok (.invokevirtual 200, 3) := by decide +kernel
theorem dX12_judgeWitness_74 : decode cX12_judgeWitness 74 = .ok (.iload 4, 2) := by decide +kernel
theorem dX12_judgeWitness_76 : decode cX12_judgeWitness 76 = .ok (.invokevirtual 148, 3) := by decide +kernel
theorem dX12_judgeWitness_79 : decode cX12_judgeWitness 79 = .ok (.iload_n 3, 1) := by decide +kernel
theorem dX12_judgeWitness_80 : decode cX12_judgeWitness 80 = .ok (.invokevirtual 163, 3) := by decide +kernel
theorem dX12_judgeWitness_83 : decode cX12_judgeWitness 83 = .ok (.ifCond .ne 7, 3) := by decide +kernel
theorem dX12_judgeWitness_86 : decode cX12_judgeWitness 86 = .ok (.iconst 1, 1) := by decide +kernel
theorem dX12_judgeWitness_87 : decode cX12_judgeWitness 87 = .ok (.goto 4, 3) := by decide +kernel
theorem dX12_judgeWitness_90 : decode cX12_judgeWitness 90 = .ok (.iconst 0, 1) := by decide +kernel
theorem dX12_judgeWitness_91 : decode cX12_judgeWitness 91 = .ok (.istore 5, 2) := by decide +kernel
theorem dX12_judgeWitness_93 : decode cX12_judgeWitness 93 = .ok (.aload_n 0, 1) := by decide +kernel
theorem dX12_judgeWitness_94 : decode cX12_judgeWitness 94 = .ok (.iload_n 2, 1) := by decide +kernel
theorem dX12_judgeWitness_95 : decode cX12_judgeWitness 95 = .ok (.putfield 76, 3) := by decide +kernel
theorem dX12_judgeWitness_98 : decode cX12_judgeWitness 98 = .ok (.aload_n 0, 1) := by decide +kernel
theorem dX12_judgeWitness_99 : decode cX12_judgeWitness 99 = .ok (.getfield 25, 3) := by decide +kernel
theorem dX12_judgeWitness_102 : decode cX12_judgeWitness 102 = .ok (.iload_n 1, 1) := by decide +kernel
theorem dX12_judgeWitness_103 : decode cX12_judgeWitness 103 = .ok (.baload, 1) := by decide +kernel
theorem dX12_judgeWitness_104 : decode cX12_judgeWitness 104 = .ok (.ifCond .eq 13, 3) := by decide +kernel
theorem dX12_judgeWitness_107 : decode cX12_judgeWitness 107 = .ok (.iload 5, 2) := by decide +kernel
theorem dX12_judgeWitness_109 : decode cX12_judgeWitness 109 = .ok (.ifCond .ne 8, 3) := by decide +kernel
theorem dX12_judgeWitness_112 : decode cX12_judgeWitness 112 = .ok (.bipush 100, 2) := by decide +kernel
theorem dX12_judgeWitness_114 : decode cX12_judgeWitness 114 = .ok (.iload_n 1, 1) := by decide +kernel
theorem dX12_judgeWitness_115 : decode cX12_judgeWitness 115 = .ok (.iadd, 1) := by decide +kernel
theorem dX12_judgeWitness_116 : decode cX12_judgeWitness 116 = .ok (.ireturn, 1) := by decide +kernel
theorem dX12_judgeWitness_117 : decode cX12_judgeWitness 117 = .ok (.iinc 1 1, 3) := by decide +kernel
theorem dX12_judgeWitness_120 : decode cX12_judgeWitness 120 = .ok (.goto (-81), 3) := by decide +kernel
theorem dX12_judgeWitness_123 : decode cX12_judgeWitness 123 = .ok (.iconst 0, 1) := by decide +kernel
theorem dX12_judgeWitness_124 : decode cX12_judgeWitness 124 = .ok (.ireturn, 1) := by decide +kernel
theorem dX12_isNode_0 : decode cX12_isNode 0 = .ok (.iload_n 1, 1) := by decide +kernel
theorem dX12_isNode_1 : decode cX12_isNode 1 = .ok (.ifCond .lt 15, 3) := by decide +kernel
theorem dX12_isNode_4 : decode cX12_isNode 4 = .ok (.iload_n 1, 1) := by decide +kernel
theorem dX12_isNode_5 : decode cX12_isNode 5 = .ok (.aload_n 0, 1) := by decide +kernel
theorem dX12_isNode_6 : decode cX12_isNode 6 = .ok (.getfield 111, 3) := by decide +kernel
theorem dX12_isNode_9 : decode cX12_isNode 9 = .ok (.if_icmp .ge 7, 3) := by decide +kernel
theorem dX12_isNode_12 : decode cX12_isNode 12 = .ok (.iconst 1, 1) := by decide +kernel
theorem dX12_isNode_13 : decode cX12_isNode 13 = .ok (.goto 4, 3) := by decide +kernel
theorem dX12_isNode_16 : decode cX12_isNode 16 = .ok (.iconst 0, 1) := by decide +kernel
theorem dX12_isNode_17 : decode cX12_isNode 17 = .ok (.ireturn, 1) := by decide +kernel
theorem dX12_cut_0 : decode cX12_cut 0 = .ok (.aload_n 0, 1) := by decide +kernel
theorem dX12_cut_1 : decode cX12_cut 1 = .ok (.iload_n 1, 1) := by decide +kernel
theorem dX12_cut_2 : decode cX12_cut 2 = .ok (.invokevirtual 267, 3) := by decide +kernel
theorem dX12_cut_5 : decode cX12_cut 5 = .ok (.iconst 2, 1) := by decide +kernel
theorem dX12_cut_6 : decode cX12_cut 6 = .ok (.if_icmp .gt 24, 3) := by decide +kernel
theorem dX12_cut_9 : decode cX12_cut 9 = .ok (.aload_n 0, 1) := by decide +kernel
theorem dX12_cut_10 : decode cX12_cut 10 = .ok (.iload_n 1, 1) := by decide +kernel
theorem dX12_cut_11 : decode cX12_cut 11 = .ok (.invokevirtual 267, 3) := by decide +kernel
theorem dX12_cut_14 : decode cX12_cut 14 = .ok (.iconst 2, 1) := by decide +kernel
theorem dX12_cut_15 : decode cX12_cut 15 = .ok (.if_icmp .ne 34, 3) := by decide +kernel
theorem dX12_cut_18 : decode cX12_cut 18 = .ok (.aload_n 0, 1) := by decide +kernel
theorem dX12_cut_19 : decode cX12_cut 19 = .ok (.getfield 72, 3) := by decide +kernel
theorem dX12_cut_22 : decode cX12_cut 22 = .ok (.iload_n 1, 1) := by decide +kernel
theorem dX12_cut_23 : decode cX12_cut 23 = .ok (.iconst 2, 1) := by decide +kernel
theorem dX12_cut_24 : decode cX12_cut 24 = .ok (.iadd, 1) := by decide +kernel
theorem dX12_cut_25 : decode cX12_cut 25 = .ok (.iaload, 1) := by decide +kernel
theorem dX12_cut_26 : decode cX12_cut 26 = .ok (.iconst 2, 1) := by decide +kernel
theorem dX12_cut_27 : decode cX12_cut 27 = .ok (.if_icmp .le 22, 3) := by decide +kernel
theorem dX12_cut_30 : decode cX12_cut 30 = .ok (.aload_n 0, 1) := by decide +kernel
theorem dX12_cut_31 : decode cX12_cut 31 = .ok (.getfield 72, 3) := by decide +kernel
theorem dX12_cut_34 : decode cX12_cut 34 = .ok (.iload_n 1, 1) := by decide +kernel
theorem dX12_cut_35 : decode cX12_cut 35 = .ok (.iaload, 1) := by decide +kernel
theorem dX12_cut_36 : decode cX12_cut 36 = .ok (.ifCond .ge 9, 3) := by decide +kernel
theorem dX12_cut_39 : decode cX12_cut 39 = .ok (.ldc_w 289, 3) := by decide +kernel
theorem dX12_cut_42 : decode cX12_cut 42 = .ok (.goto 6, 3) := by decide +kernel
theorem dX12_cut_45 : decode cX12_cut 45 = .ok (.ldc_w 290, 3) := by decide +kernel
theorem dX12_cut_48 : decode cX12_cut 48 = .ok (.ireturn, 1) := by decide +kernel
theorem dX12_cut_49 : decode cX12_cut 49 = .ok (.lconst 0, 1) := by decide +kernel
theorem dX12_cut_50 : decode cX12_cut 50 = .ok (.lstore_n 2, 1) := by decide +kernel
theorem dX12_cut_51 : decode cX12_cut 51 = .ok (.aload_n 0, 1) := by decide +kernel
theorem dX12_cut_52 : decode cX12_cut 52 = .ok (.iload_n 1, 1) := by decide +kernel
theorem dX12_cut_53 : decode cX12_cut 53 = .ok (.invokevirtual 267, 3) := by decide +kernel
theorem dX12_cut_56 : decode cX12_cut 56 = .ok (.istore 4, 2) := by decide +kernel
theorem dX12_cut_58 : decode cX12_cut 58 = .ok (.iload 4, 2) := by decide +kernel
theorem dX12_cut_60 : decode cX12_cut 60 = .ok (.ifCond .le 26, 3) := by decide +kernel
theorem dX12_cut_63 : decode cX12_cut 63 = .ok (.lload_n 2, 1) := by decide +kernel
theorem dX12_cut_64 : decode cX12_cut 64 = .ok (.ldc2_w 291, 3) := by decide +kernel
theorem dX12_cut_67 : decode cX12_cut 67 = .ok (.lmul, 1) := by decide +kernel
theorem dX12_cut_68 : decode cX12_cut 68 = .ok (.aload_n 0, 1) := by decide +kernel
theorem dX12_cut_69 : decode cX12_cut 69 = .ok (.getfield 72, 3) := by decide +kernel
theorem dX12_cut_72 : decode cX12_cut 72 = .ok (.iload_n 1, 1) := by decide +kernel
theorem dX12_cut_73 : decode cX12_cut 73 = .ok (.iload 4, 2) := by decide +kernel
theorem dX12_cut_75 : decode cX12_cut 75 = .ok (.iadd, 1) := by decide +kernel
theorem dX12_cut_76 : decode cX12_cut 76 = .ok (.iaload, 1) := by decide +kernel
theorem dX12_cut_77 : decode cX12_cut 77 = .ok (.i2l, 1) := by decide +kernel
theorem dX12_cut_78 : decode cX12_cut 78 = .ok (.ladd, 1) := by decide +kernel
theorem dX12_cut_79 : decode cX12_cut 79 = .ok (.lstore_n 2, 1) := by decide +kernel
theorem dX12_cut_80 : decode cX12_cut 80 = .ok (.iinc 4 (-1), 3) := by decide +kernel
theorem dX12_cut_83 : decode cX12_cut 83 = .ok (.goto (-25), 3) := by decide +kernel
theorem dX12_cut_86 : decode cX12_cut 86 = .ok (.lload_n 2, 1) := by decide +kernel
theorem dX12_cut_87 : decode cX12_cut 87 = .ok (.ldc2_w 293, 3) := by decide +kernel
theorem dX12_cut_90 : decode cX12_cut 90 = .ok (.lcmp, 1) := by decide +kernel
theorem dX12_cut_91 : decode cX12_cut 91 = .ok (.ifCond .le 9, 3) := by decide +kernel
theorem dX12_cut_94 : decode cX12_cut 94 = .ok (.ldc2_w 293, 3) := by decide +kernel
theorem dX12_cut_97 : decode cX12_cut 97 = .ok (.goto 4, 3) := by decide +kernel
theorem dX12_cut_100 : decode cX12_cut 100 = .ok (.lload_n 2, 1) := by decide +kernel
theorem dX12_cut_101 : decode cX12_cut 101 = .ok (.lstore_n 2, 1) := by decide +kernel
theorem dX12_cut_102 : decode cX12_cut 102 = .ok (.aload_n 0, 1) := by decide +kernel
theorem dX12_cut_103 : decode cX12_cut 103 = .ok (.getfield 72, 3) := by decide +kernel
theorem dX12_cut_106 : decode cX12_cut 106 = .ok (.iload_n 1, 1) := by decide +kernel
theorem dX12_cut_107 : decode cX12_cut 107 = .ok (.iaload, 1) := by decide +kernel
theorem dX12_cut_108 : decode cX12_cut 108 = .ok (.ifCond .ge 8, 3) := by decide +kernel
theorem dX12_cut_111 : decode cX12_cut 111 = .ok (.lload_n 2, 1) := by decide +kernel
theorem dX12_cut_112 : decode cX12_cut 112 = .ok (.lneg, 1) := by decide +kernel
theorem dX12_cut_113 : decode cX12_cut 113 = .ok (.goto 4, 3) := by decide +kernel
theorem dX12_cut_116 : decode cX12_cut 116 = .ok (.lload_n 2, 1) := by decide +kernel
theorem dX12_cut_117 : decode cX12_cut 117 = .ok (.l2i, 1) := by decide +kernel
theorem dX12_cut_118 : decode cX12_cut 118 = .ok (.ireturn, 1) := by decide +kernel
theorem dX12_node_0 : decode cX12_node 0 = .ok (.aload_n 0, 1) := by decide +kernel
theorem dX12_node_1 : decode cX12_node 1 = .ok (.iload_n 1, 1) := by decide +kernel
theorem dX12_node_2 : decode cX12_node 2 = .ok (.invokevirtual 295, 3) := by decide +kernel
theorem dX12_node_5 : decode cX12_node 5 = .ok (.ifCond .eq 12, 3) := by decide +kernel
theorem dX12_node_8 : decode cX12_node 8 = .ok (.iload_n 2, 1) := by decide +kernel
theorem dX12_node_9 : decode cX12_node 9 = .ok (.ifCond .lt 8, 3) := by decide +kernel
theorem dX12_node_12 : decode cX12_node 12 = .ok (.iload_n 2, 1) := by decide +kernel
theorem dX12_node_13 : decode cX12_node 13 = .ok (.iconst 5, 1) := by decide +kernel
theorem dX12_node_14 : decode cX12_node 14 = .ok (.if_icmp .le 7, 3) := by decide +kernel
theorem dX12_node_17 : decode cX12_node 17 = .ok (.ldc_w 298, 3) := by decide +kernel
theorem dX12_node_20 : decode cX12_node 20 = .ok (.ireturn, 1) := by decide +kernel
theorem dX12_node_21 : decode cX12_node 21 = .ok (.iload_n 2, 1) := by decide +kernel
theorem dX12_node_22 : decode cX12_node 22 = .ok (.ifCond .ne 31, 3) := by decide +kernel
theorem dX12_node_25 : decode cX12_node 25 = .ok (.aload_n 0, 1) := by decide +kernel
theorem dX12_node_26 : decode cX12_node 26 = .ok (.getfield 38, 3) := by decide +kernel
theorem dX12_node_29 : decode cX12_node 29 = .ok (.iload_n 1, 1) := by decide +kernel
theorem dX12_node_30 : decode cX12_node 30 = .ok (.baload, 1) := by decide +kernel
theorem dX12_node_31 : decode cX12_node 31 = .ok (.ifCond .eq 7, 3) := by decide +kernel
theorem dX12_node_34 : decode cX12_node 34 = .ok (.iconst 0, 1) := by decide +kernel
theorem dX12_node_35 : decode cX12_node 35 = .ok (.goto 17, 3) := by decide +kernel
theorem dX12_node_38 : decode cX12_node 38 = .ok (.aload_n 0, 1) := by decide +kernel
theorem dX12_node_39 : decode cX12_node 39 = .ok (.getfield 41, 3) := by decide +kernel
theorem dX12_node_42 : decode cX12_node 42 = .ok (.iload_n 1, 1) := by decide +kernel
theorem dX12_node_43 : decode cX12_node 43 = .ok (.baload, 1) := by decide +kernel
theorem dX12_node_44 : decode cX12_node 44 = .ok (.ifCond .eq 7, 3) := by decide +kernel
theorem dX12_node_47 : decode cX12_node 47 = .ok (.iconst 1, 1) := by decide +kernel
theorem dX12_node_48 : decode cX12_node 48 = .ok (.goto 4, 3) := by decide +kernel
theorem dX12_node_51 : decode cX12_node 51 = .ok (.iconst 2, 1) := by decide +kernel
theorem dX12_node_52 : decode cX12_node 52 = .ok (.ireturn, 1) := by decide +kernel
theorem dX12_node_53 : decode cX12_node 53 = .ok (.iload_n 2, 1) := by decide +kernel
theorem dX12_node_54 : decode cX12_node 54 = .ok (.iconst 5, 1) := by decide +kernel
theorem dX12_node_55 : decode cX12_node 55 = .ok (.if_icmp .ne 10, 3) := by decide +kernel
theorem dX12_node_58 : decode cX12_node 58 = .ok (.aload_n 0, 1) := by decide +kernel
theorem dX12_node_59 : decode cX12_node 59 = .ok (.getfield 53, 3) := by decide +kernel
theorem dX12_node_62 : decode cX12_node 62 = .ok (.iload_n 1, 1) := by decide +kernel
theorem dX12_node_63 : decode cX12_node 63 = .ok (.iaload, 1) := by decide +kernel
theorem dX12_node_64 : decode cX12_node 64 = .ok (.ireturn, 1) := by decide +kernel
theorem dX12_node_65 : decode cX12_node 65 = .ok (.aload_n 0, 1) := by decide +kernel
theorem dX12_node_66 : decode cX12_node 66 = .ok (.getfield 38, 3) := by decide +kernel
theorem dX12_node_69 : decode cX12_node 69 = .ok (.iload_n 1, 1) := by decide +kernel
theorem dX12_node_70 : decode cX12_node 70 = .ok (.baload, 1) := by decide +kernel
theorem dX12_node_71 : decode cX12_node 71 = .ok (.ifCond .ne 8, 3) := by decide +kernel
theorem dX12_node_74 : decode cX12_node 74 = .ok (.bipush (-2), 2) := by decide +kernel
theorem dX12_node_76 : decode cX12_node 76 = .ok (.goto 53, 3) := by decide +kernel
theorem dX12_node_79 : decode cX12_node 79 = .ok (.iload_n 2, 1) := by decide +kernel
theorem dX12_node_80 : decode cX12_node 80 = .ok (.iconst 1, 1) := by decide +kernel
theorem dX12_node_81 : decode cX12_node 81 = .ok (.if_icmp .ne 12, 3) := by decide +kernel
theorem dX12_node_84 : decode cX12_node 84 = .ok (.aload_n 0, 1) := by decide +kernel
theorem dX12_node_85 : decode cX12_node 85 = .ok (.getfield 44, 3) := by decide +kernel
theorem dX12_node_88 : decode cX12_node 88 = .ok (.iload_n 1, 1) := by decide +kernel
theorem dX12_node_89 : decode cX12_node 89 = .ok (.iaload, 1) := by decide +kernel
theorem dX12_node_90 : decode cX12_node 90 = .ok (.goto 39, 3) := by decide +kernel
theorem dX12_node_93 : decode cX12_node 93 = .ok (.iload_n 2, 1) := by decide +kernel
theorem dX12_node_94 : decode cX12_node 94 = .ok (.iconst 2, 1) := by decide +kernel
theorem dX12_node_95 : decode cX12_node 95 = .ok (.if_icmp .ne 14, 3) := by decide +kernel
theorem dX12_node_98 : decode cX12_node 98 = .ok (.aload_n 0, 1) := by decide +kernel
theorem dX12_node_99 : decode cX12_node 99 = .ok (.iload_n 1, 1) := by decide +kernel
theorem dX12_node_100 : decode cX12_node 100 = .ok (.invokestatic 224, 3) := by decide +kernel
theorem dX12_node_103 : decode cX12_node 103 = .ok (.invokevirtual 299, 3) := by decide +kernel
theorem dX12_node_106 : decode cX12_node 106 = .ok (.goto 23, 3) := by decide +kernel
theorem dX12_node_109 : decode cX12_node 109 = .ok (.iload_n 2, 1) := by decide +kernel
theorem dX12_node_110 : decode cX12_node 110 = .ok (.iconst 3, 1) := by decide +kernel
theorem dX12_node_111 : decode cX12_node 111 = .ok (.if_icmp .ne 12, 3) := by decide +kernel
theorem dX12_node_114 : decode cX12_node 114 = .ok (.aload_n 0, 1) := by decide +kernel
theorem dX12_node_115 : decode cX12_node 115 = .ok (.getfield 47, 3) := by decide +kernel
theorem dX12_node_118 : decode cX12_node 118 = .ok (.iload_n 1, 1) := by decide +kernel
theorem dX12_node_119 : decode cX12_node 119 = .ok (.iaload, 1) := by decide +kernel
theorem dX12_node_120 : decode cX12_node 120 = .ok (.goto 9, 3) := by decide +kernel
theorem dX12_node_123 : decode cX12_node 123 = .ok (.aload_n 0, 1) := by decide +kernel
theorem dX12_node_124 : decode cX12_node 124 = .ok (.getfield 50, 3) := by decide +kernel
theorem dX12_node_127 : decode cX12_node 127 = .ok (.iload_n 1, 1) := by decide +kernel
theorem dX12_node_128 : decode cX12_node 128 = .ok (.iaload, 1) := by decide +kernel
theorem dX12_node_129 : decode cX12_node 129 = .ok (.ireturn, 1) := by decide +kernel
theorem dX12_numberOf_0 : decode cX12_numberOf 0 = .ok (.aload_n 0, 1) := by decide +kernel
theorem dX12_numberOf_1 : decode cX12_numberOf 1 = .ok (.iload_n 1, 1) := by decide +kernel
theorem dX12_numberOf_2 : decode cX12_numberOf 2 = .ok (.invokevirtual 295, 3) := by decide +kernel
theorem dX12_numberOf_5 : decode cX12_numberOf 5 = .ok (.ifCond .eq 56, 3) := by decide +kernel
theorem dX12_numberOf_8 : decode cX12_numberOf 8 = .ok (.aload_n 0, 1) := by decide +kernel
theorem dX12_numberOf_9 : decode cX12_numberOf 9 = .ok (.getfield 38, 3) := by decide +kernel
theorem dX12_numberOf_12 : decode cX12_numberOf 12 = .ok (.aload_n 0, 1) := by decide +kernel
theorem dX12_numberOf_13 : decode cX12_numberOf 13 = .ok (.iload_n 1, 1) := by decide +kernel
theorem dX12_numberOf_14 : decode cX12_numberOf 14 = .ok (.invokevirtual 295, 3) := by decide +kernel
theorem dX12_numberOf_17 : decode cX12_numberOf 17 = .ok (.ifCond .eq 7, 3) := by decide +kernel
theorem dX12_numberOf_20 : decode cX12_numberOf 20 = .ok (.iload_n 1, 1) := by decide +kernel
theorem dX12_numberOf_21 : decode cX12_numberOf 21 = .ok (.goto 4, 3) := by decide +kernel
theorem dX12_numberOf_24 : decode cX12_numberOf 24 = .ok (.iconst 0, 1) := by decide +kernel
theorem dX12_numberOf_25 : decode cX12_numberOf 25 = .ok (.baload, 1) := by decide +kernel
theorem dX12_numberOf_26 : decode cX12_numberOf 26 = .ok (.ifCond .ne 35, 3) := by decide +kernel
theorem dX12_numberOf_29 : decode cX12_numberOf 29 = .ok (.iload_n 2, 1) := by decide +kernel
theorem dX12_numberOf_30 : decode cX12_numberOf 30 = .ok (.ifCond .lt 31, 3) := by decide +kernel
theorem dX12_numberOf_33 : decode cX12_numberOf 33 = .ok (.iload_n 2, 1) := by decide +kernel
theorem dX12_numberOf_34 : decode cX12_numberOf 34 = .ok (.iconst 2, 1) := by decide +kernel
theorem dX12_numberOf_35 : decode cX12_numberOf 35 = .ok (.if_icmp .gt 26, 3) := by decide +kernel
theorem dX12_numberOf_38 : decode cX12_numberOf 38 = .ok (.iload_n 3, 1) := by decide +kernel
theorem dX12_numberOf_39 : decode cX12_numberOf 39 = .ok (.ifCond .lt 22, 3) := by decide +kernel
theorem dX12_numberOf_42 : decode cX12_numberOf 42 = .ok (.iload_n 3, 1) := by decide +kernel
theorem dX12_numberOf_43 : decode cX12_numberOf 43 = .ok (.iload_n 2, 1) := by decide +kernel
theorem dX12_numberOf_44 : decode cX12_numberOf 44 = .ok (.ifCond .ne 10, 3) := by decide +kernel
theorem dX12_numberOf_47 : decode cX12_numberOf 47 = .ok (.aload_n 0, 1) := by decide +kernel
theorem dX12_numberOf_48 : decode cX12_numberOf 48 = .ok (.getfield 123, 3) := by decide +kernel
theorem dX12_numberOf_51 : decode cX12_numberOf 51 = .ok (.goto 7, 3) := by decide +kernel
theorem dX12_numberOf_54 : decode cX12_numberOf 54 = .ok (.aload_n 0, 1) := by decide +kernel
theorem dX12_numberOf_55 : decode cX12_numberOf 55 = .ok (.getfield 120, 3) := by decide +kernel
theorem dX12_numberOf_58 : decode cX12_numberOf 58 = .ok (.if_icmp .lt 5, 3) := by decide +kernel
theorem dX12_numberOf_61 : decode cX12_numberOf 61 = .ok (.iconst (-1), 1) := by decide +kernel
theorem dX12_numberOf_62 : decode cX12_numberOf 62 = .ok (.ireturn, 1) := by decide +kernel
theorem dX12_numberOf_63 : decode cX12_numberOf 63 = .ok (.iload_n 2, 1) := by decide +kernel
theorem dX12_numberOf_64 : decode cX12_numberOf 64 = .ok (.ifCond .ne 7, 3) := by decide +kernel
theorem dX12_numberOf_67 : decode cX12_numberOf 67 = .ok (.iload_n 3, 1) := by decide +kernel
theorem dX12_numberOf_68 : decode cX12_numberOf 68 = .ok (.goto 19, 3) := by decide +kernel
theorem dX12_numberOf_71 : decode cX12_numberOf 71 = .ok (.iload_n 2, 1) := by decide +kernel
theorem dX12_numberOf_72 : decode cX12_numberOf 72 = .ok (.iconst 1, 1) := by decide +kernel
theorem dX12_numberOf_73 : decode cX12_numberOf 73 = .ok (.if_icmp .ne 10, 3) := by decide +kernel
theorem dX12_numberOf_76 : decode cX12_numberOf 76 = .ok (.bipush 12, 2) := by decide +kernel
theorem dX12_numberOf_78 : decode cX12_numberOf 78 = .ok (.iload_n 3, 1) := by decide +kernel
theorem dX12_numberOf_79 : decode cX12_numberOf 79 = .ok (.iadd, 1) := by decide +kernel
theorem dX12_numberOf_80 : decode cX12_numberOf 80 = .ok (.goto 7, 3) := by decide +kernel
theorem dX12_numberOf_83 : decode cX12_numberOf 83 = .ok (.bipush 22, 2) := by decide +kernel
theorem dX12_numberOf_85 : decode cX12_numberOf 85 = .ok (.iload_n 3, 1) := by decide +kernel
theorem dX12_numberOf_86 : decode cX12_numberOf 86 = .ok (.iadd, 1) := by decide +kernel
theorem dX12_numberOf_87 : decode cX12_numberOf 87 = .ok (.ireturn, 1) := by decide +kernel
theorem dX12_multiplier_0 : decode cX12_multiplier 0 = .ok (.aload_n 0, 1) := by decide +kernel
theorem dX12_multiplier_1 : decode cX12_multiplier 1 = .ok (.iload_n 1, 1) := by decide +kernel
theorem dX12_multiplier_2 : decode cX12_multiplier 2 = .ok (.iload_n 2, 1) := by decide +kernel
theorem dX12_multiplier_3 : decode cX12_multiplier 3 = .ok (.iload_n 3, 1) := by decide +kernel
theorem dX12_multiplier_4 : decode cX12_multiplier 4 = .ok (.invokevirtual 302, 3) := by decide +kernel
theorem dX12_multiplier_7 : decode cX12_multiplier 7 = .ok (.istore 4, 2) := by decide +kernel
theorem dX12_multiplier_9 : decode cX12_multiplier 9 = .ok (.iload 4, 2) := by decide +kernel
theorem dX12_multiplier_11 : decode cX12_multiplier 11 = .ok (.iconst (-1), 1) := by decide +kernel
theorem dX12_multiplier_12 : decode cX12_multiplier 12 = .ok (.if_icmp .ne 8, 3) := by decide +kernel
theorem dX12_multiplier_15 : decode cX12_multiplier 15 = .ok (.bipush (-4), 2) := by decide +kernel
theorem dX12_multiplier_17 : decode cX12_multiplier 17 = .ok (.goto 31, 3) := by decide +kernel
theorem dX12_multiplier_20 : decode cX12_multiplier 20 = .ok (.aload_n 0, 1) := by decide +kernel
theorem dX12_multiplier_21 : decode cX12_multiplier 21 = .ok (.aload_n 0, 1) := by decide +kernel
theorem dX12_multiplier_22 : decode cX12_multiplier 22 = .ok (.getfield 56, 3) := by decide +kernel
theorem dX12_multiplier_25 : decode cX12_multiplier 25 = .ok (.iload_n 1, 1) := by decide +kernel
theorem dX12_multiplier_26 : decode cX12_multiplier 26 = .ok (.iaload, 1) := by decide +kernel
theorem dX12_multiplier_27 : decode cX12_multiplier 27 = .ok (.iload 4, 2) := by decide +kernel
theorem dX12_multiplier_29 : decode cX12_multiplier 29 = .ok (.iconst 0, 1) := by decide +kernel
theorem dX12_multiplier_30 : decode cX12_multiplier 30 = .ok (.invokestatic 172, 3) := by decide +kernel
theorem dX12_multiplier_33 : decode cX12_multiplier 33 = .ok (.aload_n 0, 1) := by decide +kernel
theorem dX12_multiplier_34 : decode cX12_multiplier 34 = .ok (.getfield 56, 3) := by decide +kernel
theorem dX12_multiplier_37 : decode cX12_multiplier 37 = .ok (.iload_n 1, 1) := by decide +kernel
theorem dX12_multiplier_38 : decode cX12_multiplier 38 = .ok (.iaload, 1) := by decide +kernel
theorem dX12_multiplier_39 : decode cX12_multiplier 39 = .ok (.iload 4, 2) := by decide +kernel
theorem dX12_multiplier_41 : decode cX12_multiplier 41 = .ok (.iconst 1, 1) := by decide +kernel
theorem dX12_multiplier_42 : decode cX12_multiplier 42 = .ok (.invokestatic 172, 3) := by decide +kernel
theorem dX12_multiplier_45 : decode cX12_multiplier 45 = .ok (.invokevirtual 264, 3) := by decide +kernel
theorem dX12_multiplier_48 : decode cX12_multiplier 48 = .ok (.ireturn, 1) := by decide +kernel
theorem dX12_setMultiplier_0 : decode cX12_setMultiplier 0 = .ok (.aload_n 0, 1) := by decide +kernel
theorem dX12_setMultiplier_1 : decode cX12_setMultiplier 1 = .ok (.iload_n 1, 1) := by decide +kernel
theorem dX12_setMultiplier_2 : decode cX12_setMultiplier 2 = .ok (.iload_n 2, 1) := by decide +kernel
theorem dX12_setMultiplier_3 : decode cX12_setMultiplier 3 = .ok (.iload_n 3, 1) := by decide +kernel
theorem dX12_setMultiplier_4 : decode cX12_setMultiplier 4 = .ok (.invokevirtual 302, 3) := by decide +kernel
theorem dX12_setMultiplier_7 : decode cX12_setMultiplier 7 = .ok (.istore 6, 2) := by decide +kernel
theorem dX12_setMultiplier_9 : decode cX12_setMultiplier 9 = .ok (.iload 6, 2) := by decide +kernel
theorem dX12_setMultiplier_11 : decode cX12_setMultiplier 11 = .ok (.iconst (-1), 1) := by decide +kernel
theorem dX12_setMultiplier_12 : decode cX12_setMultiplier 12 = .ok (.if_icmp .eq 13, 3) := by decide +kernel
theorem dX12_setMultiplier_15 : decode cX12_setMultiplier 15 = .ok (.iload 4, 2) := by decide +kernel
theorem dX12_setMultiplier_17 : decode cX12_setMultiplier 17 = .ok (.iload 5, 2) := by decide +kernel
theorem dX12_setMultiplier_19 : decode cX12_setMultiplier 19 = .ok (.invokestatic 271, 3) := by decide +kernel
theorem dX12_setMultiplier_22 : decode cX12_setMultiplier 22 = .ok (.ifCond .ne 5, 3) := by decide +kernel
theorem dX12_setMultiplier_25 : decode cX12_setMultiplier 25 = .ok (.iconst (-1), 1) := by decide +kernel
theorem dX12_setMultiplier_26 : decode cX12_setMultiplier 26 = .ok (.ireturn, 1) := by decide +kernel
theorem dX12_setMultiplier_27 : decode cX12_setMultiplier 27 = .ok (.aload_n 0, 1) := by decide +kernel
theorem dX12_setMultiplier_28 : decode cX12_setMultiplier 28 = .ok (.aload_n 0, 1) := by decide +kernel
theorem dX12_setMultiplier_29 : decode cX12_setMultiplier 29 = .ok (.getfield 56, 3) := by decide +kernel
theorem dX12_setMultiplier_32 : decode cX12_setMultiplier 32 = .ok (.iload_n 1, 1) := by decide +kernel
theorem dX12_setMultiplier_33 : decode cX12_setMultiplier 33 = .ok (.iaload, 1) := by decide +kernel
theorem dX12_setMultiplier_34 : decode cX12_setMultiplier 34 = .ok (.iload 6, 2) := by decide +kernel
theorem dX12_setMultiplier_36 : decode cX12_setMultiplier 36 = .ok (.iconst 0, 1) := by decide +kernel
theorem dX12_setMultiplier_37 : decode cX12_setMultiplier 37 = .ok (.invokestatic 172, 3) := by decide +kernel
theorem dX12_setMultiplier_40 : decode cX12_setMultiplier 40 = .ok (.iload 4, 2) := by decide +kernel
theorem dX12_setMultiplier_42 : decode cX12_setMultiplier 42 = .ok (.i2l, 1) := by decide +kernel
theorem dX12_setMultiplier_43 : decode cX12_setMultiplier 43 = .ok (.invokevirtual 84, 3) := by decide +kernel
theorem dX12_setMultiplier_46 : decode cX12_setMultiplier 46 = .ok (.aload_n 0, 1) := by decide +kernel
theorem dX12_setMultiplier_47 : decode cX12_setMultiplier 47 = .ok (.aload_n 0, 1) := by decide +kernel
theorem dX12_setMultiplier_48 : decode cX12_setMultiplier 48 = .ok (.getfield 56, 3) := by decide +kernel
theorem dX12_setMultiplier_51 : decode cX12_setMultiplier 51 = .ok (.iload_n 1, 1) := by decide +kernel
theorem dX12_setMultiplier_52 : decode cX12_setMultiplier 52 = .ok (.iaload, 1) := by decide +kernel
theorem dX12_setMultiplier_53 : decode cX12_setMultiplier 53 = .ok (.iload 6, 2) := by decide +kernel
theorem dX12_setMultiplier_55 : decode cX12_setMultiplier 55 = .ok (.iconst 1, 1) := by decide +kernel
theorem dX12_setMultiplier_56 : decode cX12_setMultiplier 56 = .ok (.invokestatic 172, 3) := by decide +kernel
theorem dX12_setMultiplier_59 : decode cX12_setMultiplier 59 = .ok (.iload 5, 2) := by decide +kernel
theorem dX12_setMultiplier_61 : decode cX12_setMultiplier 61 = .ok (.i2l, 1) := by decide +kernel
theorem dX12_setMultiplier_62 : decode cX12_setMultiplier 62 = .ok (.invokevirtual 84, 3) := by decide +kernel
theorem dX12_setMultiplier_65 : decode cX12_setMultiplier 65 = .ok (.iconst 0, 1) := by decide +kernel
theorem dX12_setMultiplier_66 : decode cX12_setMultiplier 66 = .ok (.ireturn, 1) := by decide +kernel
theorem dX12_setSplit_0 : decode cX12_setSplit 0 = .ok (.aload_n 0, 1) := by decide +kernel
theorem dX12_setSplit_1 : decode cX12_setSplit 1 = .ok (.iload_n 1, 1) := by decide +kernel
theorem dX12_setSplit_2 : decode cX12_setSplit 2 = .ok (.invokevirtual 295, 3) := by decide +kernel
theorem dX12_setSplit_5 : decode cX12_setSplit 5 = .ok (.ifCond .eq 34, 3) := by decide +kernel
theorem dX12_setSplit_8 : decode cX12_setSplit 8 = .ok (.aload_n 0, 1) := by decide +kernel
theorem dX12_setSplit_9 : decode cX12_setSplit 9 = .ok (.getfield 38, 3) := by decide +kernel
theorem dX12_setSplit_12 : decode cX12_setSplit 12 = .ok (.aload_n 0, 1) := by decide +kernel
theorem dX12_setSplit_13 : decode cX12_setSplit 13 = .ok (.iload_n 1, 1) := by decide +kernel
theorem dX12_setSplit_14 : decode cX12_setSplit 14 = .ok (.invokevirtual 295, 3) := by decide +kernel
theorem dX12_setSplit_17 : decode cX12_setSplit 17 = .ok (.ifCond .eq 7, 3) := by decide +kernel
theorem dX12_setSplit_20 : decode cX12_setSplit 20 = .ok (.iload_n 1, 1) := by decide +kernel
theorem dX12_setSplit_21 : decode cX12_setSplit 21 = .ok (.goto 4, 3) := by decide +kernel
theorem dX12_setSplit_24 : decode cX12_setSplit 24 = .ok (.iconst 0, 1) := by decide +kernel
theorem dX12_setSplit_25 : decode cX12_setSplit 25 = .ok (.baload, 1) := by decide +kernel
theorem dX12_setSplit_26 : decode cX12_setSplit 26 = .ok (.ifCond .eq 13, 3) := by decide +kernel
theorem dX12_setSplit_29 : decode cX12_setSplit 29 = .ok (.iload_n 2, 1) := by decide +kernel
theorem dX12_setSplit_30 : decode cX12_setSplit 30 = .ok (.ldc_w 270, 3) := by decide +kernel
theorem dX12_setSplit_33 : decode cX12_setSplit 33 = .ok (.invokestatic 134, 3) := by decide +kernel
theorem dX12_setSplit_36 : decode cX12_setSplit 36 = .ok (.ifCond .ne 5, 3) := by decide +kernel
theorem dX12_setSplit_39 : decode cX12_setSplit 39 = .ok (.iconst (-1), 1) := by decide +kernel
theorem dX12_setSplit_40 : decode cX12_setSplit 40 = .ok (.ireturn, 1) := by decide +kernel
theorem dX12_setSplit_41 : decode cX12_setSplit 41 = .ok (.aload_n 0, 1) := by decide +kernel
theorem dX12_setSplit_42 : decode cX12_setSplit 42 = .ok (.iload_n 1, 1) := by decide +kernel
theorem dX12_setSplit_43 : decode cX12_setSplit 43 = .ok (.invokestatic 224, 3) := by decide +kernel
theorem dX12_setSplit_46 : decode cX12_setSplit 46 = .ok (.iload_n 2, 1) := by decide +kernel
theorem dX12_setSplit_47 : decode cX12_setSplit 47 = .ok (.i2l, 1) := by decide +kernel
theorem dX12_setSplit_48 : decode cX12_setSplit 48 = .ok (.invokevirtual 84, 3) := by decide +kernel
theorem dX12_setSplit_51 : decode cX12_setSplit 51 = .ok (.iconst 0, 1) := by decide +kernel
theorem dX12_setSplit_52 : decode cX12_setSplit 52 = .ok (.ireturn, 1) := by decide +kernel
theorem dX12_signOf_0 : decode cX12_signOf 0 = .ok (.aload_n 0, 1) := by decide +kernel
theorem dX12_signOf_1 : decode cX12_signOf 1 = .ok (.aload_n 0, 1) := by decide +kernel
theorem dX12_signOf_2 : decode cX12_signOf 2 = .ok (.getfield 56, 3) := by decide +kernel
theorem dX12_signOf_5 : decode cX12_signOf 5 = .ok (.iload_n 1, 1) := by decide +kernel
theorem dX12_signOf_6 : decode cX12_signOf 6 = .ok (.iaload, 1) := by decide +kernel
theorem dX12_signOf_7 : decode cX12_signOf 7 = .ok (.iload_n 2, 1) := by decide +kernel
theorem dX12_signOf_8 : decode cX12_signOf 8 = .ok (.iconst 0, 1) := by decide +kernel
theorem dX12_signOf_9 : decode cX12_signOf 9 = .ok (.invokestatic 172, 3) := by decide +kernel
theorem dX12_signOf_12 : decode cX12_signOf 12 = .ok (.invokevirtual 191, 3) := by decide +kernel
theorem dX12_signOf_15 : decode cX12_signOf 15 = .ok (.ireturn, 1) := by decide +kernel
theorem dX12_lookAround_0 : decode cX12_lookAround 0 = .ok (.iconst 0, 1) := by decide +kernel
theorem dX12_lookAround_1 : decode cX12_lookAround 1 = .ok (.istore_n 2, 1) := by decide +kernel
theorem dX12_lookAround_2 : decode cX12_lookAround 2 = .ok (.iload_n 2, 1) := by decide +kernel
theorem dX12_lookAround_3 : decode cX12_lookAround 3 = .ok (.bipush 20, 2) := by decide +kernel
theorem dX12_lookAround_5 : decode cX12_lookAround 5 = .ok (.if_icmp .ge 16, 3) := by decide +kernel
theorem dX12_lookAround_8 : decode cX12_lookAround 8 = .ok (.aload_n 0, 1) := by decide +kernel
theorem dX12_lookAround_9 : decode cX12_lookAround 9 = .ok (.getfield 65, 3) := by decide +kernel
theorem dX12_lookAround_12 : decode cX12_lookAround 12 = .ok (.iload_n 2, 1) := by decide +kernel
theorem dX12_lookAround_13 : decode cX12_lookAround 13 = .ok (.iconst 0, 1) := by decide +kernel
theorem dX12_lookAround_14 : decode cX12_lookAround 14 = .ok (.bastore, 1) := by decide +kernel
theorem dX12_lookAround_15 : decode cX12_lookAround 15 = .ok (.iinc 2 1, 3) := by decide +kernel
theorem dX12_lookAround_18 : decode cX12_lookAround 18 = .ok (.goto (-16), 3) := by decide +kernel
theorem dX12_lookAround_21 : decode cX12_lookAround 21 = .ok (.iload_n 1, 1) := by decide +kernel
theorem dX12_lookAround_22 : decode cX12_lookAround 22 = .ok (.istore_n 2, 1) := by decide +kernel
theorem dX12_lookAround_23 : decode cX12_lookAround 23 = .ok (.aload_n 0, 1) := by decide +kernel
theorem dX12_lookAround_24 : decode cX12_lookAround 24 = .ok (.getfield 53, 3) := by decide +kernel
theorem dX12_lookAround_27 : decode cX12_lookAround 27 = .ok (.iload_n 1, 1) := by decide +kernel
theorem dX12_lookAround_28 : decode cX12_lookAround 28 = .ok (.iaload, 1) := by decide +kernel
theorem dX12_lookAround_29 : decode cX12_lookAround 29 = .ok (.istore_n 3, 1) := by decide +kernel
theorem dX12_lookAround_30 : decode cX12_lookAround 30 = .ok (.iload_n 3, 1) := by decide +kernel
theorem dX12_lookAround_31 : decode cX12_lookAround 31 = .ok (.bipush (-2), 2) := by decide +kernel
theorem dX12_lookAround_33 : decode cX12_lookAround 33 = .ok (.if_icmp .eq 139, 3) := by decide +kernel
theorem dX12_lookAround_36 : decode cX12_lookAround 36 = .ok (.aload_n 0, 1) := by decide +kernel
theorem dX12_lookAround_37 : decode cX12_lookAround 37 = .ok (.getfield 47, 3) := by decide +kernel
theorem dX12_lookAround_40 : decode cX12_lookAround 40 = .ok (.iload_n 3, 1) := by decide +kernel
theorem dX12_lookAround_41 : decode cX12_lookAround 41 = .ok (.iaload, 1) := by decide +kernel
theorem dX12_lookAround_42 : decode cX12_lookAround 42 = .ok (.iload_n 2, 1) := by decide +kernel
theorem dX12_lookAround_43 : decode cX12_lookAround 43 = .ok (.if_icmp .ne 7, 3) := by decide +kernel
theorem dX12_lookAround_46 : decode cX12_lookAround 46 = .ok (.iconst 0, 1) := by decide +kernel
theorem dX12_lookAround_47 : decode cX12_lookAround 47 = .ok (.goto 4, 3) := by decide +kernel
theorem dX12_lookAround_50 : decode cX12_lookAround 50 = .ok (.iconst 1, 1) := by decide +kernel
theorem dX12_lookAround_51 : decode cX12_lookAround 51 = .ok (.istore 4, 2) := by decide +kernel
theorem dX12_lookAround_53 : decode cX12_lookAround 53 = .ok (.iconst 2, 1) := by decide +kernel
theorem dX12_lookAround_54 : decode cX12_lookAround 54 = .ok (.aload_n 0, 1) := by decide +kernel
theorem dX12_lookAround_55 : decode cX12_lookAround 55 = .ok (.getfield 44, 3) := by decide +kernel
theorem dX12_lookAround_58 : decode cX12_lookAround 58 = .ok (.iload_n 3, 1) := by decide +kernel
theorem dX12_lookAround_59 : decode cX12_lookAround 59 = .ok (.iaload, 1) := by decide +kernel
theorem dX12_lookAround_60 : decode cX12_lookAround 60 = .ok (.imul, 1) := by decide +kernel
theorem dX12_lookAround_61 : decode cX12_lookAround 61 = .ok (.iload 4, 2) := by decide +kernel
theorem dX12_lookAround_63 : decode cX12_lookAround 63 = .ok (.iadd, 1) := by decide +kernel
theorem dX12_lookAround_64 : decode cX12_lookAround 64 = .ok (.istore 5, 2) := by decide +kernel
theorem dX12_lookAround_66 : decode cX12_lookAround 66 = .ok (.iload 4, 2) := by decide +kernel
theorem dX12_lookAround_68 : decode cX12_lookAround 68 = .ok (.ifCond .ne 10, 3) := by decide +kernel
theorem dX12_lookAround_71 : decode cX12_lookAround 71 = .ok (.iload_n 3, 1) := by decide +kernel
theorem dX12_lookAround_72 : decode cX12_lookAround 72 = .ok (.invokestatic 224, 3) := by decide +kernel
theorem dX12_lookAround_75 : decode cX12_lookAround 75 = .ok (.goto 16, 3) := by decide +kernel
theorem dX12_lookAround_78 : decode cX12_lookAround 78 = .ok (.aload_n 0, 1) := by decide +kernel
theorem dX12_lookAround_79 : decode cX12_lookAround 79 = .ok (.iload_n 3, 1) := by decide +kernel
theorem dX12_lookAround_80 : decode cX12_lookAround 80 = .ok (.invokestatic 224, 3) := by decide +kernel
theorem dX12_lookAround_83 : decode cX12_lookAround 83 = .ok (.aload_n 0, 1) := by decide +kernel
theorem dX12_lookAround_84 : decode cX12_lookAround 84 = .ok (.lconst 1, 1) := by decide +kernel
theorem dX12_lookAround_85 : decode cX12_lookAround 85 = .ok (.invokevirtual 88, 3) := by decide +kernel
theorem dX12_lookAround_88 : decode cX12_lookAround 88 = .ok (.invokevirtual 151, 3) := by decide +kernel
theorem dX12_lookAround_91 : decode cX12_lookAround 91 = .ok (.istore 6, 2) := by decide +kernel
theorem dX12_lookAround_93 : decode cX12_lookAround 93 = .ok (.aload_n 0, 1) := by decide +kernel
theorem dX12_lookAround_94 : decode cX12_lookAround 94 = .ok (.getfield 65, 3) := by decide +kernel
theorem dX12_lookAround_97 : decode cX12_lookAround 97 = .ok (.iload 5, 2) := by decide +kernel
theorem dX12_lookAround_99 : decode cX12_lookAround 99 = .ok (.baload, 1) := by decide +kernel
theorem dX12_lookAround_100 : decode cX12_lookAround 100 = .ok (.ifCond .eq 43, 3) := by decide +kernel
theorem dX12_lookAround_103 : decode cX12_lookAround 103 = .ok (.iload 4, 2) := by decide +kernel
theorem dX12_lookAround_105 : decode cX12_lookAround 105 = .ok (.ifCond .ne 22, 3) := by decide +kernel
theorem dX12_lookAround_108 : decode cX12_lookAround 108 = .ok (.aload_n 0, 1) := by decide +kernel
theorem dX12_lookAround_109 : decode cX12_lookAround 109 = .ok (.iload 6, 2) := by decide +kernel
theorem dX12_lookAround_111 : decode cX12_lookAround 111 = .ok (.aload_n 0, 1) := by decide +kernel
theorem dX12_lookAround_112 : decode cX12_lookAround 112 = .ok (.getfield 68, 3) := by decide +kernel
theorem dX12_lookAround_115 : decode cX12_lookAround 115 = .ok (.iload 5, 2) := by decide +kernel
theorem dX12_lookAround_117 : decode cX12_lookAround 117 = .ok (.iaload, 1) := by decide +kernel
theorem dX12_lookAround_118 : decode cX12_lookAround 118 = .ok (.invokevirtual 163, 3) := by decide +kernel
theorem dX12_lookAround_121 : decode cX12_lookAround 121 = .ok (.ifCond .ge 39, 3) := by decide +kernel
theorem dX12_lookAround_124 : decode cX12_lookAround 124 = .ok (.goto 19, 3) := by decide +kernel
theorem dX12_lookAround_127 : decode cX12_lookAround 127 = .ok (.aload_n 0, 1) := by decide +kernel
theorem dX12_lookAround_128 : decode cX12_lookAround 128 = .ok (.iload 6, 2) := by decide +kernel
theorem dX12_lookAround_130 : decode cX12_lookAround 130 = .ok (.aload_n 0, 1) := by decide +kernel
theorem dX12_lookAround_131 : decode cX12_lookAround 131 = .ok (.getfield 68, 3) := by decide +kernel
theorem dX12_lookAround_134 : decode cX12_lookAround 134 = .ok (.iload 5, 2) := by decide +kernel
theorem dX12_lookAround_136 : decode cX12_lookAround 136 = .ok (.iaload, 1) := by decide +kernel
theorem dX12_lookAround_137 : decode cX12_lookAround 137 = .ok (.invokevirtual 163, 3) := by decide +kernel
theorem dX12_lookAround_140 : decode cX12_lookAround 140 = .ok (.ifCond .le 20, 3) := by decide +kernel
theorem dX12_lookAround_143 : decode cX12_lookAround 143 = .ok (.aload_n 0, 1) := by decide +kernel
theorem dX12_lookAround_144 : decode cX12_lookAround 144 = .ok (.getfield 65, 3) := by decide +kernel
theorem dX12_lookAround_147 : decode cX12_lookAround 147 = .ok (.iload 5, 2) := by decide +kernel
theorem dX12_lookAround_149 : decode cX12_lookAround 149 = .ok (.iconst 1, 1) := by decide +kernel
theorem dX12_lookAround_150 : decode cX12_lookAround 150 = .ok (.bastore, 1) := by decide +kernel
theorem dX12_lookAround_151 : decode cX12_lookAround 151 = .ok (.aload_n 0, 1) := by decide +kernel
theorem dX12_lookAround_152 : decode cX12_lookAround 152 = .ok (.getfield 68, 3) := by decide +kernel
theorem dX12_lookAround_155 : decode cX12_lookAround 155 = .ok (.iload 5, 2) := by decide +kernel
theorem dX12_lookAround_157 : decode cX12_lookAround 157 = .ok (.iload 6, 2) := by decide +kernel
theorem dX12_lookAround_159 : decode cX12_lookAround 159 = .ok (.iastore, 1) := by decide +kernel
theorem dX12_lookAround_160 : decode cX12_lookAround 160 = .ok (.iload_n 3, 1) := by decide +kernel
theorem dX12_lookAround_161 : decode cX12_lookAround 161 = .ok (.istore_n 2, 1) := by decide +kernel
theorem dX12_lookAround_162 : decode cX12_lookAround 162 = .ok (.aload_n 0, 1) := by decide +kernel
theorem dX12_lookAround_163 : decode cX12_lookAround 163 = .ok (.getfield 53, 3) := by decide +kernel
theorem dX12_lookAround_166 : decode cX12_lookAround 166 = .ok (.iload_n 3, 1) := by decide +kernel
theorem dX12_lookAround_167 : decode cX12_lookAround 167 = .ok (.iaload, 1) := by decide +kernel
theorem dX12_lookAround_168 : decode cX12_lookAround 168 = .ok (.istore_n 3, 1) := by decide +kernel
theorem dX12_lookAround_169 : decode cX12_lookAround 169 = .ok (.goto (-139), 3) := by decide +kernel
theorem dX12_lookAround_172 : decode cX12_lookAround 172 = .ok (.return_, 1) := by decide +kernel
theorem dX12_isGoodLeaf_0 : decode cX12_isGoodLeaf 0 = .ok (.aload_n 0, 1) := by decide +kernel
theorem dX12_isGoodLeaf_1 : decode cX12_isGoodLeaf 1 = .ok (.iload_n 1, 1) := by decide +kernel
theorem dX12_isGoodLeaf_2 : decode cX12_isGoodLeaf 2 = .ok (.invokevirtual 305, 3) := by decide +kernel
theorem dX12_isGoodLeaf_5 : decode cX12_isGoodLeaf 5 = .ok (.iconst 1, 1) := by decide +kernel
theorem dX12_isGoodLeaf_6 : decode cX12_isGoodLeaf 6 = .ok (.istore_n 2, 1) := by decide +kernel
theorem dX12_isGoodLeaf_7 : decode cX12_isGoodLeaf 7 = .ok (.iconst 0, 1) := by decide +kernel
theorem dX12_isGoodLeaf_8 : decode cX12_isGoodLeaf 8 = .ok (.istore_n 3, 1) := by decide +kernel
theorem dX12_isGoodLeaf_9 : decode cX12_isGoodLeaf 9 = .ok (.iload_n 3, 1) := by decide +kernel
theorem dX12_isGoodLeaf_10 : decode cX12_isGoodLeaf 10 = .ok (.aload_n 0, 1) := by decide +kernel
theorem dX12_isGoodLeaf_11 : decode cX12_isGoodLeaf 11 = .ok (.getfield 123, 3) := by decide +kernel
theorem dX12_isGoodLeaf_14 : decode cX12_isGoodLeaf 14 = .ok (.if_icmp .ge 56, 3) := by decide +kernel
theorem dX12_isGoodLeaf_17 : decode cX12_isGoodLeaf 17 = .ok (.aload_n 0, 1) := by decide +kernel
theorem dX12_isGoodLeaf_18 : decode cX12_isGoodLeaf 18 = .ok (.iload_n 1, 1) := by decide +kernel
theorem dX12_isGoodLeaf_19 : decode cX12_isGoodLeaf 19 = .ok (.iload_n 3, 1) := by decide +kernel
theorem dX12_isGoodLeaf_20 : decode cX12_isGoodLeaf 20 = .ok (.invokevirtual 308, 3) := by decide +kernel
theorem dX12_isGoodLeaf_23 : decode cX12_isGoodLeaf 23 = .ok (.istore 4, 2) := by decide +kernel
theorem dX12_isGoodLeaf_25 : decode cX12_isGoodLeaf 25 = .ok (.iload_n 2, 1) := by decide +kernel
theorem dX12_isGoodLeaf_26 : decode cX12_isGoodLeaf 26 = .ok (.ifCond .eq 36, 3) := by decide +kernel
theorem dX12_isGoodLeaf_29 : decode cX12_isGoodLeaf 29 = .ok (.aload_n 0, 1) := by decide +kernel
theorem dX12_isGoodLeaf_30 : decode cX12_isGoodLeaf 30 = .ok (.getfield 16, 3) := by decide +kernel
theorem dX12_isGoodLeaf_33 : decode cX12_isGoodLeaf 33 = .ok (.iload_n 3, 1) := by decide +kernel
theorem dX12_isGoodLeaf_34 : decode cX12_isGoodLeaf 34 = .ok (.iaload, 1) := by decide +kernel
theorem dX12_isGoodLeaf_35 : decode cX12_isGoodLeaf 35 = .ok (.ifCond .ne 8, 3) := by decide +kernel
theorem dX12_isGoodLeaf_38 : decode cX12_isGoodLeaf 38 = .ok (.iload 4, 2) := by decide +kernel
theorem dX12_isGoodLeaf_40 : decode cX12_isGoodLeaf 40 = .ok (.ifCond .lt 22, 3) := by decide +kernel
theorem dX12_isGoodLeaf_43 : decode cX12_isGoodLeaf 43 = .ok (.aload_n 0, 1) := by decide +kernel
theorem dX12_isGoodLeaf_44 : decode cX12_isGoodLeaf 44 = .ok (.getfield 16, 3) := by decide +kernel
theorem dX12_isGoodLeaf_47 : decode cX12_isGoodLeaf 47 = .ok (.iload_n 3, 1) := by decide +kernel
theorem dX12_isGoodLeaf_48 : decode cX12_isGoodLeaf 48 = .ok (.iaload, 1) := by decide +kernel
theorem dX12_isGoodLeaf_49 : decode cX12_isGoodLeaf 49 = .ok (.iconst 1, 1) := by decide +kernel
theorem dX12_isGoodLeaf_50 : decode cX12_isGoodLeaf 50 = .ok (.if_icmp .ne 8, 3) := by decide +kernel
theorem dX12_isGoodLeaf_53 : decode cX12_isGoodLeaf 53 = .ok (.iload 4, 2) := by decide +kernel
theorem dX12_isGoodLeaf_55 : decode cX12_isGoodLeaf 55 = .ok (.ifCond .gt 7, 3) := by decide +kernel
theorem dX12_isGoodLeaf_58 : decode cX12_isGoodLeaf 58 = .ok (.iconst 1, 1) := by decide +kernel
theorem dX12_isGoodLeaf_59 : decode cX12_isGoodLeaf 59 = .ok (.goto 4, 3) := by decide +kernel
theorem dX12_isGoodLeaf_62 : decode cX12_isGoodLeaf 62 = .ok (.iconst 0, 1) := by decide +kernel
theorem dX12_isGoodLeaf_63 : decode cX12_isGoodLeaf 63 = .ok (.istore_n 2, 1) := by decide +kernel
theorem dX12_isGoodLeaf_64 : decode cX12_isGoodLeaf 64 = .ok (.iinc 3 1, 3) := by decide +kernel
theorem dX12_isGoodLeaf_67 : decode cX12_isGoodLeaf 67 = .ok (.goto (-58), 3) := by decide +kernel
theorem dX12_isGoodLeaf_70 : decode cX12_isGoodLeaf 70 = .ok (.iconst 0, 1) := by decide +kernel
theorem dX12_isGoodLeaf_71 : decode cX12_isGoodLeaf 71 = .ok (.istore_n 3, 1) := by decide +kernel
theorem dX12_isGoodLeaf_72 : decode cX12_isGoodLeaf 72 = .ok (.iload_n 3, 1) := by decide +kernel
theorem dX12_isGoodLeaf_73 : decode cX12_isGoodLeaf 73 = .ok (.aload_n 0, 1) := by decide +kernel
theorem dX12_isGoodLeaf_74 : decode cX12_isGoodLeaf 74 = .ok (.getfield 120, 3) := by decide +kernel
theorem dX12_isGoodLeaf_77 : decode cX12_isGoodLeaf 77 = .ok (.if_icmp .ge 85, 3) := by decide +kernel
theorem dX12_isGoodLeaf_80 : decode cX12_isGoodLeaf 80 = .ok (.aload_n 0, 1) := by decide +kernel
theorem dX12_isGoodLeaf_81 : decode cX12_isGoodLeaf 81 = .ok (.iload_n 1, 1) := by decide +kernel
theorem dX12_isGoodLeaf_82 : decode cX12_isGoodLeaf 82 = .ok (.bipush 12, 2) := by decide +kernel
theorem dX12_isGoodLeaf_84 : decode cX12_isGoodLeaf 84 = .ok (.iload_n 3, 1) := by decide +kernel
theorem dX12_isGoodLeaf_85 : decode cX12_isGoodLeaf 85 = .ok (.iadd, 1) := by decide +kernel
theorem dX12_isGoodLeaf_86 : decode cX12_isGoodLeaf 86 = .ok (.invokevirtual 308, 3) := by decide +kernel
theorem dX12_isGoodLeaf_89 : decode cX12_isGoodLeaf 89 = .ok (.istore 4, 2) := by decide +kernel
theorem dX12_isGoodLeaf_91 : decode cX12_isGoodLeaf 91 = .ok (.aload_n 0, 1) := by decide +kernel
theorem dX12_isGoodLeaf_92 : decode cX12_isGoodLeaf 92 = .ok (.iload_n 1, 1) := by decide +kernel
theorem dX12_isGoodLeaf_93 : decode cX12_isGoodLeaf 93 = .ok (.bipush 22, 2) := by decide +kernel
theorem dX12_isGoodLeaf_95 : decode cX12_isGoodLeaf 95 = .ok (.iload_n 3, 1) := by decide +kernel
theorem dX12_isGoodLeaf_96 : decode cX12_isGoodLeaf 96 = .ok (.iadd, 1) := by decide +kernel
theorem dX12_isGoodLeaf_97 : decode cX12_isGoodLeaf 97 = .ok (.invokevirtual 308, 3) := by decide +kernel
theorem dX12_isGoodLeaf_100 : decode cX12_isGoodLeaf 100 = .ok (.istore 5, 2) := by decide +kernel
theorem dX12_isGoodLeaf_102 : decode cX12_isGoodLeaf 102 = .ok (.iload_n 2, 1) := by decide +kernel
theorem dX12_isGoodLeaf_103 : decode cX12_isGoodLeaf 103 = .ok (.ifCond .eq 51, 3) := by decide +kernel
theorem dX12_isGoodLeaf_106 : decode cX12_isGoodLeaf 106 = .ok (.iload 4, 2) := by decide +kernel
theorem dX12_isGoodLeaf_108 : decode cX12_isGoodLeaf 108 = .ok (.ifCond .lt 46, 3) := by decide +kernel
theorem dX12_isGoodLeaf_111 : decode cX12_isGoodLeaf 111 = .ok (.iload 5, 2) := by decide +kernel
theorem dX12_isGoodLeaf_113 : decode cX12_isGoodLeaf 113 = .ok (.ifCond .gt 41, 3) := by decide +kernel
theorem dX12_isGoodLeaf_116 : decode cX12_isGoodLeaf 116 = .ok (.aload_n 0, 1) := by decide +kernel
theorem dX12_isGoodLeaf_117 : decode cX12_isGoodLeaf 117 = .ok (.getfield 65, 3) := by decide +kernel
theorem dX12_isGoodLeaf_120 : decode cX12_isGoodLeaf 120 = .ok (.iconst 2, 1) := by decide +kernel
theorem dX12_isGoodLeaf_121 : decode cX12_isGoodLeaf 121 = .ok (.iload_n 3, 1) := by decide +kernel
theorem dX12_isGoodLeaf_122 : decode cX12_isGoodLeaf 122 = .ok (.imul, 1) := by decide +kernel
theorem dX12_isGoodLeaf_123 : decode cX12_isGoodLeaf 123 = .ok (.baload, 1) := by decide +kernel
theorem dX12_isGoodLeaf_124 : decode cX12_isGoodLeaf 124 = .ok (.ifCond .ne 8, 3) := by decide +kernel
theorem dX12_isGoodLeaf_127 : decode cX12_isGoodLeaf 127 = .ok (.iload 4, 2) := by decide +kernel
theorem dX12_isGoodLeaf_129 : decode cX12_isGoodLeaf 129 = .ok (.ifCond .ne 25, 3) := by decide +kernel
theorem dX12_isGoodLeaf_132 : decode cX12_isGoodLeaf 132 = .ok (.aload_n 0, 1) := by decide +kernel
theorem dX12_isGoodLeaf_133 : decode cX12_isGoodLeaf 133 = .ok (.getfield 65, 3) := by decide +kernel
theorem dX12_isGoodLeaf_136 : decode cX12_isGoodLeaf 136 = .ok (.iconst 2, 1) := by decide +kernel
theorem dX12_isGoodLeaf_137 : decode cX12_isGoodLeaf 137 = .ok (.iload_n 3, 1) := by decide +kernel
theorem dX12_isGoodLeaf_138 : decode cX12_isGoodLeaf 138 = .ok (.imul, 1) := by decide +kernel
theorem dX12_isGoodLeaf_139 : decode cX12_isGoodLeaf 139 = .ok (.iconst 1, 1) := by decide +kernel
theorem dX12_isGoodLeaf_140 : decode cX12_isGoodLeaf 140 = .ok (.iadd, 1) := by decide +kernel
theorem dX12_isGoodLeaf_141 : decode cX12_isGoodLeaf 141 = .ok (.baload, 1) := by decide +kernel
theorem dX12_isGoodLeaf_142 : decode cX12_isGoodLeaf 142 = .ok (.ifCond .ne 8, 3) := by decide +kernel
theorem dX12_isGoodLeaf_145 : decode cX12_isGoodLeaf 145 = .ok (.iload 5, 2) := by decide +kernel
theorem dX12_isGoodLeaf_147 : decode cX12_isGoodLeaf 147 = .ok (.ifCond .ne 7, 3) := by decide +kernel
theorem dX12_isGoodLeaf_150 : decode cX12_isGoodLeaf 150 = .ok (.iconst 1, 1) := by decide +kernel
theorem dX12_isGoodLeaf_151 : decode cX12_isGoodLeaf 151 = .ok (.goto 4, 3) := by decide +kernel
theorem dX12_isGoodLeaf_154 : decode cX12_isGoodLeaf 154 = .ok (.iconst 0, 1) := by decide +kernel
theorem dX12_isGoodLeaf_155 : decode cX12_isGoodLeaf 155 = .ok (.istore_n 2, 1) := by decide +kernel
theorem dX12_isGoodLeaf_156 : decode cX12_isGoodLeaf 156 = .ok (.iinc 3 1, 3) := by decide +kernel
theorem dX12_isGoodLeaf_159 : decode cX12_isGoodLeaf 159 = .ok (.goto (-87), 3) := by decide +kernel
theorem dX12_isGoodLeaf_162 : decode cX12_isGoodLeaf 162 = .ok (.iconst 0, 1) := by decide +kernel
theorem dX12_isGoodLeaf_163 : decode cX12_isGoodLeaf 163 = .ok (.istore_n 3, 1) := by decide +kernel
theorem dX12_isGoodLeaf_164 : decode cX12_isGoodLeaf 164 = .ok (.iload_n 3, 1) := by decide +kernel
theorem dX12_isGoodLeaf_165 : decode cX12_isGoodLeaf 165 = .ok (.aload_n 0, 1) := by decide +kernel
theorem dX12_isGoodLeaf_166 : decode cX12_isGoodLeaf 166 = .ok (.getfield 120, 3) := by decide +kernel
theorem dX12_isGoodLeaf_169 : decode cX12_isGoodLeaf 169 = .ok (.if_icmp .ge 116, 3) := by decide +kernel
theorem dX12_isGoodLeaf_172 : decode cX12_isGoodLeaf 172 = .ok (.iload_n 2, 1) := by decide +kernel
theorem dX12_isGoodLeaf_173 : decode cX12_isGoodLeaf 173 = .ok (.ifCond .eq 112, 3) := by decide +kernel
theorem dX12_isGoodLeaf_176 : decode cX12_isGoodLeaf 176 = .ok (.aload_n 0, 1) := by decide +kernel
theorem dX12_isGoodLeaf_177 : decode cX12_isGoodLeaf 177 = .ok (.getfield 76, 3) := by decide +kernel
theorem dX12_isGoodLeaf_180 : decode cX12_isGoodLeaf 180 = .ok (.istore 4, 2) := by decide +kernel
theorem dX12_isGoodLeaf_182 : decode cX12_isGoodLeaf 182 = .ok (.aload_n 0, 1) := by decide +kernel
theorem dX12_isGoodLeaf_183 : decode cX12_isGoodLeaf 183 = .ok (.invokevirtual 280, 3) := by decide +kernel
theorem dX12_isGoodLeaf_186 : decode cX12_isGoodLeaf 186 = .ok (.iconst 0, 1) := by decide +kernel
theorem dX12_isGoodLeaf_187 : decode cX12_isGoodLeaf 187 = .ok (.istore 5, 2) := by decide +kernel
theorem dX12_isGoodLeaf_189 : decode cX12_isGoodLeaf 189 = .ok (.iload 5, 2) := by decide +kernel
theorem dX12_isGoodLeaf_191 : decode cX12_isGoodLeaf 191 = .ok (.aload_n 0, 1) := by decide +kernel
theorem dX12_isGoodLeaf_192 : decode cX12_isGoodLeaf 192 = .ok (.getfield 123, 3) := by decide +kernel
theorem dX12_isGoodLeaf_195 : decode cX12_isGoodLeaf 195 = .ok (.if_icmp .ge 33, 3) := by decide +kernel
theorem dX12_isGoodLeaf_198 : decode cX12_isGoodLeaf 198 = .ok (.aload_n 0, 1) := by decide +kernel
theorem dX12_isGoodLeaf_199 : decode cX12_isGoodLeaf 199 = .ok (.iload_n 1, 1) := by decide +kernel
theorem dX12_isGoodLeaf_200 : decode cX12_isGoodLeaf 200 = .ok (.iload 5, 2) := by decide +kernel
theorem dX12_isGoodLeaf_202 : decode cX12_isGoodLeaf 202 = .ok (.aload_n 0, 1) := by decide +kernel
theorem dX12_isGoodLeaf_203 : decode cX12_isGoodLeaf 203 = .ok (.aload_n 0, 1) := by decide +kernel
theorem dX12_isGoodLeaf_204 : decode cX12_isGoodLeaf 204 = .ok (.getfield 12, 3) := by decide +kernel
theorem dX12_isGoodLeaf_207 : decode cX12_isGoodLeaf 207 = .ok (.bipush 10, 2) := by decide +kernel
theorem dX12_isGoodLeaf_209 : decode cX12_isGoodLeaf 209 = .ok (.iload 5, 2) := by decide +kernel
theorem dX12_isGoodLeaf_211 : decode cX12_isGoodLeaf 211 = .ok (.imul, 1) := by decide +kernel
theorem dX12_isGoodLeaf_212 : decode cX12_isGoodLeaf 212 = .ok (.iload_n 3, 1) := by decide +kernel
theorem dX12_isGoodLeaf_213 : decode cX12_isGoodLeaf 213 = .ok (.iadd, 1) := by decide +kernel
theorem dX12_isGoodLeaf_214 : decode cX12_isGoodLeaf 214 = .ok (.iaload, 1) := by decide +kernel
theorem dX12_isGoodLeaf_215 : decode cX12_isGoodLeaf 215 = .ok (.i2l, 1) := by decide +kernel
theorem dX12_isGoodLeaf_216 : decode cX12_isGoodLeaf 216 = .ok (.invokevirtual 88, 3) := by decide +kernel
theorem dX12_isGoodLeaf_219 : decode cX12_isGoodLeaf 219 = .ok (.invokevirtual 311, 3) := by decide +kernel
theorem dX12_isGoodLeaf_222 : decode cX12_isGoodLeaf 222 = .ok (.iinc 5 1, 3) := by decide +kernel
theorem dX12_isGoodLeaf_225 : decode cX12_isGoodLeaf 225 = .ok (.goto (-36), 3) := by decide +kernel
theorem dX12_isGoodLeaf_228 : decode cX12_isGoodLeaf 228 = .ok (.aload_n 0, 1) := by decide +kernel
theorem dX12_isGoodLeaf_229 : decode cX12_isGoodLeaf 229 = .ok (.iload_n 1, 1) := by decide +kernel
theorem dX12_isGoodLeaf_230 : decode cX12_isGoodLeaf 230 = .ok (.bipush 12, 2) := by decide +kernel
theorem dX12_isGoodLeaf_232 : decode cX12_isGoodLeaf 232 = .ok (.iload_n 3, 1) := by decide +kernel
theorem dX12_isGoodLeaf_233 : decode cX12_isGoodLeaf 233 = .ok (.iadd, 1) := by decide +kernel
theorem dX12_isGoodLeaf_234 : decode cX12_isGoodLeaf 234 = .ok (.aload_n 0, 1) := by decide +kernel
theorem dX12_isGoodLeaf_235 : decode cX12_isGoodLeaf 235 = .ok (.lconst 1, 1) := by decide +kernel
theorem dX12_isGoodLeaf_236 : decode cX12_isGoodLeaf 236 = .ok (.invokevirtual 88, 3) := by decide +kernel
theorem dX12_isGoodLeaf_239 : decode cX12_isGoodLeaf 239 = .ok (.invokevirtual 311, 3) := by decide +kernel
theorem dX12_isGoodLeaf_242 : decode cX12_isGoodLeaf 242 = .ok (.aload_n 0, 1) := by decide +kernel
theorem dX12_isGoodLeaf_243 : decode cX12_isGoodLeaf 243 = .ok (.iload_n 1, 1) := by decide +kernel
theorem dX12_isGoodLeaf_244 : decode cX12_isGoodLeaf 244 = .ok (.bipush 22, 2) := by decide +kernel
theorem dX12_isGoodLeaf_246 : decode cX12_isGoodLeaf 246 = .ok (.iload_n 3, 1) := by decide +kernel
theorem dX12_isGoodLeaf_247 : decode cX12_isGoodLeaf 247 = .ok (.iadd, 1) := by decide +kernel
theorem dX12_isGoodLeaf_248 : decode cX12_isGoodLeaf 248 = .ok (.aload_n 0, 1) := by decide +kernel
theorem dX12_isGoodLeaf_249 : decode cX12_isGoodLeaf 249 = .ok (.lconst 1, 1) := by decide +kernel
theorem dX12_isGoodLeaf_250 : decode cX12_isGoodLeaf 250 = .ok (.invokevirtual 88, 3) := by decide +kernel
theorem dX12_isGoodLeaf_253 : decode cX12_isGoodLeaf 253 = .ok (.invokevirtual 311, 3) := by decide +kernel
theorem dX12_isGoodLeaf_256 : decode cX12_isGoodLeaf 256 = .ok (.aload_n 0, 1) := by decide +kernel
theorem dX12_isGoodLeaf_257 : decode cX12_isGoodLeaf 257 = .ok (.aload_n 0, 1) := by decide +kernel
theorem dX12_isGoodLeaf_258 : decode cX12_isGoodLeaf 258 = .ok (.getfield 274, 3) := by decide +kernel
theorem dX12_isGoodLeaf_261 : decode cX12_isGoodLeaf 261 = .ok (.invokevirtual 191, 3) := by decide +kernel
theorem dX12_isGoodLeaf_264 : decode cX12_isGoodLeaf 264 = .ok (.ifCond .ne 7, 3) := by decide +kernel
theorem dX12_isGoodLeaf_267 : decode cX12_isGoodLeaf 267 = .ok (.iconst 1, 1) := by decide +kernel
theorem dX12_isGoodLeaf_268 : decode cX12_isGoodLeaf 268 = .ok (.goto 4, 3) := by decide +kernel
theorem dX12_isGoodLeaf_271 : decode cX12_isGoodLeaf 271 = .ok (.iconst 0, 1) := by decide +kernel
theorem dX12_isGoodLeaf_272 : decode cX12_isGoodLeaf 272 = .ok (.istore_n 2, 1) := by decide +kernel
theorem dX12_isGoodLeaf_273 : decode cX12_isGoodLeaf 273 = .ok (.aload_n 0, 1) := by decide +kernel
theorem dX12_isGoodLeaf_274 : decode cX12_isGoodLeaf 274 = .ok (.iload 4, 2) := by decide +kernel
theorem dX12_isGoodLeaf_276 : decode cX12_isGoodLeaf 276 = .ok (.putfield 76, 3) := by decide +kernel
theorem dX12_isGoodLeaf_279 : decode cX12_isGoodLeaf 279 = .ok (.iinc 3 1, 3) := by decide +kernel
theorem dX12_isGoodLeaf_282 : decode cX12_isGoodLeaf 282 = .ok (.goto (-118), 3) := by decide +kernel
theorem dX12_isGoodLeaf_285 : decode cX12_isGoodLeaf 285 = .ok (.iload_n 2, 1) := by decide +kernel
theorem dX12_isGoodLeaf_286 : decode cX12_isGoodLeaf 286 = .ok (.ifCond .ne 5, 3) := by decide +kernel
theorem dX12_isGoodLeaf_289 : decode cX12_isGoodLeaf 289 = .ok (.iconst 0, 1) := by decide +kernel
theorem dX12_isGoodLeaf_290 : decode cX12_isGoodLeaf 290 = .ok (.ireturn, 1) := by decide +kernel
theorem dX12_isGoodLeaf_291 : decode cX12_isGoodLeaf 291 = .ok (.aload_n 0, 1) := by decide +kernel
theorem dX12_isGoodLeaf_292 : decode cX12_isGoodLeaf 292 = .ok (.invokevirtual 280, 3) := by decide +kernel
theorem dX12_isGoodLeaf_295 : decode cX12_isGoodLeaf 295 = .ok (.iconst 0, 1) := by decide +kernel
theorem dX12_isGoodLeaf_296 : decode cX12_isGoodLeaf 296 = .ok (.istore_n 3, 1) := by decide +kernel
theorem dX12_isGoodLeaf_297 : decode cX12_isGoodLeaf 297 = .ok (.iload_n 3, 1) := by decide +kernel
theorem dX12_isGoodLeaf_298 : decode cX12_isGoodLeaf 298 = .ok (.aload_n 0, 1) := by decide +kernel
theorem dX12_isGoodLeaf_299 : decode cX12_isGoodLeaf 299 = .ok (.getfield 123, 3) := by decide +kernel
theorem dX12_isGoodLeaf_302 : decode cX12_isGoodLeaf 302 = .ok (.if_icmp .ge 26, 3) := by decide +kernel
theorem dX12_isGoodLeaf_305 : decode cX12_isGoodLeaf 305 = .ok (.aload_n 0, 1) := by decide +kernel
theorem dX12_isGoodLeaf_306 : decode cX12_isGoodLeaf 306 = .ok (.iload_n 1, 1) := by decide +kernel
theorem dX12_isGoodLeaf_307 : decode cX12_isGoodLeaf 307 = .ok (.iload_n 3, 1) := by decide +kernel
theorem dX12_isGoodLeaf_308 : decode cX12_isGoodLeaf 308 = .ok (.aload_n 0, 1) := by decide +kernel
theorem dX12_isGoodLeaf_309 : decode cX12_isGoodLeaf 309 = .ok (.aload_n 0, 1) := by decide +kernel
theorem dX12_isGoodLeaf_310 : decode cX12_isGoodLeaf 310 = .ok (.getfield 19, 3) := by decide +kernel
theorem dX12_isGoodLeaf_313 : decode cX12_isGoodLeaf 313 = .ok (.iload_n 3, 1) := by decide +kernel
theorem dX12_isGoodLeaf_314 : decode cX12_isGoodLeaf 314 = .ok (.iaload, 1) := by decide +kernel
theorem dX12_isGoodLeaf_315 : decode cX12_isGoodLeaf 315 = .ok (.i2l, 1) := by decide +kernel
theorem dX12_isGoodLeaf_316 : decode cX12_isGoodLeaf 316 = .ok (.invokevirtual 88, 3) := by decide +kernel
theorem dX12_isGoodLeaf_319 : decode cX12_isGoodLeaf 319 = .ok (.invokevirtual 311, 3) := by decide +kernel
theorem dX12_isGoodLeaf_322 : decode cX12_isGoodLeaf 322 = .ok (.iinc 3 1, 3) := by decide +kernel
theorem dX12_isGoodLeaf_325 : decode cX12_isGoodLeaf 325 = .ok (.goto (-28), 3) := by decide +kernel
theorem dX12_isGoodLeaf_328 : decode cX12_isGoodLeaf 328 = .ok (.iconst 0, 1) := by decide +kernel
theorem dX12_isGoodLeaf_329 : decode cX12_isGoodLeaf 329 = .ok (.istore_n 3, 1) := by decide +kernel
theorem dX12_isGoodLeaf_330 : decode cX12_isGoodLeaf 330 = .ok (.iload_n 3, 1) := by decide +kernel
theorem dX12_isGoodLeaf_331 : decode cX12_isGoodLeaf 331 = .ok (.aload_n 0, 1) := by decide +kernel
theorem dX12_isGoodLeaf_332 : decode cX12_isGoodLeaf 332 = .ok (.getfield 120, 3) := by decide +kernel
theorem dX12_isGoodLeaf_335 : decode cX12_isGoodLeaf 335 = .ok (.if_icmp .ge 69, 3) := by decide +kernel
theorem dX12_isGoodLeaf_338 : decode cX12_isGoodLeaf 338 = .ok (.aload_n 0, 1) := by decide +kernel
theorem dX12_isGoodLeaf_339 : decode cX12_isGoodLeaf 339 = .ok (.getfield 65, 3) := by decide +kernel
theorem dX12_isGoodLeaf_342 : decode cX12_isGoodLeaf 342 = .ok (.iconst 2, 1) := by decide +kernel
theorem dX12_isGoodLeaf_343 : decode cX12_isGoodLeaf 343 = .ok (.iload_n 3, 1) := by decide +kernel
theorem dX12_isGoodLeaf_344 : decode cX12_isGoodLeaf 344 = .ok (.imul, 1) := by decide +kernel
theorem dX12_isGoodLeaf_345 : decode cX12_isGoodLeaf 345 = .ok (.baload, 1) := by decide +kernel
theorem dX12_isGoodLeaf_346 : decode cX12_isGoodLeaf 346 = .ok (.ifCond .eq 20, 3) := by decide +kernel
theorem dX12_isGoodLeaf_349 : decode cX12_isGoodLeaf 349 = .ok (.aload_n 0, 1) := by decide +kernel
theorem dX12_isGoodLeaf_350 : decode cX12_isGoodLeaf 350 = .ok (.iload_n 1, 1) := by decide +kernel
theorem dX12_isGoodLeaf_351 : decode cX12_isGoodLeaf 351 = .ok (.bipush 12, 2) := by decide +kernel
theorem dX12_isGoodLeaf_353 : decode cX12_isGoodLeaf 353 = .ok (.iload_n 3, 1) := by decide +kernel
theorem dX12_isGoodLeaf_354 : decode cX12_isGoodLeaf 354 = .ok (.iadd, 1) := by decide +kernel
theorem dX12_isGoodLeaf_355 : decode cX12_isGoodLeaf 355 = .ok (.aload_n 0, 1) := by decide +kernel
theorem dX12_isGoodLeaf_356 : decode cX12_isGoodLeaf 356 = .ok (.getfield 68, 3) := by decide +kernel
theorem dX12_isGoodLeaf_359 : decode cX12_isGoodLeaf 359 = .ok (.iconst 2, 1) := by decide +kernel
theorem dX12_isGoodLeaf_360 : decode cX12_isGoodLeaf 360 = .ok (.iload_n 3, 1) := by decide +kernel
theorem dX12_isGoodLeaf_361 : decode cX12_isGoodLeaf 361 = .ok (.imul, 1) := by decide +kernel
theorem dX12_isGoodLeaf_362 : decode cX12_isGoodLeaf 362 = .ok (.iaload, 1) := by decide +kernel
theorem dX12_isGoodLeaf_363 : decode cX12_isGoodLeaf 363 = .ok (.invokevirtual 311, 3) := by decide +kernel
theorem dX12_isGoodLeaf_366 : decode cX12_isGoodLeaf 366 = .ok (.aload_n 0, 1) := by decide +kernel
theorem dX12_isGoodLeaf_367 : decode cX12_isGoodLeaf 367 = .ok (.getfield 65, 3) := by decide +kernel
theorem dX12_isGoodLeaf_370 : decode cX12_isGoodLeaf 370 = .ok (.iconst 2, 1) := by decide +kernel
theorem dX12_isGoodLeaf_371 : decode cX12_isGoodLeaf 371 = .ok (.iload_n 3, 1) := by decide +kernel
theorem dX12_isGoodLeaf_372 : decode cX12_isGoodLeaf 372 = .ok (.imul, 1) := by decide +kernel
theorem dX12_isGoodLeaf_373 : decode cX12_isGoodLeaf 373 = .ok (.iconst 1, 1) := by decide +kernel
theorem dX12_isGoodLeaf_374 : decode cX12_isGoodLeaf 374 = .ok (.iadd, 1) := by decide +kernel
theorem dX12_isGoodLeaf_375 : decode cX12_isGoodLeaf 375 = .ok (.baload, 1) := by decide +kernel
theorem dX12_isGoodLeaf_376 : decode cX12_isGoodLeaf 376 = .ok (.ifCond .eq 22, 3) := by decide +kernel
theorem dX12_isGoodLeaf_379 : decode cX12_isGoodLeaf 379 = .ok (.aload_n 0, 1) := by decide +kernel
theorem dX12_isGoodLeaf_380 : decode cX12_isGoodLeaf 380 = .ok (.iload_n 1, 1) := by decide +kernel
theorem dX12_isGoodLeaf_381 : decode cX12_isGoodLeaf 381 = .ok (.bipush 22, 2) := by decide +kernel
theorem dX12_isGoodLeaf_383 : decode cX12_isGoodLeaf 383 = .ok (.iload_n 3, 1) := by decide +kernel
theorem dX12_isGoodLeaf_384 : decode cX12_isGoodLeaf 384 = .ok (.iadd, 1) := by decide +kernel
theorem dX12_isGoodLeaf_385 : decode cX12_isGoodLeaf 385 = .ok (.aload_n 0, 1) := by decide +kernel
theorem dX12_isGoodLeaf_386 : decode cX12_isGoodLeaf 386 = .ok (.getfield 68, 3) := by decide +kernel
theorem dX12_isGoodLeaf_389 : decode cX12_isGoodLeaf 389 = .ok (.iconst 2, 1) := by decide +kernel
theorem dX12_isGoodLeaf_390 : decode cX12_isGoodLeaf 390 = .ok (.iload_n 3, 1) := by decide +kernel
theorem dX12_isGoodLeaf_391 : decode cX12_isGoodLeaf 391 = .ok (.imul, 1) := by decide +kernel
theorem dX12_isGoodLeaf_392 : decode cX12_isGoodLeaf 392 = .ok (.iconst 1, 1) := by decide +kernel
theorem dX12_isGoodLeaf_393 : decode cX12_isGoodLeaf 393 = .ok (.iadd, 1) := by decide +kernel
theorem dX12_isGoodLeaf_394 : decode cX12_isGoodLeaf 394 = .ok (.iaload, 1) := by decide +kernel
theorem dX12_isGoodLeaf_395 : decode cX12_isGoodLeaf 395 = .ok (.invokevirtual 311, 3) := by decide +kernel
theorem dX12_isGoodLeaf_398 : decode cX12_isGoodLeaf 398 = .ok (.iinc 3 1, 3) := by decide +kernel
theorem dX12_isGoodLeaf_401 : decode cX12_isGoodLeaf 401 = .ok (.goto (-71), 3) := by decide +kernel
theorem dX12_isGoodLeaf_404 : decode cX12_isGoodLeaf 404 = .ok (.aload_n 0, 1) := by decide +kernel
theorem dX12_isGoodLeaf_405 : decode cX12_isGoodLeaf 405 = .ok (.aload_n 0, 1) := by decide +kernel
theorem dX12_isGoodLeaf_406 : decode cX12_isGoodLeaf 406 = .ok (.getfield 274, 3) := by decide +kernel
theorem dX12_isGoodLeaf_409 : decode cX12_isGoodLeaf 409 = .ok (.invokevirtual 191, 3) := by decide +kernel
theorem dX12_isGoodLeaf_412 : decode cX12_isGoodLeaf 412 = .ok (.ifCond .ge 7, 3) := by decide +kernel
theorem dX12_isGoodLeaf_415 : decode cX12_isGoodLeaf 415 = .ok (.iconst 1, 1) := by decide +kernel
theorem dX12_isGoodLeaf_416 : decode cX12_isGoodLeaf 416 = .ok (.goto 4, 3) := by decide +kernel
theorem dX12_isGoodLeaf_419 : decode cX12_isGoodLeaf 419 = .ok (.iconst 0, 1) := by decide +kernel
theorem dX12_isGoodLeaf_420 : decode cX12_isGoodLeaf 420 = .ok (.ireturn, 1) := by decide +kernel
theorem dX12_add_0 : decode cX12_add 0 = .ok (.aload_n 0, 1) := by decide +kernel
theorem dX12_add_1 : decode cX12_add 1 = .ok (.iload_n 3, 1) := by decide +kernel
theorem dX12_add_2 : decode cX12_add 2 = .ok (.aload_n 0, 1) := by decide +kernel
theorem dX12_add_3 : decode cX12_add 3 = .ok (.getfield 56, 3) := by decide +kernel
theorem dX12_add_6 : decode cX12_add 6 = .ok (.iload_n 1, 1) := by decide +kernel
theorem dX12_add_7 : decode cX12_add 7 = .ok (.iaload, 1) := by decide +kernel
theorem dX12_add_8 : decode cX12_add 8 = .ok (.iload_n 2, 1) := by decide +kernel
theorem dX12_add_9 : decode cX12_add 9 = .ok (.iconst 0, 1) := by decide +kernel
theorem dX12_add_10 : decode cX12_add 10 = .ok (.invokestatic 172, 3) := by decide +kernel
theorem dX12_add_13 : decode cX12_add 13 = .ok (.aload_n 0, 1) := by decide +kernel
theorem dX12_add_14 : decode cX12_add 14 = .ok (.getfield 56, 3) := by decide +kernel
theorem dX12_add_17 : decode cX12_add 17 = .ok (.iload_n 1, 1) := by decide +kernel
theorem dX12_add_18 : decode cX12_add 18 = .ok (.iaload, 1) := by decide +kernel
theorem dX12_add_19 : decode cX12_add 19 = .ok (.iload_n 2, 1) := by decide +kernel
theorem dX12_add_20 : decode cX12_add 20 = .ok (.iconst 1, 1) := by decide +kernel
theorem dX12_add_21 : decode cX12_add 21 = .ok (.invokestatic 172, 3) := by decide +kernel
theorem dX12_add_24 : decode cX12_add 24 = .ok (.invokevirtual 283, 3) := by decide +kernel
theorem dX12_add_27 : decode cX12_add 27 = .ok (.return_, 1) := by decide +kernel
theorem dX12_judgeTree_0 : decode cX12_judgeTree 0 = .ok (.aload_n 0, 1) := by decide +kernel
theorem dX12_judgeTree_1 : decode cX12_judgeTree 1 = .ok (.getfield 111, 3) := by decide +kernel
theorem dX12_judgeTree_4 : decode cX12_judgeTree 4 = .ok (.ifCond .ne 5, 3) := by decide +kernel
theorem dX12_judgeTree_7 : decode cX12_judgeTree 7 = .ok (.iconst (-1), 1) := by decide +kernel
theorem dX12_judgeTree_8 : decode cX12_judgeTree 8 = .ok (.ireturn, 1) := by decide +kernel
theorem dX12_judgeTree_9 : decode cX12_judgeTree 9 = .ok (.iconst 0, 1) := by decide +kernel
theorem dX12_judgeTree_10 : decode cX12_judgeTree 10 = .ok (.istore_n 1, 1) := by decide +kernel
theorem dX12_judgeTree_11 : decode cX12_judgeTree 11 = .ok (.iload_n 1, 1) := by decide +kernel
theorem dX12_judgeTree_12 : decode cX12_judgeTree 12 = .ok (.aload_n 0, 1) := by decide +kernel
theorem dX12_judgeTree_13 : decode cX12_judgeTree 13 = .ok (.getfield 111, 3) := by decide +kernel
theorem dX12_judgeTree_16 : decode cX12_judgeTree 16 = .ok (.if_icmp .ge 86, 3) := by decide +kernel
theorem dX12_judgeTree_19 : decode cX12_judgeTree 19 = .ok (.aload_n 0, 1) := by decide +kernel
theorem dX12_judgeTree_20 : decode cX12_judgeTree 20 = .ok (.getfield 76, 3) := by decide +kernel
theorem dX12_judgeTree_23 : decode cX12_judgeTree 23 = .ok (.istore_n 2, 1) := by decide +kernel
theorem dX12_judgeTree_24 : decode cX12_judgeTree 24 = .ok (.aload_n 0, 1) := by decide +kernel
theorem dX12_judgeTree_25 : decode cX12_judgeTree 25 = .ok (.getfield 38, 3) := by decide +kernel
theorem dX12_judgeTree_28 : decode cX12_judgeTree 28 = .ok (.iload_n 1, 1) := by decide +kernel
theorem dX12_judgeTree_29 : decode cX12_judgeTree 29 = .ok (.baload, 1) := by decide +kernel
theorem dX12_judgeTree_30 : decode cX12_judgeTree 30 = .ok (.ifCond .eq 47, 3) := by decide +kernel
theorem dX12_judgeTree_33 : decode cX12_judgeTree 33 = .ok (.aload_n 0, 1) := by decide +kernel
theorem dX12_judgeTree_34 : decode cX12_judgeTree 34 = .ok (.getfield 25, 3) := by decide +kernel
theorem dX12_judgeTree_37 : decode cX12_judgeTree 37 = .ok (.aload_n 0, 1) := by decide +kernel
theorem dX12_judgeTree_38 : decode cX12_judgeTree 38 = .ok (.getfield 44, 3) := by decide +kernel
theorem dX12_judgeTree_41 : decode cX12_judgeTree 41 = .ok (.iload_n 1, 1) := by decide +kernel
theorem dX12_judgeTree_42 : decode cX12_judgeTree 42 = .ok (.iaload, 1) := by decide +kernel
theorem dX12_judgeTree_43 : decode cX12_judgeTree 43 = .ok (.baload, 1) := by decide +kernel
theorem dX12_judgeTree_44 : decode cX12_judgeTree 44 = .ok (.ifCond .eq 29, 3) := by decide +kernel
theorem dX12_judgeTree_47 : decode cX12_judgeTree 47 = .ok (.aload_n 0, 1) := by decide +kernel
theorem dX12_judgeTree_48 : decode cX12_judgeTree 48 = .ok (.getfield 47, 3) := by decide +kernel
theorem dX12_judgeTree_51 : decode cX12_judgeTree 51 = .ok (.iload_n 1, 1) := by decide +kernel
theorem dX12_judgeTree_52 : decode cX12_judgeTree 52 = .ok (.iaload, 1) := by decide +kernel
theorem dX12_judgeTree_53 : decode cX12_judgeTree 53 = .ok (.bipush (-2), 2) := by decide +kernel
theorem dX12_judgeTree_55 : decode cX12_judgeTree 55 = .ok (.if_icmp .eq 18, 3) := by decide +kernel
theorem dX12_judgeTree_58 : decode cX12_judgeTree 58 = .ok (.aload_n 0, 1) := by decide +kernel
theorem dX12_judgeTree_59 : decode cX12_judgeTree 59 = .ok (.getfield 50, 3) := by decide +kernel
theorem dX12_judgeTree_62 : decode cX12_judgeTree 62 = .ok (.iload_n 1, 1) := by decide +kernel
theorem dX12_judgeTree_63 : decode cX12_judgeTree 63 = .ok (.iaload, 1) := by decide +kernel
theorem dX12_judgeTree_64 : decode cX12_judgeTree 64 = .ok (.bipush (-2), 2) := by decide +kernel
theorem dX12_judgeTree_66 : decode cX12_judgeTree 66 = .ok (.if_icmp .eq 7, 3) := by decide +kernel
theorem dX12_judgeTree_69 : decode cX12_judgeTree 69 = .ok (.iconst 1, 1) := by decide +kernel
theorem dX12_judgeTree_70 : decode cX12_judgeTree 70 = .ok (.goto 12, 3) := by decide +kernel
theorem dX12_judgeTree_73 : decode cX12_judgeTree 73 = .ok (.iconst 0, 1) := by decide +kernel
theorem dX12_judgeTree_74 : decode cX12_judgeTree 74 = .ok (.goto 8, 3) := by decide +kernel
theorem dX12_judgeTree_77 : decode cX12_judgeTree 77 = .ok (.aload_n 0, 1) := by decide +kernel
theorem dX12_judgeTree_78 : decode cX12_judgeTree 78 = .ok (.iload_n 1, 1) := by decide +kernel
theorem dX12_judgeTree_79 : decode cX12_judgeTree 79 = .ok (.invokevirtual 314, 3) := by decide +kernel
theorem dX12_judgeTree_82 : decode cX12_judgeTree 82 = .ok (.istore_n 3, 1) := by decide +kernel
theorem dX12_judgeTree_83 : decode cX12_judgeTree 83 = .ok (.aload_n 0, 1) := by decide +kernel
theorem dX12_judgeTree_84 : decode cX12_judgeTree 84 = .ok (.iload_n 2, 1) := by decide +kernel
theorem dX12_judgeTree_85 : decode cX12_judgeTree 85 = .ok (.putfield 76, 3) := by decide +kernel
theorem dX12_judgeTree_88 : decode cX12_judgeTree 88 = .ok (.iload_n 3, 1) := by decide +kernel
theorem dX12_judgeTree_89 : decode cX12_judgeTree 89 = .ok (.ifCond .ne 7, 3) := by decide +kernel
theorem dX12_judgeTree_92 : decode cX12_judgeTree 92 = .ok (.iconst 1, 1) := by decide +kernel
theorem dX12_judgeTree_93 : decode cX12_judgeTree 93 = .ok (.iload_n 1, 1) := by decide +kernel
theorem dX12_judgeTree_94 : decode cX12_judgeTree 94 = .ok (.iadd, 1) := by decide +kernel
theorem dX12_judgeTree_95 : decode cX12_judgeTree 95 = .ok (.ireturn, 1) := by decide +kernel
theorem dX12_judgeTree_96 : decode cX12_judgeTree 96 = .ok (.iinc 1 1, 3) := by decide +kernel
theorem dX12_judgeTree_99 : decode cX12_judgeTree 99 = .ok (.goto (-88), 3) := by decide +kernel
theorem dX12_judgeTree_102 : decode cX12_judgeTree 102 = .ok (.iconst 0, 1) := by decide +kernel
theorem dX12_judgeTree_103 : decode cX12_judgeTree 103 = .ok (.ireturn, 1) := by decide +kernel
theorem dX12_plainOf_0 : decode cX12_plainOf 0 = .ok (.aload_n 0, 1) := by decide +kernel
theorem dX12_plainOf_1 : decode cX12_plainOf 1 = .ok (.getfield 76, 3) := by decide +kernel
theorem dX12_plainOf_4 : decode cX12_plainOf 4 = .ok (.istore_n 3, 1) := by decide +kernel
theorem dX12_plainOf_5 : decode cX12_plainOf 5 = .ok (.lload_n 1, 1) := by decide +kernel
theorem dX12_plainOf_6 : decode cX12_plainOf 6 = .ok (.lconst 0, 1) := by decide +kernel
theorem dX12_plainOf_7 : decode cX12_plainOf 7 = .ok (.lcmp, 1) := by decide +kernel
theorem dX12_plainOf_8 : decode cX12_plainOf 8 = .ok (.ifCond .ge 8, 3) := by decide +kernel
theorem dX12_plainOf_11 : decode cX12_plainOf 11 = .ok (.lload_n 1, 1) := by decide +kernel
theorem dX12_plainOf_12 : decode cX12_plainOf 12 = .ok (.lneg, 1) := by decide +kernel
theorem dX12_plainOf_13 : decode cX12_plainOf 13 = .ok (.goto 4, 3) := by decide +kernel
theorem dX12_plainOf_16 : decode cX12_plainOf 16 = .ok (.lload_n 1, 1) := by decide +kernel
theorem dX12_plainOf_17 : decode cX12_plainOf 17 = .ok (.lstore 4, 2) := by decide +kernel
theorem dX12_plainOf_19 : decode cX12_plainOf 19 = .ok (.iconst 0, 1) := by decide +kernel
theorem dX12_plainOf_20 : decode cX12_plainOf 20 = .ok (.istore 6, 2) := by decide +kernel
theorem dX12_plainOf_22 : decode cX12_plainOf 22 = .ok (.lload 4, 2) := by decide +kernel
theorem dX12_plainOf_24 : decode cX12_plainOf 24 = .ok (.lconst 0, 1) := by decide +kernel
theorem dX12_plainOf_25 : decode cX12_plainOf 25 = .ok (.lcmp, 1) := by decide +kernel
theorem dX12_plainOf_26 : decode cX12_plainOf 26 = .ok (.ifCond .le 33, 3) := by decide +kernel
theorem dX12_plainOf_29 : decode cX12_plainOf 29 = .ok (.iinc 6 1, 3) := by decide +kernel
theorem dX12_plainOf_32 : decode cX12_plainOf 32 = .ok (.aload_n 0, 1) := by decide +kernel
theorem dX12_plainOf_33 : decode cX12_plainOf 33 = .ok (.getfield 72, 3) := by decide +kernel
theorem dX12_plainOf_36 : decode cX12_plainOf 36 = .ok (.iload_n 3, 1) := by decide +kernel
theorem dX12_plainOf_37 : decode cX12_plainOf 37 = .ok (.iload 6, 2) := by decide +kernel
theorem dX12_plainOf_39 : decode cX12_plainOf 39 = .ok (.iadd, 1) := by decide +kernel
theorem dX12_plainOf_40 : decode cX12_plainOf 40 = .ok (.lload 4, 2) := by decide +kernel
theorem dX12_plainOf_42 : decode cX12_plainOf 42 = .ok (.ldc2_w 291, 3) := by decide +kernel
theorem dX12_plainOf_45 : decode cX12_plainOf 45 = .ok (.lrem, 1) := by decide +kernel
theorem dX12_plainOf_46 : decode cX12_plainOf 46 = .ok (.l2i, 1) := by decide +kernel
theorem dX12_plainOf_47 : decode cX12_plainOf 47 = .ok (.iastore, 1) := by decide +kernel
theorem dX12_plainOf_48 : decode cX12_plainOf 48 = .ok (.lload 4, 2) := by decide +kernel
theorem dX12_plainOf_50 : decode cX12_plainOf 50 = .ok (.ldc2_w 291, 3) := by decide +kernel
theorem dX12_plainOf_53 : decode cX12_plainOf 53 = .ok (.ldiv, 1) := by decide +kernel
theorem dX12_plainOf_54 : decode cX12_plainOf 54 = .ok (.lstore 4, 2) := by decide +kernel
theorem dX12_plainOf_56 : decode cX12_plainOf 56 = .ok (.goto (-34), 3) := by decide +kernel
theorem dX12_plainOf_59 : decode cX12_plainOf 59 = .ok (.aload_n 0, 1) := by decide +kernel
theorem dX12_plainOf_60 : decode cX12_plainOf 60 = .ok (.getfield 72, 3) := by decide +kernel
theorem dX12_plainOf_63 : decode cX12_plainOf 63 = .ok (.iload_n 3, 1) := by decide +kernel
theorem dX12_plainOf_64 : decode cX12_plainOf 64 = .ok (.lload_n 1, 1) := by decide +kernel
theorem dX12_plainOf_65 : decode cX12_plainOf 65 = .ok (.lconst 0, 1) := by decide +kernel
theorem dX12_plainOf_66 : decode cX12_plainOf 66 = .ok (.lcmp, 1) := by decide +kernel
theorem dX12_plainOf_67 : decode cX12_plainOf 67 = .ok (.ifCond .ge 9, 3) := by decide +kernel
theorem dX12_plainOf_70 : decode cX12_plainOf 70 = .ok (.iload 6, 2) := by decide +kernel
theorem dX12_plainOf_72 : decode cX12_plainOf 72 = .ok (.ineg, 1) := by decide +kernel
theorem dX12_plainOf_73 : decode cX12_plainOf 73 = .ok (.goto 5, 3) := by decide +kernel
theorem dX12_plainOf_76 : decode cX12_plainOf 76 = .ok (.iload 6, 2) := by decide +kernel
theorem dX12_plainOf_78 : decode cX12_plainOf 78 = .ok (.iastore, 1) := by decide +kernel
theorem dX12_plainOf_79 : decode cX12_plainOf 79 = .ok (.aload_n 0, 1) := by decide +kernel
theorem dX12_plainOf_80 : decode cX12_plainOf 80 = .ok (.iload_n 3, 1) := by decide +kernel
theorem dX12_plainOf_81 : decode cX12_plainOf 81 = .ok (.iload 6, 2) := by decide +kernel
theorem dX12_plainOf_83 : decode cX12_plainOf 83 = .ok (.iadd, 1) := by decide +kernel
theorem dX12_plainOf_84 : decode cX12_plainOf 84 = .ok (.iconst 1, 1) := by decide +kernel
theorem dX12_plainOf_85 : decode cX12_plainOf 85 = .ok (.iadd, 1) := by decide +kernel
theorem dX12_plainOf_86 : decode cX12_plainOf 86 = .ok (.putfield 76, 3) := by decide +kernel
theorem dX12_plainOf_89 : decode cX12_plainOf 89 = .ok (.iload_n 3, 1) := by decide +kernel
theorem dX12_plainOf_90 : decode cX12_plainOf 90 = .ok (.ireturn, 1) := by decide +kernel
theorem dX12_limbs_0 : decode cX12_limbs 0 = .ok (.aload_n 0, 1) := by decide +kernel
theorem dX12_limbs_1 : decode cX12_limbs 1 = .ok (.getfield 72, 3) := by decide +kernel
theorem dX12_limbs_4 : decode cX12_limbs 4 = .ok (.iload_n 1, 1) := by decide +kernel
theorem dX12_limbs_5 : decode cX12_limbs 5 = .ok (.iaload, 1) := by decide +kernel
theorem dX12_limbs_6 : decode cX12_limbs 6 = .ok (.ifCond .ge 13, 3) := by decide +kernel
theorem dX12_limbs_9 : decode cX12_limbs 9 = .ok (.aload_n 0, 1) := by decide +kernel
theorem dX12_limbs_10 : decode cX12_limbs 10 = .ok (.getfield 72, 3) := by decide +kernel
theorem dX12_limbs_13 : decode cX12_limbs 13 = .ok (.iload_n 1, 1) := by decide +kernel
theorem dX12_limbs_14 : decode cX12_limbs 14 = .ok (.iaload, 1) := by decide +kernel
theorem dX12_limbs_15 : decode cX12_limbs 15 = .ok (.ineg, 1) := by decide +kernel
theorem dX12_limbs_16 : decode cX12_limbs 16 = .ok (.goto 9, 3) := by decide +kernel
theorem dX12_limbs_19 : decode cX12_limbs 19 = .ok (.aload_n 0, 1) := by decide +kernel
theorem dX12_limbs_20 : decode cX12_limbs 20 = .ok (.getfield 72, 3) := by decide +kernel
theorem dX12_limbs_23 : decode cX12_limbs 23 = .ok (.iload_n 1, 1) := by decide +kernel
theorem dX12_limbs_24 : decode cX12_limbs 24 = .ok (.iaload, 1) := by decide +kernel
theorem dX12_limbs_25 : decode cX12_limbs 25 = .ok (.ireturn, 1) := by decide +kernel
theorem dX12_sgn_0 : decode cX12_sgn 0 = .ok (.aload_n 0, 1) := by decide +kernel
theorem dX12_sgn_1 : decode cX12_sgn 1 = .ok (.getfield 72, 3) := by decide +kernel
theorem dX12_sgn_4 : decode cX12_sgn 4 = .ok (.iload_n 1, 1) := by decide +kernel
theorem dX12_sgn_5 : decode cX12_sgn 5 = .ok (.iaload, 1) := by decide +kernel
theorem dX12_sgn_6 : decode cX12_sgn 6 = .ok (.ifCond .le 7, 3) := by decide +kernel
theorem dX12_sgn_9 : decode cX12_sgn 9 = .ok (.iconst 1, 1) := by decide +kernel
theorem dX12_sgn_10 : decode cX12_sgn 10 = .ok (.goto 17, 3) := by decide +kernel
theorem dX12_sgn_13 : decode cX12_sgn 13 = .ok (.aload_n 0, 1) := by decide +kernel
theorem dX12_sgn_14 : decode cX12_sgn 14 = .ok (.getfield 72, 3) := by decide +kernel
theorem dX12_sgn_17 : decode cX12_sgn 17 = .ok (.iload_n 1, 1) := by decide +kernel
theorem dX12_sgn_18 : decode cX12_sgn 18 = .ok (.iaload, 1) := by decide +kernel
theorem dX12_sgn_19 : decode cX12_sgn 19 = .ok (.ifCond .ge 7, 3) := by decide +kernel
theorem dX12_sgn_22 : decode cX12_sgn 22 = .ok (.iconst (-1), 1) := by decide +kernel
theorem dX12_sgn_23 : decode cX12_sgn 23 = .ok (.goto 4, 3) := by decide +kernel
theorem dX12_sgn_26 : decode cX12_sgn 26 = .ok (.iconst 0, 1) := by decide +kernel
theorem dX12_sgn_27 : decode cX12_sgn 27 = .ok (.ireturn, 1) := by decide +kernel
theorem dX12_copyTo_0 : decode cX12_copyTo 0 = .ok (.aload_n 0, 1) := by decide +kernel
theorem dX12_copyTo_1 : decode cX12_copyTo 1 = .ok (.iload_n 1, 1) := by decide +kernel
theorem dX12_copyTo_2 : decode cX12_copyTo 2 = .ok (.invokevirtual 267, 3) := by decide +kernel
