theorem dX12_readsAll_173 : decode cX12_readsAll 173 = .ok (.aload_n 0, 1) := by decide +kernel
theorem dX12_readsAll_174 : decode cX12_readsAll 174 = .ok (.invokevirtual 336, 3) := by decide +kernel
theorem dX12_readsAll_177 : decode cX12_readsAll 177 = .ok (.aload_n 0, 1) := by decide +kernel
theorem dX12_readsAll_178 : decode cX12_readsAll 178 = .ok (.ldc2_w 385, 3) := by decide +kernel
theorem dX12_readsAll_181 : decode cX12_readsAll 181 = .ok (.invokevirtual 313, 3) := by decide +kernel
theorem dX12_readsAll_184 : decode cX12_readsAll 184 = .ok (.istore 7, 2) := by decide +kernel
theorem dX12_readsAll_186 : decode cX12_readsAll 186 = .ok (.iload 7, 2) := by decide +kernel
theorem dX12_readsAll_188 : decode cX12_readsAll 188 = .ok (.ifCond .ne 19, 3) := by decide +kernel
theorem dX12_readsAll_191 : decode cX12_readsAll 191 = .ok (.aload_n 0, 1) := by decide +kernel
theorem dX12_readsAll_192 : decode cX12_readsAll 192 = .ok (.ldc2_w 387, 3) := by decide +kernel
theorem dX12_readsAll_195 : decode cX12_readsAll 195 = .ok (.invokevirtual 313, 3) := by decide +kernel
theorem dX12_readsAll_198 : decode cX12_readsAll 198 = .ok (.ifCond .ne 9, 3) := by decide +kernel
theorem dX12_readsAll_201 : decode cX12_readsAll 201 = .ok (.aload_n 0, 1) := by decide +kernel
theorem dX12_readsAll_202 : decode cX12_readsAll 202 = .ok (.iconst 1, 1) := by decide +kernel
theorem dX12_readsAll_203 : decode cX12_readsAll 203 = .ok (.invokevirtual 329, 3) := by decide +kernel
theorem dX12_readsAll_206 : decode cX12_readsAll 206 = .ok (.ireturn, 1) := by decide +kernel
theorem dX12_readsAll_207 : decode cX12_readsAll 207 = .ok (.iload 6, 2) := by decide +kernel
theorem dX12_readsAll_209 : decode cX12_readsAll 209 = .ok (.ifCond .ne 15, 3) := by decide +kernel
theorem dX12_readsAll_212 : decode cX12_readsAll 212 = .ok (.iload_n 3, 1) := by decide +kernel
theorem dX12_readsAll_213 : decode cX12_readsAll 213 = .ok (.bipush 12, 2) := by decide +kernel
theorem dX12_readsAll_215 : decode cX12_readsAll 215 = .ok (.if_icmp .ne 9, 3) := by decide +kernel
theorem dX12_readsAll_218 : decode cX12_readsAll 218 = .ok (.aload_n 0, 1) := by decide +kernel
theorem dX12_readsAll_219 : decode cX12_readsAll 219 = .ok (.iconst 5, 1) := by decide +kernel
theorem dX12_readsAll_220 : decode cX12_readsAll 220 = .ok (.invokevirtual 329, 3) := by decide +kernel
theorem dX12_readsAll_223 : decode cX12_readsAll 223 = .ok (.ireturn, 1) := by decide +kernel
theorem dX12_readsAll_224 : decode cX12_readsAll 224 = .ok (.bipush 18, 2) := by decide +kernel
theorem dX12_readsAll_226 : decode cX12_readsAll 226 = .ok (.iload_n 3, 1) := by decide +kernel
theorem dX12_readsAll_227 : decode cX12_readsAll 227 = .ok (.iadd, 1) := by decide +kernel
theorem dX12_readsAll_228 : decode cX12_readsAll 228 = .ok (.iload 4, 2) := by decide +kernel
theorem dX12_readsAll_230 : decode cX12_readsAll 230 = .ok (.iadd, 1) := by decide +kernel
theorem dX12_readsAll_231 : decode cX12_readsAll 231 = .ok (.istore 8, 2) := by decide +kernel
theorem dX12_readsAll_233 : decode cX12_readsAll 233 = .ok (.aload_n 0, 1) := by decide +kernel
theorem dX12_readsAll_234 : decode cX12_readsAll 234 = .ok (.getfield 35, 3) := by decide +kernel
theorem dX12_readsAll_237 : decode cX12_readsAll 237 = .ok (.iload 8, 2) := by decide +kernel
theorem dX12_readsAll_239 : decode cX12_readsAll 239 = .ok (.iload 7, 2) := by decide +kernel
theorem dX12_readsAll_241 : decode cX12_readsAll 241 = .ok (.ifCond .eq 7, 3) := by decide +kernel
theorem dX12_readsAll_244 : decode cX12_readsAll 244 = .ok (.iconst 0, 1) := by decide +kernel
theorem dX12_readsAll_245 : decode cX12_readsAll 245 = .ok (.goto 4, 3) := by decide +kernel
theorem dX12_readsAll_248 : decode cX12_readsAll 248 = .ok (.iconst 1, 1) := by decide +kernel
theorem dX12_readsAll_249 : decode cX12_readsAll 249 = .ok (.iastore, 1) := by decide +kernel
theorem dX12_readsAll_250 : decode cX12_readsAll 250 = .ok (.aload_n 0, 1) := by decide +kernel
theorem dX12_readsAll_251 : decode cX12_readsAll 251 = .ok (.getfield 38, 3) := by decide +kernel
theorem dX12_readsAll_254 : decode cX12_readsAll 254 = .ok (.iload 8, 2) := by decide +kernel
theorem dX12_readsAll_256 : decode cX12_readsAll 256 = .ok (.iload 6, 2) := by decide +kernel
theorem dX12_readsAll_258 : decode cX12_readsAll 258 = .ok (.bastore, 1) := by decide +kernel
theorem dX12_readsAll_259 : decode cX12_readsAll 259 = .ok (.aload_n 0, 1) := by decide +kernel
theorem dX12_readsAll_260 : decode cX12_readsAll 260 = .ok (.invokevirtual 336, 3) := by decide +kernel
theorem dX12_readsAll_263 : decode cX12_readsAll 263 = .ok (.iload 7, 2) := by decide +kernel
theorem dX12_readsAll_265 : decode cX12_readsAll 265 = .ok (.ifCond .eq 15, 3) := by decide +kernel
theorem dX12_readsAll_268 : decode cX12_readsAll 268 = .ok (.aload_n 0, 1) := by decide +kernel
theorem dX12_readsAll_269 : decode cX12_readsAll 269 = .ok (.iload 8, 2) := by decide +kernel
theorem dX12_readsAll_271 : decode cX12_readsAll 271 = .ok (.invokevirtual 389, 3) := by decide +kernel
theorem dX12_readsAll_274 : decode cX12_readsAll 274 = .ok (.ifCond .ne 17, 3) := by decide +kernel
theorem dX12_readsAll_277 : decode cX12_readsAll 277 = .ok (.goto 12, 3) := by decide +kernel
theorem dX12_readsAll_280 : decode cX12_readsAll 280 = .ok (.aload_n 0, 1) := by decide +kernel
theorem dX12_readsAll_281 : decode cX12_readsAll 281 = .ok (.iload 8, 2) := by decide +kernel
theorem dX12_readsAll_283 : decode cX12_readsAll 283 = .ok (.invokevirtual 361, 3) := by decide +kernel
theorem dX12_readsAll_286 : decode cX12_readsAll 286 = .ok (.ifCond .ne 5, 3) := by decide +kernel
theorem dX12_readsAll_289 : decode cX12_readsAll 289 = .ok (.iconst 0, 1) := by decide +kernel
theorem dX12_readsAll_290 : decode cX12_readsAll 290 = .ok (.ireturn, 1) := by decide +kernel
theorem dX12_readsAll_291 : decode cX12_readsAll 291 = .ok (.iload_n 3, 1) := by decide +kernel
theorem dX12_readsAll_292 : decode cX12_readsAll 292 = .ok (.iload 6, 2) := by decide +kernel
theorem dX12_readsAll_294 : decode cX12_readsAll 294 = .ok (.ifCond .eq 7, 3) := by decide +kernel
theorem dX12_readsAll_297 : decode cX12_readsAll 297 = .ok (.iconst 0, 1) := by decide +kernel
theorem dX12_readsAll_298 : decode cX12_readsAll 298 = .ok (.goto 4, 3) := by decide +kernel
theorem dX12_readsAll_301 : decode cX12_readsAll 301 = .ok (.iconst 1, 1) := by decide +kernel
theorem dX12_readsAll_302 : decode cX12_readsAll 302 = .ok (.iadd, 1) := by decide +kernel
theorem dX12_readsAll_303 : decode cX12_readsAll 303 = .ok (.istore_n 3, 1) := by decide +kernel
theorem dX12_readsAll_304 : decode cX12_readsAll 304 = .ok (.iload 4, 2) := by decide +kernel
theorem dX12_readsAll_306 : decode cX12_readsAll 306 = .ok (.iload 6, 2) := by decide +kernel
theorem dX12_readsAll_308 : decode cX12_readsAll 308 = .ok (.ifCond .eq 7, 3) := by decide +kernel
theorem dX12_readsAll_311 : decode cX12_readsAll 311 = .ok (.iconst 1, 1) := by decide +kernel
theorem dX12_readsAll_312 : decode cX12_readsAll 312 = .ok (.goto 4, 3) := by decide +kernel
theorem dX12_readsAll_315 : decode cX12_readsAll 315 = .ok (.iconst 0, 1) := by decide +kernel
theorem dX12_readsAll_316 : decode cX12_readsAll 316 = .ok (.iadd, 1) := by decide +kernel
theorem dX12_readsAll_317 : decode cX12_readsAll 317 = .ok (.istore 4, 2) := by decide +kernel
theorem dX12_readsAll_319 : decode cX12_readsAll 319 = .ok (.goto (-271), 3) := by decide +kernel
theorem dX12_readsAll_322 : decode cX12_readsAll 322 = .ok (.aload_n 0, 1) := by decide +kernel
theorem dX12_readsAll_323 : decode cX12_readsAll 323 = .ok (.iload_n 3, 1) := by decide +kernel
theorem dX12_readsAll_324 : decode cX12_readsAll 324 = .ok (.iload 4, 2) := by decide +kernel
theorem dX12_readsAll_326 : decode cX12_readsAll 326 = .ok (.iadd, 1) := by decide +kernel
theorem dX12_readsAll_327 : decode cX12_readsAll 327 = .ok (.putfield 392, 3) := by decide +kernel
theorem dX12_readsAll_330 : decode cX12_readsAll 330 = .ok (.iconst 1, 1) := by decide +kernel
theorem dX12_readsAll_331 : decode cX12_readsAll 331 = .ok (.ireturn, 1) := by decide +kernel
theorem dX12_law_0 : decode cX12_law 0 = .ok (.aload_n 0, 1) := by decide +kernel
theorem dX12_law_1 : decode cX12_law 1 = .ok (.iconst 0, 1) := by decide +kernel
theorem dX12_law_2 : decode cX12_law 2 = .ok (.putfield 218, 3) := by decide +kernel
theorem dX12_law_5 : decode cX12_law 5 = .ok (.aload_n 0, 1) := by decide +kernel
theorem dX12_law_6 : decode cX12_law 6 = .ok (.invokevirtual 395, 3) := by decide +kernel
theorem dX12_law_9 : decode cX12_law 9 = .ok (.ifCond .ne 8, 3) := by decide +kernel
theorem dX12_law_12 : decode cX12_law 12 = .ok (.aload_n 0, 1) := by decide +kernel
theorem dX12_law_13 : decode cX12_law 13 = .ok (.getfield 279, 3) := by decide +kernel
theorem dX12_law_16 : decode cX12_law 16 = .ok (.ireturn, 1) := by decide +kernel
theorem dX12_law_17 : decode cX12_law 17 = .ok (.aload_n 0, 1) := by decide +kernel
theorem dX12_law_18 : decode cX12_law 18 = .ok (.aload_n 0, 1) := by decide +kernel
theorem dX12_law_19 : decode cX12_law 19 = .ok (.getfield 392, 3) := by decide +kernel
theorem dX12_law_22 : decode cX12_law 22 = .ok (.putfield 398, 3) := by decide +kernel
theorem dX12_law_25 : decode cX12_law 25 = .ok (.aload_n 0, 1) := by decide +kernel
theorem dX12_law_26 : decode cX12_law 26 = .ok (.aload_n 0, 1) := by decide +kernel
theorem dX12_law_27 : decode cX12_law 27 = .ok (.getfield 370, 3) := by decide +kernel
theorem dX12_law_30 : decode cX12_law 30 = .ok (.putfield 401, 3) := by decide +kernel
theorem dX12_law_33 : decode cX12_law 33 = .ok (.aload_n 0, 1) := by decide +kernel
theorem dX12_law_34 : decode cX12_law 34 = .ok (.aload_n 0, 1) := by decide +kernel
theorem dX12_law_35 : decode cX12_law 35 = .ok (.getfield 374, 3) := by decide +kernel
theorem dX12_law_38 : decode cX12_law 38 = .ok (.putfield 404, 3) := by decide +kernel
theorem dX12_law_41 : decode cX12_law 41 = .ok (.iconst 0, 1) := by decide +kernel
theorem dX12_law_42 : decode cX12_law 42 = .ok (.istore_n 1, 1) := by decide +kernel
theorem dX12_law_43 : decode cX12_law 43 = .ok (.iload_n 1, 1) := by decide +kernel
theorem dX12_law_44 : decode cX12_law 44 = .ok (.aload_n 0, 1) := by decide +kernel
theorem dX12_law_45 : decode cX12_law 45 = .ok (.getfield 398, 3) := by decide +kernel
theorem dX12_law_48 : decode cX12_law 48 = .ok (.if_icmp .ge 137, 3) := by decide +kernel
theorem dX12_law_51 : decode cX12_law 51 = .ok (.aload_n 0, 1) := by decide +kernel
theorem dX12_law_52 : decode cX12_law 52 = .ok (.getfield 35, 3) := by decide +kernel
theorem dX12_law_55 : decode cX12_law 55 = .ok (.iload_n 1, 1) := by decide +kernel
theorem dX12_law_56 : decode cX12_law 56 = .ok (.aload_n 0, 1) := by decide +kernel
theorem dX12_law_57 : decode cX12_law 57 = .ok (.getfield 35, 3) := by decide +kernel
theorem dX12_law_60 : decode cX12_law 60 = .ok (.bipush 18, 2) := by decide +kernel
theorem dX12_law_62 : decode cX12_law 62 = .ok (.iload_n 1, 1) := by decide +kernel
theorem dX12_law_63 : decode cX12_law 63 = .ok (.iadd, 1) := by decide +kernel
theorem dX12_law_64 : decode cX12_law 64 = .ok (.iaload, 1) := by decide +kernel
theorem dX12_law_65 : decode cX12_law 65 = .ok (.iastore, 1) := by decide +kernel
theorem dX12_law_66 : decode cX12_law 66 = .ok (.aload_n 0, 1) := by decide +kernel
theorem dX12_law_67 : decode cX12_law 67 = .ok (.getfield 38, 3) := by decide +kernel
theorem dX12_law_70 : decode cX12_law 70 = .ok (.iload_n 1, 1) := by decide +kernel
theorem dX12_law_71 : decode cX12_law 71 = .ok (.aload_n 0, 1) := by decide +kernel
theorem dX12_law_72 : decode cX12_law 72 = .ok (.getfield 38, 3) := by decide +kernel
theorem dX12_law_75 : decode cX12_law 75 = .ok (.bipush 18, 2) := by decide +kernel
theorem dX12_law_77 : decode cX12_law 77 = .ok (.iload_n 1, 1) := by decide +kernel
theorem dX12_law_78 : decode cX12_law 78 = .ok (.iadd, 1) := by decide +kernel
theorem dX12_law_79 : decode cX12_law 79 = .ok (.baload, 1) := by decide +kernel
theorem dX12_law_80 : decode cX12_law 80 = .ok (.bastore, 1) := by decide +kernel
theorem dX12_law_81 : decode cX12_law 81 = .ok (.aload_n 0, 1) := by decide +kernel
theorem dX12_law_82 : decode cX12_law 82 = .ok (.getfield 41, 3) := by decide +kernel
theorem dX12_law_85 : decode cX12_law 85 = .ok (.iload_n 1, 1) := by decide +kernel
theorem dX12_law_86 : decode cX12_law 86 = .ok (.aload_n 0, 1) := by decide +kernel
theorem dX12_law_87 : decode cX12_law 87 = .ok (.getfield 41, 3) := by decide +kernel
theorem dX12_law_90 : decode cX12_law 90 = .ok (.bipush 18, 2) := by decide +kernel
theorem dX12_law_92 : decode cX12_law 92 = .ok (.iload_n 1, 1) := by decide +kernel
theorem dX12_law_93 : decode cX12_law 93 = .ok (.iadd, 1) := by decide +kernel
theorem dX12_law_94 : decode cX12_law 94 = .ok (.iaload, 1) := by decide +kernel
theorem dX12_law_95 : decode cX12_law 95 = .ok (.iastore, 1) := by decide +kernel
theorem dX12_law_96 : decode cX12_law 96 = .ok (.aload_n 0, 1) := by decide +kernel
theorem dX12_law_97 : decode cX12_law 97 = .ok (.getfield 44, 3) := by decide +kernel
theorem dX12_law_100 : decode cX12_law 100 = .ok (.iload_n 1, 1) := by decide +kernel
theorem dX12_law_101 : decode cX12_law 101 = .ok (.aload_n 0, 1) := by decide +kernel
theorem dX12_law_102 : decode cX12_law 102 = .ok (.getfield 44, 3) := by decide +kernel
theorem dX12_law_105 : decode cX12_law 105 = .ok (.bipush 18, 2) := by decide +kernel
theorem dX12_law_107 : decode cX12_law 107 = .ok (.iload_n 1, 1) := by decide +kernel
theorem dX12_law_108 : decode cX12_law 108 = .ok (.iadd, 1) := by decide +kernel
theorem dX12_law_109 : decode cX12_law 109 = .ok (.iaload, 1) := by decide +kernel
theorem dX12_law_110 : decode cX12_law 110 = .ok (.iastore, 1) := by decide +kernel
theorem dX12_law_111 : decode cX12_law 111 = .ok (.aload_n 0, 1) := by decide +kernel
theorem dX12_law_112 : decode cX12_law 112 = .ok (.getfield 47, 3) := by decide +kernel
theorem dX12_law_115 : decode cX12_law 115 = .ok (.iload_n 1, 1) := by decide +kernel
theorem dX12_law_116 : decode cX12_law 116 = .ok (.aload_n 0, 1) := by decide +kernel
theorem dX12_law_117 : decode cX12_law 117 = .ok (.getfield 47, 3) := by decide +kernel
theorem dX12_law_120 : decode cX12_law 120 = .ok (.bipush 18, 2) := by decide +kernel
theorem dX12_law_122 : decode cX12_law 122 = .ok (.iload_n 1, 1) := by decide +kernel
theorem dX12_law_123 : decode cX12_law 123 = .ok (.iadd, 1) := by decide +kernel
theorem dX12_law_124 : decode cX12_law 124 = .ok (.iaload, 1) := by decide +kernel
theorem dX12_law_125 : decode cX12_law 125 = .ok (.iastore, 1) := by decide +kernel
theorem dX12_law_126 : decode cX12_law 126 = .ok (.aload_n 0, 1) := by decide +kernel
theorem dX12_law_127 : decode cX12_law 127 = .ok (.getfield 50, 3) := by decide +kernel
theorem dX12_law_130 : decode cX12_law 130 = .ok (.iload_n 1, 1) := by decide +kernel
theorem dX12_law_131 : decode cX12_law 131 = .ok (.aload_n 0, 1) := by decide +kernel
theorem dX12_law_132 : decode cX12_law 132 = .ok (.getfield 50, 3) := by decide +kernel
theorem dX12_law_135 : decode cX12_law 135 = .ok (.bipush 18, 2) := by decide +kernel
theorem dX12_law_137 : decode cX12_law 137 = .ok (.iload_n 1, 1) := by decide +kernel
theorem dX12_law_138 : decode cX12_law 138 = .ok (.iadd, 1) := by decide +kernel
theorem dX12_law_139 : decode cX12_law 139 = .ok (.baload, 1) := by decide +kernel
theorem dX12_law_140 : decode cX12_law 140 = .ok (.bastore, 1) := by decide +kernel
theorem dX12_law_141 : decode cX12_law 141 = .ok (.aload_n 0, 1) := by decide +kernel
theorem dX12_law_142 : decode cX12_law 142 = .ok (.getfield 53, 3) := by decide +kernel
theorem dX12_law_145 : decode cX12_law 145 = .ok (.iload_n 1, 1) := by decide +kernel
theorem dX12_law_146 : decode cX12_law 146 = .ok (.aload_n 0, 1) := by decide +kernel
theorem dX12_law_147 : decode cX12_law 147 = .ok (.getfield 53, 3) := by decide +kernel
theorem dX12_law_150 : decode cX12_law 150 = .ok (.bipush 18, 2) := by decide +kernel
theorem dX12_law_152 : decode cX12_law 152 = .ok (.iload_n 1, 1) := by decide +kernel
theorem dX12_law_153 : decode cX12_law 153 = .ok (.iadd, 1) := by decide +kernel
theorem dX12_law_154 : decode cX12_law 154 = .ok (.iaload, 1) := by decide +kernel
theorem dX12_law_155 : decode cX12_law 155 = .ok (.sipush 1000, 3) := by decide +kernel
theorem dX12_law_158 : decode cX12_law 158 = .ok (.isub, 1) := by decide +kernel
theorem dX12_law_159 : decode cX12_law 159 = .ok (.iastore, 1) := by decide +kernel
theorem dX12_law_160 : decode cX12_law 160 = .ok (.aload_n 0, 1) := by decide +kernel
theorem dX12_law_161 : decode cX12_law 161 = .ok (.getfield 56, 3) := by decide +kernel
theorem dX12_law_164 : decode cX12_law 164 = .ok (.iload_n 1, 1) := by decide +kernel
theorem dX12_law_165 : decode cX12_law 165 = .ok (.aload_n 0, 1) := by decide +kernel
theorem dX12_law_166 : decode cX12_law 166 = .ok (.getfield 56, 3) := by decide +kernel
theorem dX12_law_169 : decode cX12_law 169 = .ok (.bipush 18, 2) := by decide +kernel
theorem dX12_law_171 : decode cX12_law 171 = .ok (.iload_n 1, 1) := by decide +kernel
theorem dX12_law_172 : decode cX12_law 172 = .ok (.iadd, 1) := by decide +kernel
theorem dX12_law_173 : decode cX12_law 173 = .ok (.iaload, 1) := by decide +kernel
theorem dX12_law_174 : decode cX12_law 174 = .ok (.sipush 1000, 3) := by decide +kernel
theorem dX12_law_177 : decode cX12_law 177 = .ok (.isub, 1) := by decide +kernel
theorem dX12_law_178 : decode cX12_law 178 = .ok (.iastore, 1) := by decide +kernel
theorem dX12_law_179 : decode cX12_law 179 = .ok (.iinc 1 1, 3) := by decide +kernel
theorem dX12_law_182 : decode cX12_law 182 = .ok (.goto (-139), 3) := by decide +kernel
theorem dX12_law_185 : decode cX12_law 185 = .ok (.iconst 0, 1) := by decide +kernel
theorem dX12_law_186 : decode cX12_law 186 = .ok (.istore_n 1, 1) := by decide +kernel
theorem dX12_law_187 : decode cX12_law 187 = .ok (.iload_n 1, 1) := by decide +kernel
theorem dX12_law_188 : decode cX12_law 188 = .ok (.sipush 1000, 3) := by decide +kernel
theorem dX12_law_191 : decode cX12_law 191 = .ok (.if_icmp .ge 25, 3) := by decide +kernel
theorem dX12_law_194 : decode cX12_law 194 = .ok (.aload_n 0, 1) := by decide +kernel
theorem dX12_law_195 : decode cX12_law 195 = .ok (.getfield 59, 3) := by decide +kernel
theorem dX12_law_198 : decode cX12_law 198 = .ok (.iload_n 1, 1) := by decide +kernel
theorem dX12_law_199 : decode cX12_law 199 = .ok (.aload_n 0, 1) := by decide +kernel
theorem dX12_law_200 : decode cX12_law 200 = .ok (.getfield 59, 3) := by decide +kernel
theorem dX12_law_203 : decode cX12_law 203 = .ok (.sipush 1000, 3) := by decide +kernel
theorem dX12_law_206 : decode cX12_law 206 = .ok (.iload_n 1, 1) := by decide +kernel
theorem dX12_law_207 : decode cX12_law 207 = .ok (.iadd, 1) := by decide +kernel
theorem dX12_law_208 : decode cX12_law 208 = .ok (.iaload, 1) := by decide +kernel
theorem dX12_law_209 : decode cX12_law 209 = .ok (.iastore, 1) := by decide +kernel
theorem dX12_law_210 : decode cX12_law 210 = .ok (.iinc 1 1, 3) := by decide +kernel
theorem dX12_law_213 : decode cX12_law 213 = .ok (.goto (-26), 3) := by decide +kernel
theorem dX12_law_216 : decode cX12_law 216 = .ok (.iconst 0, 1) := by decide +kernel
theorem dX12_law_217 : decode cX12_law 217 = .ok (.ireturn, 1) := by decide +kernel
theorem dX12_opens_0 : decode cX12_opens 0 = .ok (.aload_n 0, 1) := by decide +kernel
theorem dX12_opens_1 : decode cX12_opens 1 = .ok (.getfield 71, 3) := by decide +kernel
theorem dX12_opens_4 : decode cX12_opens 4 = .ok (.iload_n 1, 1) := by decide +kernel
theorem dX12_opens_5 : decode cX12_opens 5 = .ok (.iconst 0, 1) := by decide +kernel
theorem dX12_opens_6 : decode cX12_opens 6 = .ok (.iastore, 1) := by decide +kernel
theorem dX12_opens_7 : decode cX12_opens 7 = .ok (.aload_n 0, 1) := by decide +kernel
theorem dX12_opens_8 : decode cX12_opens 8 = .ok (.getfield 77, 3) := by decide +kernel
theorem dX12_opens_11 : decode cX12_opens 11 = .ok (.iload_n 1, 1) := by decide +kernel
theorem dX12_opens_12 : decode cX12_opens 12 = .ok (.iconst 0, 1) := by decide +kernel
theorem dX12_opens_13 : decode cX12_opens 13 = .ok (.iastore, 1) := by decide +kernel
theorem dX12_opens_14 : decode cX12_opens 14 = .ok (.aload_n 0, 1) := by decide +kernel
theorem dX12_opens_15 : decode cX12_opens 15 = .ok (.getfield 80, 3) := by decide +kernel
theorem dX12_opens_18 : decode cX12_opens 18 = .ok (.iload_n 1, 1) := by decide +kernel
theorem dX12_opens_19 : decode cX12_opens 19 = .ok (.iconst 0, 1) := by decide +kernel
theorem dX12_opens_20 : decode cX12_opens 20 = .ok (.iastore, 1) := by decide +kernel
theorem dX12_opens_21 : decode cX12_opens 21 = .ok (.aload_n 0, 1) := by decide +kernel
theorem dX12_opens_22 : decode cX12_opens 22 = .ok (.getfield 83, 3) := by decide +kernel
theorem dX12_opens_25 : decode cX12_opens 25 = .ok (.iload_n 1, 1) := by decide +kernel
theorem dX12_opens_26 : decode cX12_opens 26 = .ok (.bipush 20, 2) := by decide +kernel
theorem dX12_opens_28 : decode cX12_opens 28 = .ok (.iastore, 1) := by decide +kernel
theorem dX12_opens_29 : decode cX12_opens 29 = .ok (.aload_n 0, 1) := by decide +kernel
theorem dX12_opens_30 : decode cX12_opens 30 = .ok (.getfield 89, 3) := by decide +kernel
theorem dX12_opens_33 : decode cX12_opens 33 = .ok (.iload_n 1, 1) := by decide +kernel
theorem dX12_opens_34 : decode cX12_opens 34 = .ok (.iconst 0, 1) := by decide +kernel
theorem dX12_opens_35 : decode cX12_opens 35 = .ok (.iastore, 1) := by decide +kernel
theorem dX12_opens_36 : decode cX12_opens 36 = .ok (.return_, 1) := by decide +kernel
theorem dX12_sums_0 : decode cX12_sums 0 = .ok (.aload_n 0, 1) := by decide +kernel
theorem dX12_sums_1 : decode cX12_sums 1 = .ok (.getfield 80, 3) := by decide +kernel
theorem dX12_sums_4 : decode cX12_sums 4 = .ok (.iload_n 1, 1) := by decide +kernel
theorem dX12_sums_5 : decode cX12_sums 5 = .ok (.aload_n 0, 1) := by decide +kernel
theorem dX12_sums_6 : decode cX12_sums 6 = .ok (.getfield 83, 3) := by decide +kernel
theorem dX12_sums_9 : decode cX12_sums 9 = .ok (.iload_n 1, 1) := by decide +kernel
theorem dX12_sums_10 : decode cX12_sums 10 = .ok (.iaload, 1) := by decide +kernel
theorem dX12_sums_11 : decode cX12_sums 11 = .ok (.bipush 21, 2) := by decide +kernel
theorem dX12_sums_13 : decode cX12_sums 13 = .ok (.if_icmp .ne 19, 3) := by decide +kernel
theorem dX12_sums_16 : decode cX12_sums 16 = .ok (.aload_n 0, 1) := by decide +kernel
theorem dX12_sums_17 : decode cX12_sums 17 = .ok (.getfield 80, 3) := by decide +kernel
theorem dX12_sums_20 : decode cX12_sums 20 = .ok (.iload_n 1, 1) := by decide +kernel
theorem dX12_sums_21 : decode cX12_sums 21 = .ok (.iaload, 1) := by decide +kernel
theorem dX12_sums_22 : decode cX12_sums 22 = .ok (.aload_n 0, 1) := by decide +kernel
theorem dX12_sums_23 : decode cX12_sums 23 = .ok (.getfield 86, 3) := by decide +kernel
theorem dX12_sums_26 : decode cX12_sums 26 = .ok (.iload_n 1, 1) := by decide +kernel
theorem dX12_sums_27 : decode cX12_sums 27 = .ok (.iaload, 1) := by decide +kernel
theorem dX12_sums_28 : decode cX12_sums 28 = .ok (.isub, 1) := by decide +kernel
theorem dX12_sums_29 : decode cX12_sums 29 = .ok (.goto 16, 3) := by decide +kernel
theorem dX12_sums_32 : decode cX12_sums 32 = .ok (.aload_n 0, 1) := by decide +kernel
theorem dX12_sums_33 : decode cX12_sums 33 = .ok (.getfield 80, 3) := by decide +kernel
theorem dX12_sums_36 : decode cX12_sums 36 = .ok (.iload_n 1, 1) := by decide +kernel
theorem dX12_sums_37 : decode cX12_sums 37 = .ok (.iaload, 1) := by decide +kernel
theorem dX12_sums_38 : decode cX12_sums 38 = .ok (.aload_n 0, 1) := by decide +kernel
theorem dX12_sums_39 : decode cX12_sums 39 = .ok (.getfield 86, 3) := by decide +kernel
theorem dX12_sums_42 : decode cX12_sums 42 = .ok (.iload_n 1, 1) := by decide +kernel
theorem dX12_sums_43 : decode cX12_sums 43 = .ok (.iaload, 1) := by decide +kernel
theorem dX12_sums_44 : decode cX12_sums 44 = .ok (.iadd, 1) := by decide +kernel
theorem dX12_sums_45 : decode cX12_sums 45 = .ok (.iastore, 1) := by decide +kernel
theorem dX12_sums_46 : decode cX12_sums 46 = .ok (.aload_n 0, 1) := by decide +kernel
theorem dX12_sums_47 : decode cX12_sums 47 = .ok (.getfield 89, 3) := by decide +kernel
theorem dX12_sums_50 : decode cX12_sums 50 = .ok (.iload_n 1, 1) := by decide +kernel
theorem dX12_sums_51 : decode cX12_sums 51 = .ok (.iconst 0, 1) := by decide +kernel
theorem dX12_sums_52 : decode cX12_sums 52 = .ok (.iastore, 1) := by decide +kernel
theorem dX12_sums_53 : decode cX12_sums 53 = .ok (.return_, 1) := by decide +kernel
theorem dX12_tests_0 : decode cX12_tests 0 = .ok (.aload_n 0, 1) := by decide +kernel
theorem dX12_tests_1 : decode cX12_tests 1 = .ok (.iload_n 1, 1) := by decide +kernel
theorem dX12_tests_2 : decode cX12_tests 2 = .ok (.invokevirtual 407, 3) := by decide +kernel
theorem dX12_tests_5 : decode cX12_tests 5 = .ok (.aload_n 0, 1) := by decide +kernel
theorem dX12_tests_6 : decode cX12_tests 6 = .ok (.getfield 80, 3) := by decide +kernel
theorem dX12_tests_9 : decode cX12_tests 9 = .ok (.iload_n 1, 1) := by decide +kernel
theorem dX12_tests_10 : decode cX12_tests 10 = .ok (.iaload, 1) := by decide +kernel
theorem dX12_tests_11 : decode cX12_tests 11 = .ok (.istore_n 2, 1) := by decide +kernel
theorem dX12_tests_12 : decode cX12_tests 12 = .ok (.aload_n 0, 1) := by decide +kernel
theorem dX12_tests_13 : decode cX12_tests 13 = .ok (.getfield 77, 3) := by decide +kernel
theorem dX12_tests_16 : decode cX12_tests 16 = .ok (.iload_n 1, 1) := by decide +kernel
theorem dX12_tests_17 : decode cX12_tests 17 = .ok (.iaload, 1) := by decide +kernel
theorem dX12_tests_18 : decode cX12_tests 18 = .ok (.bipush 24, 2) := by decide +kernel
theorem dX12_tests_20 : decode cX12_tests 20 = .ok (.if_icmp .ne 24, 3) := by decide +kernel
theorem dX12_tests_23 : decode cX12_tests 23 = .ok (.aload_n 0, 1) := by decide +kernel
theorem dX12_tests_24 : decode cX12_tests 24 = .ok (.getfield 74, 3) := by decide +kernel
theorem dX12_tests_27 : decode cX12_tests 27 = .ok (.iload_n 1, 1) := by decide +kernel
theorem dX12_tests_28 : decode cX12_tests 28 = .ok (.iaload, 1) := by decide +kernel
theorem dX12_tests_29 : decode cX12_tests 29 = .ok (.aload_n 0, 1) := by decide +kernel
theorem dX12_tests_30 : decode cX12_tests 30 = .ok (.getfield 80, 3) := by decide +kernel
theorem dX12_tests_33 : decode cX12_tests 33 = .ok (.iload_n 1, 1) := by decide +kernel
theorem dX12_tests_34 : decode cX12_tests 34 = .ok (.iaload, 1) := by decide +kernel
theorem dX12_tests_35 : decode cX12_tests 35 = .ok (.if_icmp .ge 7, 3) := by decide +kernel
theorem dX12_tests_38 : decode cX12_tests 38 = .ok (.iconst 1, 1) := by decide +kernel
theorem dX12_tests_39 : decode cX12_tests 39 = .ok (.goto 4, 3) := by decide +kernel
theorem dX12_tests_42 : decode cX12_tests 42 = .ok (.iconst 0, 1) := by decide +kernel
theorem dX12_tests_43 : decode cX12_tests 43 = .ok (.istore_n 2, 1) := by decide +kernel
theorem dX12_tests_44 : decode cX12_tests 44 = .ok (.aload_n 0, 1) := by decide +kernel
theorem dX12_tests_45 : decode cX12_tests 45 = .ok (.getfield 77, 3) := by decide +kernel
theorem dX12_tests_48 : decode cX12_tests 48 = .ok (.iload_n 1, 1) := by decide +kernel
theorem dX12_tests_49 : decode cX12_tests 49 = .ok (.iaload, 1) := by decide +kernel
theorem dX12_tests_50 : decode cX12_tests 50 = .ok (.bipush 25, 2) := by decide +kernel
theorem dX12_tests_52 : decode cX12_tests 52 = .ok (.if_icmp .ne 24, 3) := by decide +kernel
theorem dX12_tests_55 : decode cX12_tests 55 = .ok (.aload_n 0, 1) := by decide +kernel
theorem dX12_tests_56 : decode cX12_tests 56 = .ok (.getfield 74, 3) := by decide +kernel
theorem dX12_tests_59 : decode cX12_tests 59 = .ok (.iload_n 1, 1) := by decide +kernel
theorem dX12_tests_60 : decode cX12_tests 60 = .ok (.iaload, 1) := by decide +kernel
theorem dX12_tests_61 : decode cX12_tests 61 = .ok (.aload_n 0, 1) := by decide +kernel
theorem dX12_tests_62 : decode cX12_tests 62 = .ok (.getfield 80, 3) := by decide +kernel
theorem dX12_tests_65 : decode cX12_tests 65 = .ok (.iload_n 1, 1) := by decide +kernel
theorem dX12_tests_66 : decode cX12_tests 66 = .ok (.iaload, 1) := by decide +kernel
theorem dX12_tests_67 : decode cX12_tests 67 = .ok (.if_icmp .ne 7, 3) := by decide +kernel
theorem dX12_tests_70 : decode cX12_tests 70 = .ok (.iconst 1, 1) := by decide +kernel
theorem dX12_tests_71 : decode cX12_tests 71 = .ok (.goto 4, 3) := by decide +kernel
theorem dX12_tests_74 : decode cX12_tests 74 = .ok (.iconst 0, 1) := by decide +kernel
theorem dX12_tests_75 : decode cX12_tests 75 = .ok (.istore_n 2, 1) := by decide +kernel
theorem dX12_tests_76 : decode cX12_tests 76 = .ok (.aload_n 0, 1) := by decide +kernel
theorem dX12_tests_77 : decode cX12_tests 77 = .ok (.getfield 71, 3) := by decide +kernel
theorem dX12_tests_80 : decode cX12_tests 80 = .ok (.iload_n 1, 1) := by decide +kernel
theorem dX12_tests_81 : decode cX12_tests 81 = .ok (.iaload, 1) := by decide +kernel
theorem dX12_tests_82 : decode cX12_tests 82 = .ok (.bipush 26, 2) := by decide +kernel
theorem dX12_tests_84 : decode cX12_tests 84 = .ok (.if_icmp .ne 22, 3) := by decide +kernel
theorem dX12_tests_87 : decode cX12_tests 87 = .ok (.aload_n 0, 1) := by decide +kernel
theorem dX12_tests_88 : decode cX12_tests 88 = .ok (.getfield 68, 3) := by decide +kernel
theorem dX12_tests_91 : decode cX12_tests 91 = .ok (.iload_n 1, 1) := by decide +kernel
theorem dX12_tests_92 : decode cX12_tests 92 = .ok (.iaload, 1) := by decide +kernel
theorem dX12_tests_93 : decode cX12_tests 93 = .ok (.ifCond .eq 11, 3) := by decide +kernel
theorem dX12_tests_96 : decode cX12_tests 96 = .ok (.iload_n 2, 1) := by decide +kernel
theorem dX12_tests_97 : decode cX12_tests 97 = .ok (.ifCond .eq 7, 3) := by decide +kernel
theorem dX12_tests_100 : decode cX12_tests 100 = .ok (.iconst 1, 1) := by decide +kernel
theorem dX12_tests_101 : decode cX12_tests 101 = .ok (.goto 4, 3) := by decide +kernel
theorem dX12_tests_104 : decode cX12_tests 104 = .ok (.iconst 0, 1) := by decide +kernel
theorem dX12_tests_105 : decode cX12_tests 105 = .ok (.istore_n 2, 1) := by decide +kernel
theorem dX12_tests_106 : decode cX12_tests 106 = .ok (.aload_n 0, 1) := by decide +kernel
theorem dX12_tests_107 : decode cX12_tests 107 = .ok (.getfield 71, 3) := by decide +kernel
theorem dX12_tests_110 : decode cX12_tests 110 = .ok (.iload_n 1, 1) := by decide +kernel
theorem dX12_tests_111 : decode cX12_tests 111 = .ok (.iaload, 1) := by decide +kernel
theorem dX12_tests_112 : decode cX12_tests 112 = .ok (.bipush 27, 2) := by decide +kernel
theorem dX12_tests_114 : decode cX12_tests 114 = .ok (.if_icmp .ne 22, 3) := by decide +kernel
theorem dX12_tests_117 : decode cX12_tests 117 = .ok (.aload_n 0, 1) := by decide +kernel
theorem dX12_tests_118 : decode cX12_tests 118 = .ok (.getfield 68, 3) := by decide +kernel
theorem dX12_tests_121 : decode cX12_tests 121 = .ok (.iload_n 1, 1) := by decide +kernel
theorem dX12_tests_122 : decode cX12_tests 122 = .ok (.iaload, 1) := by decide +kernel
theorem dX12_tests_123 : decode cX12_tests 123 = .ok (.ifCond .ne 7, 3) := by decide +kernel
theorem dX12_tests_126 : decode cX12_tests 126 = .ok (.iload_n 2, 1) := by decide +kernel
theorem dX12_tests_127 : decode cX12_tests 127 = .ok (.ifCond .eq 7, 3) := by decide +kernel
theorem dX12_tests_130 : decode cX12_tests 130 = .ok (.iconst 1, 1) := by decide +kernel
theorem dX12_tests_131 : decode cX12_tests 131 = .ok (.goto 4, 3) := by decide +kernel
theorem dX12_tests_134 : decode cX12_tests 134 = .ok (.iconst 0, 1) := by decide +kernel
theorem dX12_tests_135 : decode cX12_tests 135 = .ok (.istore_n 2, 1) := by decide +kernel
theorem dX12_tests_136 : decode cX12_tests 136 = .ok (.aload_n 0, 1) := by decide +kernel
theorem dX12_tests_137 : decode cX12_tests 137 = .ok (.getfield 68, 3) := by decide +kernel
theorem dX12_tests_140 : decode cX12_tests 140 = .ok (.iload_n 1, 1) := by decide +kernel
theorem dX12_tests_141 : decode cX12_tests 141 = .ok (.iload_n 2, 1) := by decide +kernel
theorem dX12_tests_142 : decode cX12_tests 142 = .ok (.iastore, 1) := by decide +kernel
theorem dX12_tests_143 : decode cX12_tests 143 = .ok (.aload_n 0, 1) := by decide +kernel
theorem dX12_tests_144 : decode cX12_tests 144 = .ok (.getfield 77, 3) := by decide +kernel
theorem dX12_tests_147 : decode cX12_tests 147 = .ok (.iload_n 1, 1) := by decide +kernel
theorem dX12_tests_148 : decode cX12_tests 148 = .ok (.iconst 0, 1) := by decide +kernel
theorem dX12_tests_149 : decode cX12_tests 149 = .ok (.iastore, 1) := by decide +kernel
theorem dX12_tests_150 : decode cX12_tests 150 = .ok (.aload_n 0, 1) := by decide +kernel
theorem dX12_tests_151 : decode cX12_tests 151 = .ok (.getfield 80, 3) := by decide +kernel
theorem dX12_tests_154 : decode cX12_tests 154 = .ok (.iload_n 1, 1) := by decide +kernel
theorem dX12_tests_155 : decode cX12_tests 155 = .ok (.iconst 0, 1) := by decide +kernel
theorem dX12_tests_156 : decode cX12_tests 156 = .ok (.iastore, 1) := by decide +kernel
theorem dX12_tests_157 : decode cX12_tests 157 = .ok (.aload_n 0, 1) := by decide +kernel
theorem dX12_tests_158 : decode cX12_tests 158 = .ok (.getfield 83, 3) := by decide +kernel
theorem dX12_tests_161 : decode cX12_tests 161 = .ok (.iload_n 1, 1) := by decide +kernel
theorem dX12_tests_162 : decode cX12_tests 162 = .ok (.bipush 20, 2) := by decide +kernel
theorem dX12_tests_164 : decode cX12_tests 164 = .ok (.iastore, 1) := by decide +kernel
theorem dX12_tests_165 : decode cX12_tests 165 = .ok (.return_, 1) := by decide +kernel
theorem dX12_worth_0 : decode cX12_worth 0 = .ok (.iconst 0, 1) := by decide +kernel
theorem dX12_worth_1 : decode cX12_worth 1 = .ok (.istore_n 2, 1) := by decide +kernel
theorem dX12_worth_2 : decode cX12_worth 2 = .ok (.aload_n 0, 1) := by decide +kernel
theorem dX12_worth_3 : decode cX12_worth 3 = .ok (.iconst 0, 1) := by decide +kernel
theorem dX12_worth_4 : decode cX12_worth 4 = .ok (.invokevirtual 410, 3) := by decide +kernel
theorem dX12_worth_7 : decode cX12_worth 7 = .ok (.aload_n 0, 1) := by decide +kernel
theorem dX12_worth_8 : decode cX12_worth 8 = .ok (.getfield 53, 3) := by decide +kernel
theorem dX12_worth_11 : decode cX12_worth 11 = .ok (.iload_n 1, 1) := by decide +kernel
theorem dX12_worth_12 : decode cX12_worth 12 = .ok (.iaload, 1) := by decide +kernel
theorem dX12_worth_13 : decode cX12_worth 13 = .ok (.istore_n 3, 1) := by decide +kernel
theorem dX12_worth_14 : decode cX12_worth 14 = .ok (.iload_n 3, 1) := by decide +kernel
theorem dX12_worth_15 : decode cX12_worth 15 = .ok (.aload_n 0, 1) := by decide +kernel
theorem dX12_worth_16 : decode cX12_worth 16 = .ok (.getfield 56, 3) := by decide +kernel
theorem dX12_worth_19 : decode cX12_worth 19 = .ok (.iload_n 1, 1) := by decide +kernel
theorem dX12_worth_20 : decode cX12_worth 20 = .ok (.iaload, 1) := by decide +kernel
theorem dX12_worth_21 : decode cX12_worth 21 = .ok (.if_icmp .ge 314, 3) := by decide +kernel
theorem dX12_worth_24 : decode cX12_worth 24 = .ok (.aload_n 0, 1) := by decide +kernel
theorem dX12_worth_25 : decode cX12_worth 25 = .ok (.getfield 59, 3) := by decide +kernel
theorem dX12_worth_28 : decode cX12_worth 28 = .ok (.iload_n 3, 1) := by decide +kernel
theorem dX12_worth_29 : decode cX12_worth 29 = .ok (.iaload, 1) := by decide +kernel
theorem dX12_worth_30 : decode cX12_worth 30 = .ok (.istore 4, 2) := by decide +kernel
theorem dX12_worth_32 : decode cX12_worth 32 = .ok (.iload 4, 2) := by decide +kernel
theorem dX12_worth_34 : decode cX12_worth 34 = .ok (.bipush 28, 2) := by decide +kernel
theorem dX12_worth_36 : decode cX12_worth 36 = .ok (.if_icmp .eq 10, 3) := by decide +kernel
theorem dX12_worth_39 : decode cX12_worth 39 = .ok (.iload 4, 2) := by decide +kernel
theorem dX12_worth_41 : decode cX12_worth 41 = .ok (.bipush 30, 2) := by decide +kernel
theorem dX12_worth_43 : decode cX12_worth 43 = .ok (.if_icmp .ne 32, 3) := by decide +kernel
theorem dX12_worth_46 : decode cX12_worth 46 = .ok (.iinc 2 1, 3) := by decide +kernel
theorem dX12_worth_49 : decode cX12_worth 49 = .ok (.aload_n 0, 1) := by decide +kernel
theorem dX12_worth_50 : decode cX12_worth 50 = .ok (.getfield 92, 3) := by decide +kernel
theorem dX12_worth_53 : decode cX12_worth 53 = .ok (.iload_n 2, 1) := by decide +kernel
theorem dX12_worth_54 : decode cX12_worth 54 = .ok (.iload 4, 2) := by decide +kernel
theorem dX12_worth_56 : decode cX12_worth 56 = .ok (.bipush 30, 2) := by decide +kernel
theorem dX12_worth_58 : decode cX12_worth 58 = .ok (.if_icmp .ne 7, 3) := by decide +kernel
theorem dX12_worth_61 : decode cX12_worth 61 = .ok (.iconst 1, 1) := by decide +kernel
theorem dX12_worth_62 : decode cX12_worth 62 = .ok (.goto 4, 3) := by decide +kernel
theorem dX12_worth_65 : decode cX12_worth 65 = .ok (.iconst 0, 1) := by decide +kernel
theorem dX12_worth_66 : decode cX12_worth 66 = .ok (.iastore, 1) := by decide +kernel
theorem dX12_worth_67 : decode cX12_worth 67 = .ok (.aload_n 0, 1) := by decide +kernel
theorem dX12_worth_68 : decode cX12_worth 68 = .ok (.iload_n 2, 1) := by decide +kernel
theorem dX12_worth_69 : decode cX12_worth 69 = .ok (.invokevirtual 410, 3) := by decide +kernel
theorem dX12_worth_72 : decode cX12_worth 72 = .ok (.goto 257, 3) := by decide +kernel
theorem dX12_worth_75 : decode cX12_worth 75 = .ok (.iload 4, 2) := by decide +kernel
theorem dX12_worth_77 : decode cX12_worth 77 = .ok (.bipush 20, 2) := by decide +kernel
theorem dX12_worth_79 : decode cX12_worth 79 = .ok (.if_icmp .eq 10, 3) := by decide +kernel
theorem dX12_worth_82 : decode cX12_worth 82 = .ok (.iload 4, 2) := by decide +kernel
theorem dX12_worth_84 : decode cX12_worth 84 = .ok (.bipush 21, 2) := by decide +kernel
theorem dX12_worth_86 : decode cX12_worth 86 = .ok (.if_icmp .ne 19, 3) := by decide +kernel
theorem dX12_worth_89 : decode cX12_worth 89 = .ok (.aload_n 0, 1) := by decide +kernel
theorem dX12_worth_90 : decode cX12_worth 90 = .ok (.iload_n 2, 1) := by decide +kernel
theorem dX12_worth_91 : decode cX12_worth 91 = .ok (.invokevirtual 407, 3) := by decide +kernel
theorem dX12_worth_94 : decode cX12_worth 94 = .ok (.aload_n 0, 1) := by decide +kernel
theorem dX12_worth_95 : decode cX12_worth 95 = .ok (.getfield 83, 3) := by decide +kernel
theorem dX12_worth_98 : decode cX12_worth 98 = .ok (.iload_n 2, 1) := by decide +kernel
theorem dX12_worth_99 : decode cX12_worth 99 = .ok (.iload 4, 2) := by decide +kernel
theorem dX12_worth_101 : decode cX12_worth 101 = .ok (.iastore, 1) := by decide +kernel
theorem dX12_worth_102 : decode cX12_worth 102 = .ok (.goto 227, 3) := by decide +kernel
theorem dX12_worth_105 : decode cX12_worth 105 = .ok (.iload 4, 2) := by decide +kernel
theorem dX12_worth_107 : decode cX12_worth 107 = .ok (.bipush 22, 2) := by decide +kernel
theorem dX12_worth_109 : decode cX12_worth 109 = .ok (.if_icmp .ne 14, 3) := by decide +kernel
theorem dX12_worth_112 : decode cX12_worth 112 = .ok (.aload_n 0, 1) := by decide +kernel
theorem dX12_worth_113 : decode cX12_worth 113 = .ok (.getfield 89, 3) := by decide +kernel
theorem dX12_worth_116 : decode cX12_worth 116 = .ok (.iload_n 2, 1) := by decide +kernel
theorem dX12_worth_117 : decode cX12_worth 117 = .ok (.iload 4, 2) := by decide +kernel
theorem dX12_worth_119 : decode cX12_worth 119 = .ok (.iastore, 1) := by decide +kernel
theorem dX12_worth_120 : decode cX12_worth 120 = .ok (.goto 209, 3) := by decide +kernel
theorem dX12_worth_123 : decode cX12_worth 123 = .ok (.iload 4, 2) := by decide +kernel
theorem dX12_worth_125 : decode cX12_worth 125 = .ok (.bipush 24, 2) := by decide +kernel
theorem dX12_worth_127 : decode cX12_worth 127 = .ok (.if_icmp .eq 10, 3) := by decide +kernel
theorem dX12_worth_130 : decode cX12_worth 130 = .ok (.iload 4, 2) := by decide +kernel
theorem dX12_worth_132 : decode cX12_worth 132 = .ok (.bipush 25, 2) := by decide +kernel
theorem dX12_worth_134 : decode cX12_worth 134 = .ok (.if_icmp .ne 46, 3) := by decide +kernel
theorem dX12_worth_137 : decode cX12_worth 137 = .ok (.aload_n 0, 1) := by decide +kernel
theorem dX12_worth_138 : decode cX12_worth 138 = .ok (.iload_n 2, 1) := by decide +kernel
theorem dX12_worth_139 : decode cX12_worth 139 = .ok (.invokevirtual 407, 3) := by decide +kernel
theorem dX12_worth_142 : decode cX12_worth 142 = .ok (.aload_n 0, 1) := by decide +kernel
theorem dX12_worth_143 : decode cX12_worth 143 = .ok (.getfield 74, 3) := by decide +kernel
theorem dX12_worth_146 : decode cX12_worth 146 = .ok (.iload_n 2, 1) := by decide +kernel
theorem dX12_worth_147 : decode cX12_worth 147 = .ok (.aload_n 0, 1) := by decide +kernel
theorem dX12_worth_148 : decode cX12_worth 148 = .ok (.getfield 80, 3) := by decide +kernel
theorem dX12_worth_151 : decode cX12_worth 151 = .ok (.iload_n 2, 1) := by decide +kernel
theorem dX12_worth_152 : decode cX12_worth 152 = .ok (.iaload, 1) := by decide +kernel
theorem dX12_worth_153 : decode cX12_worth 153 = .ok (.iastore, 1) := by decide +kernel
theorem dX12_worth_154 : decode cX12_worth 154 = .ok (.aload_n 0, 1) := by decide +kernel
theorem dX12_worth_155 : decode cX12_worth 155 = .ok (.getfield 77, 3) := by decide +kernel
theorem dX12_worth_158 : decode cX12_worth 158 = .ok (.iload_n 2, 1) := by decide +kernel
theorem dX12_worth_159 : decode cX12_worth 159 = .ok (.iload 4, 2) := by decide +kernel
theorem dX12_worth_161 : decode cX12_worth 161 = .ok (.iastore, 1) := by decide +kernel
theorem dX12_worth_162 : decode cX12_worth 162 = .ok (.aload_n 0, 1) := by decide +kernel
theorem dX12_worth_163 : decode cX12_worth 163 = .ok (.getfield 80, 3) := by decide +kernel
theorem dX12_worth_166 : decode cX12_worth 166 = .ok (.iload_n 2, 1) := by decide +kernel
theorem dX12_worth_167 : decode cX12_worth 167 = .ok (.iconst 0, 1) := by decide +kernel
theorem dX12_worth_168 : decode cX12_worth 168 = .ok (.iastore, 1) := by decide +kernel
theorem dX12_worth_169 : decode cX12_worth 169 = .ok (.aload_n 0, 1) := by decide +kernel
theorem dX12_worth_170 : decode cX12_worth 170 = .ok (.getfield 83, 3) := by decide +kernel
theorem dX12_worth_173 : decode cX12_worth 173 = .ok (.iload_n 2, 1) := by decide +kernel
theorem dX12_worth_174 : decode cX12_worth 174 = .ok (.bipush 20, 2) := by decide +kernel
theorem dX12_worth_176 : decode cX12_worth 176 = .ok (.iastore, 1) := by decide +kernel
theorem dX12_worth_177 : decode cX12_worth 177 = .ok (.goto 152, 3) := by decide +kernel
theorem dX12_worth_180 : decode cX12_worth 180 = .ok (.iload 4, 2) := by decide +kernel
theorem dX12_worth_182 : decode cX12_worth 182 = .ok (.bipush 26, 2) := by decide +kernel
theorem dX12_worth_184 : decode cX12_worth 184 = .ok (.if_icmp .eq 10, 3) := by decide +kernel
theorem dX12_worth_187 : decode cX12_worth 187 = .ok (.iload 4, 2) := by decide +kernel
theorem dX12_worth_189 : decode cX12_worth 189 = .ok (.bipush 27, 2) := by decide +kernel
theorem dX12_worth_191 : decode cX12_worth 191 = .ok (.if_icmp .ne 19, 3) := by decide +kernel
theorem dX12_worth_194 : decode cX12_worth 194 = .ok (.aload_n 0, 1) := by decide +kernel
theorem dX12_worth_195 : decode cX12_worth 195 = .ok (.iload_n 2, 1) := by decide +kernel
theorem dX12_worth_196 : decode cX12_worth 196 = .ok (.invokevirtual 413, 3) := by decide +kernel
theorem dX12_worth_199 : decode cX12_worth 199 = .ok (.aload_n 0, 1) := by decide +kernel
theorem dX12_worth_200 : decode cX12_worth 200 = .ok (.getfield 71, 3) := by decide +kernel
theorem dX12_worth_203 : decode cX12_worth 203 = .ok (.iload_n 2, 1) := by decide +kernel
theorem dX12_worth_204 : decode cX12_worth 204 = .ok (.iload 4, 2) := by decide +kernel
theorem dX12_worth_206 : decode cX12_worth 206 = .ok (.iastore, 1) := by decide +kernel
theorem dX12_worth_207 : decode cX12_worth 207 = .ok (.goto 122, 3) := by decide +kernel
theorem dX12_worth_210 : decode cX12_worth 210 = .ok (.iload 4, 2) := by decide +kernel
theorem dX12_worth_212 : decode cX12_worth 212 = .ok (.bipush 100, 2) := by decide +kernel
theorem dX12_worth_214 : decode cX12_worth 214 = .ok (.if_icmp .lt 11, 3) := by decide +kernel
theorem dX12_worth_217 : decode cX12_worth 217 = .ok (.iload 4, 2) := by decide +kernel
theorem dX12_worth_219 : decode cX12_worth 219 = .ok (.bipush 100, 2) := by decide +kernel
theorem dX12_worth_221 : decode cX12_worth 221 = .ok (.isub, 1) := by decide +kernel
theorem dX12_worth_222 : decode cX12_worth 222 = .ok (.goto 21, 3) := by decide +kernel
theorem dX12_worth_225 : decode cX12_worth 225 = .ok (.iload 4, 2) := by decide +kernel
theorem dX12_worth_227 : decode cX12_worth 227 = .ok (.bipush 20, 2) := by decide +kernel
theorem dX12_worth_229 : decode cX12_worth 229 = .ok (.if_icmp .ge 13, 3) := by decide +kernel
theorem dX12_worth_232 : decode cX12_worth 232 = .ok (.aload_n 0, 1) := by decide +kernel
theorem dX12_worth_233 : decode cX12_worth 233 = .ok (.getfield 95, 3) := by decide +kernel
theorem dX12_worth_236 : decode cX12_worth 236 = .ok (.iload 4, 2) := by decide +kernel
theorem dX12_worth_238 : decode cX12_worth 238 = .ok (.iaload, 1) := by decide +kernel
theorem dX12_worth_239 : decode cX12_worth 239 = .ok (.goto 4, 3) := by decide +kernel
theorem dX12_worth_242 : decode cX12_worth 242 = .ok (.iconst 0, 1) := by decide +kernel
theorem dX12_worth_243 : decode cX12_worth 243 = .ok (.istore 5, 2) := by decide +kernel
theorem dX12_worth_245 : decode cX12_worth 245 = .ok (.iload 4, 2) := by decide +kernel
theorem dX12_worth_247 : decode cX12_worth 247 = .ok (.bipush 29, 2) := by decide +kernel
theorem dX12_worth_249 : decode cX12_worth 249 = .ok (.if_icmp .ne 19, 3) := by decide +kernel
theorem dX12_worth_252 : decode cX12_worth 252 = .ok (.aload_n 0, 1) := by decide +kernel
theorem dX12_worth_253 : decode cX12_worth 253 = .ok (.iload_n 2, 1) := by decide +kernel
theorem dX12_worth_254 : decode cX12_worth 254 = .ok (.invokevirtual 413, 3) := by decide +kernel
theorem dX12_worth_257 : decode cX12_worth 257 = .ok (.aload_n 0, 1) := by decide +kernel
theorem dX12_worth_258 : decode cX12_worth 258 = .ok (.getfield 68, 3) := by decide +kernel
theorem dX12_worth_261 : decode cX12_worth 261 = .ok (.iload_n 2, 1) := by decide +kernel
theorem dX12_worth_262 : decode cX12_worth 262 = .ok (.iaload, 1) := by decide +kernel
theorem dX12_worth_263 : decode cX12_worth 263 = .ok (.istore 5, 2) := by decide +kernel
theorem dX12_worth_265 : decode cX12_worth 265 = .ok (.iinc 2 (-1), 3) := by decide +kernel
theorem dX12_worth_268 : decode cX12_worth 268 = .ok (.iload_n 2, 1) := by decide +kernel
theorem dX12_worth_269 : decode cX12_worth 269 = .ok (.ifCond .le 31, 3) := by decide +kernel
theorem dX12_worth_272 : decode cX12_worth 272 = .ok (.aload_n 0, 1) := by decide +kernel
theorem dX12_worth_273 : decode cX12_worth 273 = .ok (.getfield 92, 3) := by decide +kernel
theorem dX12_worth_276 : decode cX12_worth 276 = .ok (.iload_n 2, 1) := by decide +kernel
theorem dX12_worth_277 : decode cX12_worth 277 = .ok (.iaload, 1) := by decide +kernel
theorem dX12_worth_278 : decode cX12_worth 278 = .ok (.iconst 1, 1) := by decide +kernel
theorem dX12_worth_279 : decode cX12_worth 279 = .ok (.if_icmp .ne 21, 3) := by decide +kernel
theorem dX12_worth_282 : decode cX12_worth 282 = .ok (.iload 5, 2) := by decide +kernel
theorem dX12_worth_284 : decode cX12_worth 284 = .ok (.ifCond .ne 7, 3) := by decide +kernel
theorem dX12_worth_287 : decode cX12_worth 287 = .ok (.iconst 1, 1) := by decide +kernel
theorem dX12_worth_288 : decode cX12_worth 288 = .ok (.goto 4, 3) := by decide +kernel
theorem dX12_worth_291 : decode cX12_worth 291 = .ok (.iconst 0, 1) := by decide +kernel
theorem dX12_worth_292 : decode cX12_worth 292 = .ok (.istore 5, 2) := by decide +kernel
theorem dX12_worth_294 : decode cX12_worth 294 = .ok (.iinc 2 (-1), 3) := by decide +kernel
theorem dX12_worth_297 : decode cX12_worth 297 = .ok (.goto (-29), 3) := by decide +kernel
theorem dX12_worth_300 : decode cX12_worth 300 = .ok (.aload_n 0, 1) := by decide +kernel
theorem dX12_worth_301 : decode cX12_worth 301 = .ok (.getfield 86, 3) := by decide +kernel
theorem dX12_worth_304 : decode cX12_worth 304 = .ok (.iload_n 2, 1) := by decide +kernel
theorem dX12_worth_305 : decode cX12_worth 305 = .ok (.aload_n 0, 1) := by decide +kernel
theorem dX12_worth_306 : decode cX12_worth 306 = .ok (.getfield 89, 3) := by decide +kernel
theorem dX12_worth_309 : decode cX12_worth 309 = .ok (.iload_n 2, 1) := by decide +kernel
theorem dX12_worth_310 : decode cX12_worth 310 = .ok (.iaload, 1) := by decide +kernel
theorem dX12_worth_311 : decode cX12_worth 311 = .ok (.ifCond .ne 8, 3) := by decide +kernel
theorem dX12_worth_314 : decode cX12_worth 314 = .ok (.iload 5, 2) := by decide +kernel
theorem dX12_worth_316 : decode cX12_worth 316 = .ok (.goto 12, 3) := by decide +kernel
theorem dX12_worth_319 : decode cX12_worth 319 = .ok (.aload_n 0, 1) := by decide +kernel
theorem dX12_worth_320 : decode cX12_worth 320 = .ok (.getfield 86, 3) := by decide +kernel
theorem dX12_worth_323 : decode cX12_worth 323 = .ok (.iload_n 2, 1) := by decide +kernel
theorem dX12_worth_324 : decode cX12_worth 324 = .ok (.iaload, 1) := by decide +kernel
theorem dX12_worth_325 : decode cX12_worth 325 = .ok (.iload 5, 2) := by decide +kernel
theorem dX12_worth_327 : decode cX12_worth 327 = .ok (.imul, 1) := by decide +kernel
theorem dX12_worth_328 : decode cX12_worth 328 = .ok (.iastore, 1) := by decide +kernel
theorem dX12_worth_329 : decode cX12_worth 329 = .ok (.iinc 3 1, 3) := by decide +kernel
theorem dX12_worth_332 : decode cX12_worth 332 = .ok (.goto (-318), 3) := by decide +kernel
theorem dX12_worth_335 : decode cX12_worth 335 = .ok (.aload_n 0, 1) := by decide +kernel
theorem dX12_worth_336 : decode cX12_worth 336 = .ok (.iconst 0, 1) := by decide +kernel
theorem dX12_worth_337 : decode cX12_worth 337 = .ok (.invokevirtual 413, 3) := by decide +kernel
theorem dX12_worth_340 : decode cX12_worth 340 = .ok (.aload_n 0, 1) := by decide +kernel
theorem dX12_worth_341 : decode cX12_worth 341 = .ok (.getfield 68, 3) := by decide +kernel
theorem dX12_worth_344 : decode cX12_worth 344 = .ok (.iconst 0, 1) := by decide +kernel
theorem dX12_worth_345 : decode cX12_worth 345 = .ok (.iaload, 1) := by decide +kernel
theorem dX12_worth_346 : decode cX12_worth 346 = .ok (.ireturn, 1) := by decide +kernel
theorem dX12_ownsOf_0 : decode cX12_ownsOf 0 = .ok (.iconst 0, 1) := by decide +kernel
theorem dX12_ownsOf_1 : decode cX12_ownsOf 1 = .ok (.istore_n 2, 1) := by decide +kernel
theorem dX12_ownsOf_2 : decode cX12_ownsOf 2 = .ok (.iconst 0, 1) := by decide +kernel
theorem dX12_ownsOf_3 : decode cX12_ownsOf 3 = .ok (.istore_n 3, 1) := by decide +kernel
theorem dX12_ownsOf_4 : decode cX12_ownsOf 4 = .ok (.iload_n 3, 1) := by decide +kernel
theorem dX12_ownsOf_5 : decode cX12_ownsOf 5 = .ok (.bipush 12, 2) := by decide +kernel
theorem dX12_ownsOf_7 : decode cX12_ownsOf 7 = .ok (.if_icmp .ge 31, 3) := by decide +kernel
theorem dX12_ownsOf_10 : decode cX12_ownsOf 10 = .ok (.iload_n 2, 1) := by decide +kernel
theorem dX12_ownsOf_11 : decode cX12_ownsOf 11 = .ok (.aload_n 0, 1) := by decide +kernel
theorem dX12_ownsOf_12 : decode cX12_ownsOf 12 = .ok (.getfield 13, 3) := by decide +kernel
theorem dX12_ownsOf_15 : decode cX12_ownsOf 15 = .ok (.bipush 16, 2) := by decide +kernel
theorem dX12_ownsOf_17 : decode cX12_ownsOf 17 = .ok (.iload_n 3, 1) := by decide +kernel
theorem dX12_ownsOf_18 : decode cX12_ownsOf 18 = .ok (.imul, 1) := by decide +kernel
theorem dX12_ownsOf_19 : decode cX12_ownsOf 19 = .ok (.iload_n 1, 1) := by decide +kernel
theorem dX12_ownsOf_20 : decode cX12_ownsOf 20 = .ok (.iadd, 1) := by decide +kernel
theorem dX12_ownsOf_21 : decode cX12_ownsOf 21 = .ok (.iaload, 1) := by decide +kernel
theorem dX12_ownsOf_22 : decode cX12_ownsOf 22 = .ok (.ifCond .le 7, 3) := by decide +kernel
theorem dX12_ownsOf_25 : decode cX12_ownsOf 25 = .ok (.iconst 1, 1) := by decide +kernel
theorem dX12_ownsOf_26 : decode cX12_ownsOf 26 = .ok (.goto 4, 3) := by decide +kernel
theorem dX12_ownsOf_29 : decode cX12_ownsOf 29 = .ok (.iconst 0, 1) := by decide +kernel
theorem dX12_ownsOf_30 : decode cX12_ownsOf 30 = .ok (.iadd, 1) := by decide +kernel
theorem dX12_ownsOf_31 : decode cX12_ownsOf 31 = .ok (.istore_n 2, 1) := by decide +kernel
theorem dX12_ownsOf_32 : decode cX12_ownsOf 32 = .ok (.iinc 3 1, 3) := by decide +kernel
theorem dX12_ownsOf_35 : decode cX12_ownsOf 35 = .ok (.goto (-31), 3) := by decide +kernel
theorem dX12_ownsOf_38 : decode cX12_ownsOf 38 = .ok (.iload_n 2, 1) := by decide +kernel
theorem dX12_ownsOf_39 : decode cX12_ownsOf 39 = .ok (.ireturn, 1) := by decide +kernel
theorem dX12_lays_0 : decode cX12_lays 0 = .ok (.aload_n 0, 1) := by decide +kernel
theorem dX12_lays_1 : decode cX12_lays 1 = .ok (.iload_n 1, 1) := by decide +kernel
theorem dX12_lays_2 : decode cX12_lays 2 = .ok (.putfield 416, 3) := by decide +kernel
theorem dX12_lays_5 : decode cX12_lays 5 = .ok (.aload_n 0, 1) := by decide +kernel
theorem dX12_lays_6 : decode cX12_lays 6 = .ok (.iload_n 2, 1) := by decide +kernel
theorem dX12_lays_7 : decode cX12_lays 7 = .ok (.putfield 419, 3) := by decide +kernel
theorem dX12_lays_10 : decode cX12_lays 10 = .ok (.aload_n 0, 1) := by decide +kernel
theorem dX12_lays_11 : decode cX12_lays 11 = .ok (.iload_n 3, 1) := by decide +kernel
theorem dX12_lays_12 : decode cX12_lays 12 = .ok (.putfield 422, 3) := by decide +kernel
theorem dX12_lays_15 : decode cX12_lays 15 = .ok (.aload_n 0, 1) := by decide +kernel
theorem dX12_lays_16 : decode cX12_lays 16 = .ok (.iload 5, 2) := by decide +kernel
theorem dX12_lays_18 : decode cX12_lays 18 = .ok (.putfield 425, 3) := by decide +kernel
theorem dX12_lays_21 : decode cX12_lays 21 = .ok (.iload 4, 2) := by decide +kernel
theorem dX12_lays_23 : decode cX12_lays 23 = .ok (.ineg, 1) := by decide +kernel
theorem dX12_lays_24 : decode cX12_lays 24 = .ok (.istore 8, 2) := by decide +kernel
theorem dX12_lays_26 : decode cX12_lays 26 = .ok (.iconst 0, 1) := by decide +kernel
theorem dX12_lays_27 : decode cX12_lays 27 = .ok (.istore 9, 2) := by decide +kernel
theorem dX12_lays_29 : decode cX12_lays 29 = .ok (.iload 9, 2) := by decide +kernel
theorem dX12_lays_31 : decode cX12_lays 31 = .ok (.bipush 12, 2) := by decide +kernel
theorem dX12_lays_33 : decode cX12_lays 33 = .ok (.if_icmp .ge 26, 3) := by decide +kernel
theorem dX12_lays_36 : decode cX12_lays 36 = .ok (.iload 8, 2) := by decide +kernel
theorem dX12_lays_38 : decode cX12_lays 38 = .ok (.aload_n 0, 1) := by decide +kernel
theorem dX12_lays_39 : decode cX12_lays 39 = .ok (.getfield 13, 3) := by decide +kernel
theorem dX12_lays_42 : decode cX12_lays 42 = .ok (.bipush 16, 2) := by decide +kernel
theorem dX12_lays_44 : decode cX12_lays 44 = .ok (.iload 9, 2) := by decide +kernel
theorem dX12_lays_46 : decode cX12_lays 46 = .ok (.imul, 1) := by decide +kernel
theorem dX12_lays_47 : decode cX12_lays 47 = .ok (.iload_n 2, 1) := by decide +kernel
theorem dX12_lays_48 : decode cX12_lays 48 = .ok (.iadd, 1) := by decide +kernel
theorem dX12_lays_49 : decode cX12_lays 49 = .ok (.iaload, 1) := by decide +kernel
theorem dX12_lays_50 : decode cX12_lays 50 = .ok (.iadd, 1) := by decide +kernel
theorem dX12_lays_51 : decode cX12_lays 51 = .ok (.istore 8, 2) := by decide +kernel
theorem dX12_lays_53 : decode cX12_lays 53 = .ok (.iinc 9 1, 3) := by decide +kernel
theorem dX12_lays_56 : decode cX12_lays 56 = .ok (.goto (-27), 3) := by decide +kernel
theorem dX12_lays_59 : decode cX12_lays 59 = .ok (.aload_n 0, 1) := by decide +kernel
theorem dX12_lays_60 : decode cX12_lays 60 = .ok (.getfield 95, 3) := by decide +kernel
theorem dX12_lays_63 : decode cX12_lays 63 = .ok (.iconst 1, 1) := by decide +kernel
theorem dX12_lays_64 : decode cX12_lays 64 = .ok (.iload 4, 2) := by decide +kernel
theorem dX12_lays_66 : decode cX12_lays 66 = .ok (.iastore, 1) := by decide +kernel
theorem dX12_lays_67 : decode cX12_lays 67 = .ok (.aload_n 0, 1) := by decide +kernel
theorem dX12_lays_68 : decode cX12_lays 68 = .ok (.getfield 95, 3) := by decide +kernel
theorem dX12_lays_71 : decode cX12_lays 71 = .ok (.iconst 2, 1) := by decide +kernel
theorem dX12_lays_72 : decode cX12_lays 72 = .ok (.iload 6, 2) := by decide +kernel
theorem dX12_lays_74 : decode cX12_lays 74 = .ok (.iastore, 1) := by decide +kernel
theorem dX12_lays_75 : decode cX12_lays 75 = .ok (.aload_n 0, 1) := by decide +kernel
theorem dX12_lays_76 : decode cX12_lays 76 = .ok (.getfield 95, 3) := by decide +kernel
theorem dX12_lays_79 : decode cX12_lays 79 = .ok (.iconst 3, 1) := by decide +kernel
theorem dX12_lays_80 : decode cX12_lays 80 = .ok (.iload 7, 2) := by decide +kernel
theorem dX12_lays_82 : decode cX12_lays 82 = .ok (.iastore, 1) := by decide +kernel
theorem dX12_lays_83 : decode cX12_lays 83 = .ok (.aload_n 0, 1) := by decide +kernel
theorem dX12_lays_84 : decode cX12_lays 84 = .ok (.getfield 95, 3) := by decide +kernel
theorem dX12_lays_87 : decode cX12_lays 87 = .ok (.iconst 4, 1) := by decide +kernel
theorem dX12_lays_88 : decode cX12_lays 88 = .ok (.aload_n 0, 1) := by decide +kernel
theorem dX12_lays_89 : decode cX12_lays 89 = .ok (.getfield 13, 3) := by decide +kernel
theorem dX12_lays_92 : decode cX12_lays 92 = .ok (.bipush 16, 2) := by decide +kernel
theorem dX12_lays_94 : decode cX12_lays 94 = .ok (.iload_n 1, 1) := by decide +kernel
theorem dX12_lays_95 : decode cX12_lays 95 = .ok (.imul, 1) := by decide +kernel
theorem dX12_lays_96 : decode cX12_lays 96 = .ok (.iload_n 2, 1) := by decide +kernel
theorem dX12_lays_97 : decode cX12_lays 97 = .ok (.iadd, 1) := by decide +kernel
theorem dX12_lays_98 : decode cX12_lays 98 = .ok (.iaload, 1) := by decide +kernel
theorem dX12_lays_99 : decode cX12_lays 99 = .ok (.iload 4, 2) := by decide +kernel
theorem dX12_lays_101 : decode cX12_lays 101 = .ok (.isub, 1) := by decide +kernel
theorem dX12_lays_102 : decode cX12_lays 102 = .ok (.iastore, 1) := by decide +kernel
theorem dX12_lays_103 : decode cX12_lays 103 = .ok (.aload_n 0, 1) := by decide +kernel
theorem dX12_lays_104 : decode cX12_lays 104 = .ok (.getfield 95, 3) := by decide +kernel
theorem dX12_lays_107 : decode cX12_lays 107 = .ok (.iconst 5, 1) := by decide +kernel
theorem dX12_lays_108 : decode cX12_lays 108 = .ok (.iload 8, 2) := by decide +kernel
theorem dX12_lays_110 : decode cX12_lays 110 = .ok (.iastore, 1) := by decide +kernel
theorem dX12_lays_111 : decode cX12_lays 111 = .ok (.aload_n 0, 1) := by decide +kernel
theorem dX12_lays_112 : decode cX12_lays 112 = .ok (.getfield 95, 3) := by decide +kernel
theorem dX12_lays_115 : decode cX12_lays 115 = .ok (.bipush 6, 2) := by decide +kernel
theorem dX12_lays_117 : decode cX12_lays 117 = .ok (.aload_n 0, 1) := by decide +kernel
theorem dX12_lays_118 : decode cX12_lays 118 = .ok (.iload_n 3, 1) := by decide +kernel
theorem dX12_lays_119 : decode cX12_lays 119 = .ok (.invokevirtual 428, 3) := by decide +kernel
theorem dX12_lays_122 : decode cX12_lays 122 = .ok (.iastore, 1) := by decide +kernel
theorem dX12_lays_123 : decode cX12_lays 123 = .ok (.iconst 0, 1) := by decide +kernel
theorem dX12_lays_124 : decode cX12_lays 124 = .ok (.istore 9, 2) := by decide +kernel
theorem dX12_lays_126 : decode cX12_lays 126 = .ok (.iload 9, 2) := by decide +kernel
theorem dX12_lays_128 : decode cX12_lays 128 = .ok (.iconst 3, 1) := by decide +kernel
theorem dX12_lays_129 : decode cX12_lays 129 = .ok (.if_icmp .ge 31, 3) := by decide +kernel
theorem dX12_lays_132 : decode cX12_lays 132 = .ok (.aload_n 0, 1) := by decide +kernel
theorem dX12_lays_133 : decode cX12_lays 133 = .ok (.getfield 95, 3) := by decide +kernel
theorem dX12_lays_136 : decode cX12_lays 136 = .ok (.bipush 7, 2) := by decide +kernel
theorem dX12_lays_138 : decode cX12_lays 138 = .ok (.iload 9, 2) := by decide +kernel
theorem dX12_lays_140 : decode cX12_lays 140 = .ok (.iadd, 1) := by decide +kernel
theorem dX12_lays_141 : decode cX12_lays 141 = .ok (.iload 9, 2) := by decide +kernel
theorem dX12_lays_143 : decode cX12_lays 143 = .ok (.iload 5, 2) := by decide +kernel
theorem dX12_lays_145 : decode cX12_lays 145 = .ok (.if_icmp .ne 7, 3) := by decide +kernel
theorem dX12_lays_148 : decode cX12_lays 148 = .ok (.iconst 1, 1) := by decide +kernel
theorem dX12_lays_149 : decode cX12_lays 149 = .ok (.goto 4, 3) := by decide +kernel
theorem dX12_lays_152 : decode cX12_lays 152 = .ok (.iconst 0, 1) := by decide +kernel
theorem dX12_lays_153 : decode cX12_lays 153 = .ok (.iastore, 1) := by decide +kernel
theorem dX12_lays_154 : decode cX12_lays 154 = .ok (.iinc 9 1, 3) := by decide +kernel
theorem dX12_lays_157 : decode cX12_lays 157 = .ok (.goto (-31), 3) := by decide +kernel
theorem dX12_lays_160 : decode cX12_lays 160 = .ok (.aload_n 0, 1) := by decide +kernel
theorem dX12_lays_161 : decode cX12_lays 161 = .ok (.getfield 95, 3) := by decide +kernel
theorem dX12_lays_164 : decode cX12_lays 164 = .ok (.bipush 14, 2) := by decide +kernel
theorem dX12_lays_166 : decode cX12_lays 166 = .ok (.aload_n 0, 1) := by decide +kernel
theorem dX12_lays_167 : decode cX12_lays 167 = .ok (.getfield 237, 3) := by decide +kernel
theorem dX12_lays_170 : decode cX12_lays 170 = .ok (.iastore, 1) := by decide +kernel
theorem dX12_lays_171 : decode cX12_lays 171 = .ok (.return_, 1) := by decide +kernel
theorem dX12_isSo_0 : decode cX12_isSo 0 = .ok (.aload_n 0, 1) := by decide +kernel
theorem dX12_isSo_1 : decode cX12_isSo 1 = .ok (.getfield 50, 3) := by decide +kernel
theorem dX12_isSo_4 : decode cX12_isSo 4 = .ok (.iload_n 1, 1) := by decide +kernel
theorem dX12_isSo_5 : decode cX12_isSo 5 = .ok (.baload, 1) := by decide +kernel
theorem dX12_isSo_6 : decode cX12_isSo 6 = .ok (.ifCond .ne 5, 3) := by decide +kernel
theorem dX12_isSo_9 : decode cX12_isSo 9 = .ok (.iconst 1, 1) := by decide +kernel
theorem dX12_isSo_10 : decode cX12_isSo 10 = .ok (.ireturn, 1) := by decide +kernel
theorem dX12_isSo_11 : decode cX12_isSo 11 = .ok (.aload_n 0, 1) := by decide +kernel
theorem dX12_isSo_12 : decode cX12_isSo 12 = .ok (.getfield 95, 3) := by decide +kernel
theorem dX12_isSo_15 : decode cX12_isSo 15 = .ok (.bipush 10, 2) := by decide +kernel
theorem dX12_isSo_17 : decode cX12_isSo 17 = .ok (.aload_n 0, 1) := by decide +kernel
theorem dX12_isSo_18 : decode cX12_isSo 18 = .ok (.getfield 26, 3) := by decide +kernel
theorem dX12_isSo_21 : decode cX12_isSo 21 = .ok (.iload_n 2, 1) := by decide +kernel
theorem dX12_isSo_22 : decode cX12_isSo 22 = .ok (.baload, 1) := by decide +kernel
theorem dX12_isSo_23 : decode cX12_isSo 23 = .ok (.ifCond .eq 7, 3) := by decide +kernel
theorem dX12_isSo_26 : decode cX12_isSo 26 = .ok (.iconst 1, 1) := by decide +kernel
theorem dX12_isSo_27 : decode cX12_isSo 27 = .ok (.goto 4, 3) := by decide +kernel
theorem dX12_isSo_30 : decode cX12_isSo 30 = .ok (.iconst 0, 1) := by decide +kernel
theorem dX12_isSo_31 : decode cX12_isSo 31 = .ok (.iastore, 1) := by decide +kernel
theorem dX12_isSo_32 : decode cX12_isSo 32 = .ok (.aload_n 0, 1) := by decide +kernel
theorem dX12_isSo_33 : decode cX12_isSo 33 = .ok (.getfield 95, 3) := by decide +kernel
theorem dX12_isSo_36 : decode cX12_isSo 36 = .ok (.bipush 11, 2) := by decide +kernel
theorem dX12_isSo_38 : decode cX12_isSo 38 = .ok (.aload_n 0, 1) := by decide +kernel
theorem dX12_isSo_39 : decode cX12_isSo 39 = .ok (.getfield 13, 3) := by decide +kernel
theorem dX12_isSo_42 : decode cX12_isSo 42 = .ok (.bipush 16, 2) := by decide +kernel
theorem dX12_isSo_44 : decode cX12_isSo 44 = .ok (.aload_n 0, 1) := by decide +kernel
theorem dX12_isSo_45 : decode cX12_isSo 45 = .ok (.getfield 416, 3) := by decide +kernel
theorem dX12_isSo_48 : decode cX12_isSo 48 = .ok (.imul, 1) := by decide +kernel
theorem dX12_isSo_49 : decode cX12_isSo 49 = .ok (.iload_n 2, 1) := by decide +kernel
theorem dX12_isSo_50 : decode cX12_isSo 50 = .ok (.iadd, 1) := by decide +kernel
theorem dX12_isSo_51 : decode cX12_isSo 51 = .ok (.iaload, 1) := by decide +kernel
theorem dX12_isSo_52 : decode cX12_isSo 52 = .ok (.iastore, 1) := by decide +kernel
theorem dX12_isSo_53 : decode cX12_isSo 53 = .ok (.aload_n 0, 1) := by decide +kernel
theorem dX12_isSo_54 : decode cX12_isSo 54 = .ok (.getfield 95, 3) := by decide +kernel
theorem dX12_isSo_57 : decode cX12_isSo 57 = .ok (.bipush 12, 2) := by decide +kernel
theorem dX12_isSo_59 : decode cX12_isSo 59 = .ok (.aload_n 0, 1) := by decide +kernel
theorem dX12_isSo_60 : decode cX12_isSo 60 = .ok (.iload_n 2, 1) := by decide +kernel
theorem dX12_isSo_61 : decode cX12_isSo 61 = .ok (.invokevirtual 428, 3) := by decide +kernel
theorem dX12_isSo_64 : decode cX12_isSo 64 = .ok (.iastore, 1) := by decide +kernel
theorem dX12_isSo_65 : decode cX12_isSo 65 = .ok (.aload_n 0, 1) := by decide +kernel
theorem dX12_isSo_66 : decode cX12_isSo 66 = .ok (.getfield 95, 3) := by decide +kernel
theorem dX12_isSo_69 : decode cX12_isSo 69 = .ok (.bipush 13, 2) := by decide +kernel
theorem dX12_isSo_71 : decode cX12_isSo 71 = .ok (.aload_n 0, 1) := by decide +kernel
theorem dX12_isSo_72 : decode cX12_isSo 72 = .ok (.getfield 23, 3) := by decide +kernel
theorem dX12_isSo_75 : decode cX12_isSo 75 = .ok (.bipush 16, 2) := by decide +kernel
theorem dX12_isSo_77 : decode cX12_isSo 77 = .ok (.aload_n 0, 1) := by decide +kernel
theorem dX12_isSo_78 : decode cX12_isSo 78 = .ok (.getfield 419, 3) := by decide +kernel
theorem dX12_isSo_81 : decode cX12_isSo 81 = .ok (.imul, 1) := by decide +kernel
theorem dX12_isSo_82 : decode cX12_isSo 82 = .ok (.iload_n 2, 1) := by decide +kernel
theorem dX12_isSo_83 : decode cX12_isSo 83 = .ok (.iadd, 1) := by decide +kernel
theorem dX12_isSo_84 : decode cX12_isSo 84 = .ok (.iaload, 1) := by decide +kernel
theorem dX12_isSo_85 : decode cX12_isSo 85 = .ok (.iastore, 1) := by decide +kernel
theorem dX12_isSo_86 : decode cX12_isSo 86 = .ok (.aload_n 0, 1) := by decide +kernel
theorem dX12_isSo_87 : decode cX12_isSo 87 = .ok (.iload_n 1, 1) := by decide +kernel
theorem dX12_isSo_88 : decode cX12_isSo 88 = .ok (.invokevirtual 431, 3) := by decide +kernel
theorem dX12_isSo_91 : decode cX12_isSo 91 = .ok (.ifCond .eq 7, 3) := by decide +kernel
theorem dX12_isSo_94 : decode cX12_isSo 94 = .ok (.iconst 1, 1) := by decide +kernel
theorem dX12_isSo_95 : decode cX12_isSo 95 = .ok (.goto 4, 3) := by decide +kernel
theorem dX12_isSo_98 : decode cX12_isSo 98 = .ok (.iconst 0, 1) := by decide +kernel
theorem dX12_isSo_99 : decode cX12_isSo 99 = .ok (.ireturn, 1) := by decide +kernel
theorem dX12_isForced_0 : decode cX12_isForced 0 = .ok (.aload_n 0, 1) := by decide +kernel
theorem dX12_isForced_1 : decode cX12_isForced 1 = .ok (.getfield 38, 3) := by decide +kernel
theorem dX12_isForced_4 : decode cX12_isForced 4 = .ok (.iload_n 1, 1) := by decide +kernel
theorem dX12_isForced_5 : decode cX12_isForced 5 = .ok (.baload, 1) := by decide +kernel
theorem dX12_isForced_6 : decode cX12_isForced 6 = .ok (.ifCond .ne 5, 3) := by decide +kernel
theorem dX12_isForced_9 : decode cX12_isForced 9 = .ok (.iconst 1, 1) := by decide +kernel
theorem dX12_isForced_10 : decode cX12_isForced 10 = .ok (.ireturn, 1) := by decide +kernel
theorem dX12_isForced_11 : decode cX12_isForced 11 = .ok (.iconst 0, 1) := by decide +kernel
theorem dX12_isForced_12 : decode cX12_isForced 12 = .ok (.istore_n 2, 1) := by decide +kernel
theorem dX12_isForced_13 : decode cX12_isForced 13 = .ok (.iconst 0, 1) := by decide +kernel
theorem dX12_isForced_14 : decode cX12_isForced 14 = .ok (.istore_n 3, 1) := by decide +kernel
theorem dX12_isForced_15 : decode cX12_isForced 15 = .ok (.iload_n 3, 1) := by decide +kernel
theorem dX12_isForced_16 : decode cX12_isForced 16 = .ok (.iload_n 1, 1) := by decide +kernel
theorem dX12_isForced_17 : decode cX12_isForced 17 = .ok (.if_icmp .ge 26, 3) := by decide +kernel
theorem dX12_isForced_20 : decode cX12_isForced 20 = .ok (.iload_n 2, 1) := by decide +kernel
theorem dX12_isForced_21 : decode cX12_isForced 21 = .ok (.aload_n 0, 1) := by decide +kernel
theorem dX12_isForced_22 : decode cX12_isForced 22 = .ok (.getfield 38, 3) := by decide +kernel
theorem dX12_isForced_25 : decode cX12_isForced 25 = .ok (.iload_n 3, 1) := by decide +kernel
theorem dX12_isForced_26 : decode cX12_isForced 26 = .ok (.baload, 1) := by decide +kernel
theorem dX12_isForced_27 : decode cX12_isForced 27 = .ok (.ifCond .eq 7, 3) := by decide +kernel
theorem dX12_isForced_30 : decode cX12_isForced 30 = .ok (.iconst 1, 1) := by decide +kernel
theorem dX12_isForced_31 : decode cX12_isForced 31 = .ok (.goto 4, 3) := by decide +kernel
theorem dX12_isForced_34 : decode cX12_isForced 34 = .ok (.iconst 0, 1) := by decide +kernel
theorem dX12_isForced_35 : decode cX12_isForced 35 = .ok (.iadd, 1) := by decide +kernel
theorem dX12_isForced_36 : decode cX12_isForced 36 = .ok (.istore_n 2, 1) := by decide +kernel
theorem dX12_isForced_37 : decode cX12_isForced 37 = .ok (.iinc 3 1, 3) := by decide +kernel
theorem dX12_isForced_40 : decode cX12_isForced 40 = .ok (.goto (-25), 3) := by decide +kernel
theorem dX12_isForced_43 : decode cX12_isForced 43 = .ok (.aload_n 0, 1) := by decide +kernel
theorem dX12_isForced_44 : decode cX12_isForced 44 = .ok (.getfield 434, 3) := by decide +kernel
theorem dX12_isForced_47 : decode cX12_isForced 47 = .ok (.iload_n 2, 1) := by decide +kernel
theorem dX12_isForced_48 : decode cX12_isForced 48 = .ok (.ishr, 1) := by decide +kernel
theorem dX12_isForced_49 : decode cX12_isForced 49 = .ok (.iconst 1, 1) := by decide +kernel
theorem dX12_isForced_50 : decode cX12_isForced 50 = .ok (.iand, 1) := by decide +kernel
theorem dX12_isForced_51 : decode cX12_isForced 51 = .ok (.iconst 1, 1) := by decide +kernel
theorem dX12_isForced_52 : decode cX12_isForced 52 = .ok (.if_icmp .ne 7, 3) := by decide +kernel
theorem dX12_isForced_55 : decode cX12_isForced 55 = .ok (.iconst 1, 1) := by decide +kernel
theorem dX12_isForced_56 : decode cX12_isForced 56 = .ok (.goto 4, 3) := by decide +kernel
theorem dX12_isForced_59 : decode cX12_isForced 59 = .ok (.iconst 0, 1) := by decide +kernel
theorem dX12_isForced_60 : decode cX12_isForced 60 = .ok (.ireturn, 1) := by decide +kernel
theorem dX12_isFree_0 : decode cX12_isFree 0 = .ok (.iconst 0, 1) := by decide +kernel
theorem dX12_isFree_1 : decode cX12_isFree 1 = .ok (.istore_n 1, 1) := by decide +kernel
theorem dX12_isFree_2 : decode cX12_isFree 2 = .ok (.iload_n 1, 1) := by decide +kernel
theorem dX12_isFree_3 : decode cX12_isFree 3 = .ok (.aload_n 0, 1) := by decide +kernel
theorem dX12_isFree_4 : decode cX12_isFree 4 = .ok (.getfield 398, 3) := by decide +kernel
theorem dX12_isFree_7 : decode cX12_isFree 7 = .ok (.if_icmp .ge 41, 3) := by decide +kernel
theorem dX12_isFree_10 : decode cX12_isFree 10 = .ok (.aload_n 0, 1) := by decide +kernel
theorem dX12_isFree_11 : decode cX12_isFree 11 = .ok (.getfield 35, 3) := by decide +kernel
theorem dX12_isFree_14 : decode cX12_isFree 14 = .ok (.iload_n 1, 1) := by decide +kernel
theorem dX12_isFree_15 : decode cX12_isFree 15 = .ok (.iaload, 1) := by decide +kernel
theorem dX12_isFree_16 : decode cX12_isFree 16 = .ok (.iconst 1, 1) := by decide +kernel
theorem dX12_isFree_17 : decode cX12_isFree 17 = .ok (.if_icmp .ne 25, 3) := by decide +kernel
theorem dX12_isFree_20 : decode cX12_isFree 20 = .ok (.aload_n 0, 1) := by decide +kernel
theorem dX12_isFree_21 : decode cX12_isFree 21 = .ok (.iload_n 1, 1) := by decide +kernel
theorem dX12_isFree_22 : decode cX12_isFree 22 = .ok (.invokevirtual 437, 3) := by decide +kernel
theorem dX12_isFree_25 : decode cX12_isFree 25 = .ok (.ifCond .eq 17, 3) := by decide +kernel
theorem dX12_isFree_28 : decode cX12_isFree 28 = .ok (.aload_n 0, 1) := by decide +kernel
theorem dX12_isFree_29 : decode cX12_isFree 29 = .ok (.iload_n 1, 1) := by decide +kernel
theorem dX12_isFree_30 : decode cX12_isFree 30 = .ok (.aload_n 0, 1) := by decide +kernel
theorem dX12_isFree_31 : decode cX12_isFree 31 = .ok (.getfield 422, 3) := by decide +kernel
theorem dX12_isFree_34 : decode cX12_isFree 34 = .ok (.invokevirtual 440, 3) := by decide +kernel
theorem dX12_isFree_37 : decode cX12_isFree 37 = .ok (.ifCond .eq 5, 3) := by decide +kernel
theorem dX12_isFree_40 : decode cX12_isFree 40 = .ok (.iconst 1, 1) := by decide +kernel
theorem dX12_isFree_41 : decode cX12_isFree 41 = .ok (.ireturn, 1) := by decide +kernel
theorem dX12_isFree_42 : decode cX12_isFree 42 = .ok (.iinc 1 1, 3) := by decide +kernel
theorem dX12_isFree_45 : decode cX12_isFree 45 = .ok (.goto (-43), 3) := by decide +kernel
theorem dX12_isFree_48 : decode cX12_isFree 48 = .ok (.iconst 0, 1) := by decide +kernel
theorem dX12_isFree_49 : decode cX12_isFree 49 = .ok (.ireturn, 1) := by decide +kernel
theorem dX12_rankOf_0 : decode cX12_rankOf 0 = .ok (.iconst 0, 1) := by decide +kernel
theorem dX12_rankOf_1 : decode cX12_rankOf 1 = .ok (.istore_n 2, 1) := by decide +kernel
theorem dX12_rankOf_2 : decode cX12_rankOf 2 = .ok (.iload_n 1, 1) := by decide +kernel
theorem dX12_rankOf_3 : decode cX12_rankOf 3 = .ok (.aload_n 0, 1) := by decide +kernel
theorem dX12_rankOf_4 : decode cX12_rankOf 4 = .ok (.getfield 419, 3) := by decide +kernel
theorem dX12_rankOf_7 : decode cX12_rankOf 7 = .ok (.if_icmp .ne 5, 3) := by decide +kernel
theorem dX12_rankOf_10 : decode cX12_rankOf 10 = .ok (.iconst (-1), 1) := by decide +kernel
theorem dX12_rankOf_11 : decode cX12_rankOf 11 = .ok (.ireturn, 1) := by decide +kernel
theorem dX12_rankOf_12 : decode cX12_rankOf 12 = .ok (.iconst 0, 1) := by decide +kernel
theorem dX12_rankOf_13 : decode cX12_rankOf 13 = .ok (.istore_n 3, 1) := by decide +kernel
theorem dX12_rankOf_14 : decode cX12_rankOf 14 = .ok (.iload_n 3, 1) := by decide +kernel
theorem dX12_rankOf_15 : decode cX12_rankOf 15 = .ok (.aload_n 0, 1) := by decide +kernel
theorem dX12_rankOf_16 : decode cX12_rankOf 16 = .ok (.getfield 398, 3) := by decide +kernel
theorem dX12_rankOf_19 : decode cX12_rankOf 19 = .ok (.if_icmp .ge 88, 3) := by decide +kernel
theorem dX12_rankOf_22 : decode cX12_rankOf 22 = .ok (.aload_n 0, 1) := by decide +kernel
theorem dX12_rankOf_23 : decode cX12_rankOf 23 = .ok (.getfield 35, 3) := by decide +kernel
theorem dX12_rankOf_26 : decode cX12_rankOf 26 = .ok (.iload_n 3, 1) := by decide +kernel
theorem dX12_rankOf_27 : decode cX12_rankOf 27 = .ok (.iaload, 1) := by decide +kernel
theorem dX12_rankOf_28 : decode cX12_rankOf 28 = .ok (.iconst 1, 1) := by decide +kernel
theorem dX12_rankOf_29 : decode cX12_rankOf 29 = .ok (.if_icmp .eq 72, 3) := by decide +kernel
theorem dX12_rankOf_32 : decode cX12_rankOf 32 = .ok (.aload_n 0, 1) := by decide +kernel
theorem dX12_rankOf_33 : decode cX12_rankOf 33 = .ok (.iload_n 3, 1) := by decide +kernel
theorem dX12_rankOf_34 : decode cX12_rankOf 34 = .ok (.invokevirtual 437, 3) := by decide +kernel
theorem dX12_rankOf_37 : decode cX12_rankOf 37 = .ok (.ifCond .ne 6, 3) := by decide +kernel
theorem dX12_rankOf_40 : decode cX12_rankOf 40 = .ok (.goto 61, 3) := by decide +kernel
theorem dX12_rankOf_43 : decode cX12_rankOf 43 = .ok (.aload_n 0, 1) := by decide +kernel
theorem dX12_rankOf_44 : decode cX12_rankOf 44 = .ok (.getfield 44, 3) := by decide +kernel
theorem dX12_rankOf_47 : decode cX12_rankOf 47 = .ok (.iload_n 3, 1) := by decide +kernel
theorem dX12_rankOf_48 : decode cX12_rankOf 48 = .ok (.iaload, 1) := by decide +kernel
theorem dX12_rankOf_49 : decode cX12_rankOf 49 = .ok (.aload_n 0, 1) := by decide +kernel
theorem dX12_rankOf_50 : decode cX12_rankOf 50 = .ok (.getfield 425, 3) := by decide +kernel
theorem dX12_rankOf_53 : decode cX12_rankOf 53 = .ok (.ishr, 1) := by decide +kernel
theorem dX12_rankOf_54 : decode cX12_rankOf 54 = .ok (.iconst 1, 1) := by decide +kernel
theorem dX12_rankOf_55 : decode cX12_rankOf 55 = .ok (.iand, 1) := by decide +kernel
theorem dX12_rankOf_56 : decode cX12_rankOf 56 = .ok (.iconst 1, 1) := by decide +kernel
theorem dX12_rankOf_57 : decode cX12_rankOf 57 = .ok (.if_icmp .ne 41, 3) := by decide +kernel
theorem dX12_rankOf_60 : decode cX12_rankOf 60 = .ok (.aload_n 0, 1) := by decide +kernel
theorem dX12_rankOf_61 : decode cX12_rankOf 61 = .ok (.aload_n 0, 1) := by decide +kernel
theorem dX12_rankOf_62 : decode cX12_rankOf 62 = .ok (.getfield 41, 3) := by decide +kernel
theorem dX12_rankOf_65 : decode cX12_rankOf 65 = .ok (.iload_n 3, 1) := by decide +kernel
theorem dX12_rankOf_66 : decode cX12_rankOf 66 = .ok (.iaload, 1) := by decide +kernel
theorem dX12_rankOf_67 : decode cX12_rankOf 67 = .ok (.aload_n 0, 1) := by decide +kernel
theorem dX12_rankOf_68 : decode cX12_rankOf 68 = .ok (.getfield 416, 3) := by decide +kernel
theorem dX12_rankOf_71 : decode cX12_rankOf 71 = .ok (.aload_n 0, 1) := by decide +kernel
theorem dX12_rankOf_72 : decode cX12_rankOf 72 = .ok (.getfield 419, 3) := by decide +kernel
theorem dX12_rankOf_75 : decode cX12_rankOf 75 = .ok (.iload_n 1, 1) := by decide +kernel
theorem dX12_rankOf_76 : decode cX12_rankOf 76 = .ok (.invokevirtual 243, 3) := by decide +kernel
theorem dX12_rankOf_79 : decode cX12_rankOf 79 = .ok (.ifCond .le 19, 3) := by decide +kernel
theorem dX12_rankOf_82 : decode cX12_rankOf 82 = .ok (.aload_n 0, 1) := by decide +kernel
theorem dX12_rankOf_83 : decode cX12_rankOf 83 = .ok (.iload_n 3, 1) := by decide +kernel
theorem dX12_rankOf_84 : decode cX12_rankOf 84 = .ok (.iload_n 1, 1) := by decide +kernel
theorem dX12_rankOf_85 : decode cX12_rankOf 85 = .ok (.invokevirtual 440, 3) := by decide +kernel
theorem dX12_rankOf_88 : decode cX12_rankOf 88 = .ok (.ifCond .eq 10, 3) := by decide +kernel
theorem dX12_rankOf_91 : decode cX12_rankOf 91 = .ok (.aload_n 0, 1) := by decide +kernel
theorem dX12_rankOf_92 : decode cX12_rankOf 92 = .ok (.iload_n 3, 1) := by decide +kernel
theorem dX12_rankOf_93 : decode cX12_rankOf 93 = .ok (.putfield 444, 3) := by decide +kernel
theorem dX12_rankOf_96 : decode cX12_rankOf 96 = .ok (.iload_n 2, 1) := by decide +kernel
theorem dX12_rankOf_97 : decode cX12_rankOf 97 = .ok (.ireturn, 1) := by decide +kernel
theorem dX12_rankOf_98 : decode cX12_rankOf 98 = .ok (.iinc 2 1, 3) := by decide +kernel
theorem dX12_rankOf_101 : decode cX12_rankOf 101 = .ok (.iinc 3 1, 3) := by decide +kernel
theorem dX12_rankOf_104 : decode cX12_rankOf 104 = .ok (.goto (-90), 3) := by decide +kernel
theorem dX12_rankOf_107 : decode cX12_rankOf 107 = .ok (.iconst (-1), 1) := by decide +kernel
theorem dX12_rankOf_108 : decode cX12_rankOf 108 = .ok (.ireturn, 1) := by decide +kernel
theorem dX12_comesFirst_0 : decode cX12_comesFirst 0 = .ok (.iload_n 1, 1) := by decide +kernel
theorem dX12_comesFirst_1 : decode cX12_comesFirst 1 = .ok (.aload_n 0, 1) := by decide +kernel
theorem dX12_comesFirst_2 : decode cX12_comesFirst 2 = .ok (.getfield 422, 3) := by decide +kernel
theorem dX12_comesFirst_5 : decode cX12_comesFirst 5 = .ok (.if_icmp .eq 20, 3) := by decide +kernel
theorem dX12_comesFirst_8 : decode cX12_comesFirst 8 = .ok (.iload_n 2, 1) := by decide +kernel
theorem dX12_comesFirst_9 : decode cX12_comesFirst 9 = .ok (.ifCond .lt 16, 3) := by decide +kernel
theorem dX12_comesFirst_12 : decode cX12_comesFirst 12 = .ok (.iload_n 3, 1) := by decide +kernel
theorem dX12_comesFirst_13 : decode cX12_comesFirst 13 = .ok (.ifCond .lt 8, 3) := by decide +kernel
theorem dX12_comesFirst_16 : decode cX12_comesFirst 16 = .ok (.iload_n 2, 1) := by decide +kernel
theorem dX12_comesFirst_17 : decode cX12_comesFirst 17 = .ok (.iload_n 3, 1) := by decide +kernel
theorem dX12_comesFirst_18 : decode cX12_comesFirst 18 = .ok (.if_icmp .ge 7, 3) := by decide +kernel
theorem dX12_comesFirst_21 : decode cX12_comesFirst 21 = .ok (.iconst 1, 1) := by decide +kernel
theorem dX12_comesFirst_22 : decode cX12_comesFirst 22 = .ok (.goto 4, 3) := by decide +kernel
theorem dX12_comesFirst_25 : decode cX12_comesFirst 25 = .ok (.iconst 0, 1) := by decide +kernel
theorem dX12_comesFirst_26 : decode cX12_comesFirst 26 = .ok (.ireturn, 1) := by decide +kernel
theorem dX12_comers_0 : decode cX12_comers 0 = .ok (.aload_n 0, 1) := by decide +kernel
theorem dX12_comers_1 : decode cX12_comers 1 = .ok (.invokevirtual 447, 3) := by decide +kernel
theorem dX12_comers_4 : decode cX12_comers 4 = .ok (.ifCond .eq 5, 3) := by decide +kernel
theorem dX12_comers_7 : decode cX12_comers 7 = .ok (.iconst 0, 1) := by decide +kernel
theorem dX12_comers_8 : decode cX12_comers 8 = .ok (.ireturn, 1) := by decide +kernel
theorem dX12_comers_9 : decode cX12_comers 9 = .ok (.aload_n 0, 1) := by decide +kernel
theorem dX12_comers_10 : decode cX12_comers 10 = .ok (.aload_n 0, 1) := by decide +kernel
theorem dX12_comers_11 : decode cX12_comers 11 = .ok (.getfield 422, 3) := by decide +kernel
theorem dX12_comers_14 : decode cX12_comers 14 = .ok (.invokevirtual 450, 3) := by decide +kernel
theorem dX12_comers_17 : decode cX12_comers 17 = .ok (.istore_n 1, 1) := by decide +kernel
theorem dX12_comers_18 : decode cX12_comers 18 = .ok (.iconst 0, 1) := by decide +kernel
theorem dX12_comers_19 : decode cX12_comers 19 = .ok (.istore_n 2, 1) := by decide +kernel
theorem dX12_comers_20 : decode cX12_comers 20 = .ok (.iconst 0, 1) := by decide +kernel
theorem dX12_comers_21 : decode cX12_comers 21 = .ok (.istore_n 3, 1) := by decide +kernel
theorem dX12_comers_22 : decode cX12_comers 22 = .ok (.iload_n 3, 1) := by decide +kernel
theorem dX12_comers_23 : decode cX12_comers 23 = .ok (.bipush 16, 2) := by decide +kernel
theorem dX12_comers_25 : decode cX12_comers 25 = .ok (.if_icmp .ge 33, 3) := by decide +kernel
theorem dX12_comers_28 : decode cX12_comers 28 = .ok (.iload_n 2, 1) := by decide +kernel
theorem dX12_comers_29 : decode cX12_comers 29 = .ok (.aload_n 0, 1) := by decide +kernel
theorem dX12_comers_30 : decode cX12_comers 30 = .ok (.iload_n 3, 1) := by decide +kernel
theorem dX12_comers_31 : decode cX12_comers 31 = .ok (.aload_n 0, 1) := by decide +kernel
theorem dX12_comers_32 : decode cX12_comers 32 = .ok (.iload_n 3, 1) := by decide +kernel
theorem dX12_comers_33 : decode cX12_comers 33 = .ok (.invokevirtual 450, 3) := by decide +kernel
theorem dX12_comers_36 : decode cX12_comers 36 = .ok (.iload_n 1, 1) := by decide +kernel
theorem dX12_comers_37 : decode cX12_comers 37 = .ok (.invokevirtual 453, 3) := by decide +kernel
theorem dX12_comers_40 : decode cX12_comers 40 = .ok (.ifCond .eq 9, 3) := by decide +kernel
theorem dX12_comers_43 : decode cX12_comers 43 = .ok (.iconst 1, 1) := by decide +kernel
theorem dX12_comers_44 : decode cX12_comers 44 = .ok (.iload_n 3, 1) := by decide +kernel
theorem dX12_comers_45 : decode cX12_comers 45 = .ok (.ishl, 1) := by decide +kernel
theorem dX12_comers_46 : decode cX12_comers 46 = .ok (.goto 4, 3) := by decide +kernel
theorem dX12_comers_49 : decode cX12_comers 49 = .ok (.iconst 0, 1) := by decide +kernel
theorem dX12_comers_50 : decode cX12_comers 50 = .ok (.ior, 1) := by decide +kernel
theorem dX12_comers_51 : decode cX12_comers 51 = .ok (.istore_n 2, 1) := by decide +kernel
theorem dX12_comers_52 : decode cX12_comers 52 = .ok (.iinc 3 1, 3) := by decide +kernel
theorem dX12_comers_55 : decode cX12_comers 55 = .ok (.goto (-33), 3) := by decide +kernel
theorem dX12_comers_58 : decode cX12_comers 58 = .ok (.iload_n 2, 1) := by decide +kernel
theorem dX12_comers_59 : decode cX12_comers 59 = .ok (.ireturn, 1) := by decide +kernel
theorem dX12_isPassing_0 : decode cX12_isPassing 0 = .ok (.aload_n 0, 1) := by decide +kernel
theorem dX12_isPassing_1 : decode cX12_isPassing 1 = .ok (.iload_n 1, 1) := by decide +kernel
theorem dX12_isPassing_2 : decode cX12_isPassing 2 = .ok (.invokevirtual 230, 3) := by decide +kernel
theorem dX12_isPassing_5 : decode cX12_isPassing 5 = .ok (.ifCond .eq 43, 3) := by decide +kernel
theorem dX12_isPassing_8 : decode cX12_isPassing 8 = .ok (.iload_n 2, 1) := by decide +kernel
theorem dX12_isPassing_9 : decode cX12_isPassing 9 = .ok (.invokestatic 226, 3) := by decide +kernel
theorem dX12_isPassing_12 : decode cX12_isPassing 12 = .ok (.ifCond .eq 36, 3) := by decide +kernel
theorem dX12_isPassing_15 : decode cX12_isPassing 15 = .ok (.iload_n 3, 1) := by decide +kernel
theorem dX12_isPassing_16 : decode cX12_isPassing 16 = .ok (.invokestatic 226, 3) := by decide +kernel
theorem dX12_isPassing_19 : decode cX12_isPassing 19 = .ok (.ifCond .eq 29, 3) := by decide +kernel
theorem dX12_isPassing_22 : decode cX12_isPassing 22 = .ok (.iload_n 2, 1) := by decide +kernel
theorem dX12_isPassing_23 : decode cX12_isPassing 23 = .ok (.iload_n 3, 1) := by decide +kernel
theorem dX12_isPassing_24 : decode cX12_isPassing 24 = .ok (.if_icmp .eq 24, 3) := by decide +kernel
theorem dX12_isPassing_27 : decode cX12_isPassing 27 = .ok (.iload 4, 2) := by decide +kernel
theorem dX12_isPassing_29 : decode cX12_isPassing 29 = .ok (.iconst 1, 1) := by decide +kernel
theorem dX12_isPassing_30 : decode cX12_isPassing 30 = .ok (.bipush 12, 2) := by decide +kernel
theorem dX12_isPassing_32 : decode cX12_isPassing 32 = .ok (.invokestatic 222, 3) := by decide +kernel
theorem dX12_isPassing_35 : decode cX12_isPassing 35 = .ok (.ifCond .eq 13, 3) := by decide +kernel
theorem dX12_isPassing_38 : decode cX12_isPassing 38 = .ok (.iload 5, 2) := by decide +kernel
theorem dX12_isPassing_40 : decode cX12_isPassing 40 = .ok (.iconst 0, 1) := by decide +kernel
theorem dX12_isPassing_41 : decode cX12_isPassing 41 = .ok (.iconst 2, 1) := by decide +kernel
theorem dX12_isPassing_42 : decode cX12_isPassing 42 = .ok (.invokestatic 222, 3) := by decide +kernel
theorem dX12_isPassing_45 : decode cX12_isPassing 45 = .ok (.ifCond .ne 5, 3) := by decide +kernel
theorem dX12_isPassing_48 : decode cX12_isPassing 48 = .ok (.iconst 0, 1) := by decide +kernel
theorem dX12_isPassing_49 : decode cX12_isPassing 49 = .ok (.ireturn, 1) := by decide +kernel
theorem dX12_isPassing_50 : decode cX12_isPassing 50 = .ok (.iload 6, 2) := by decide +kernel
theorem dX12_isPassing_52 : decode cX12_isPassing 52 = .ok (.iconst 0, 1) := by decide +kernel
theorem dX12_isPassing_53 : decode cX12_isPassing 53 = .ok (.sipush 9999, 3) := by decide +kernel
theorem dX12_isPassing_56 : decode cX12_isPassing 56 = .ok (.invokestatic 222, 3) := by decide +kernel
theorem dX12_isPassing_59 : decode cX12_isPassing 59 = .ok (.ifCond .eq 35, 3) := by decide +kernel
theorem dX12_isPassing_62 : decode cX12_isPassing 62 = .ok (.iload 7, 2) := by decide +kernel
theorem dX12_isPassing_64 : decode cX12_isPassing 64 = .ok (.iconst 0, 1) := by decide +kernel
theorem dX12_isPassing_65 : decode cX12_isPassing 65 = .ok (.sipush 9999, 3) := by decide +kernel
theorem dX12_isPassing_68 : decode cX12_isPassing 68 = .ok (.invokestatic 222, 3) := by decide +kernel
theorem dX12_isPassing_71 : decode cX12_isPassing 71 = .ok (.ifCond .eq 23, 3) := by decide +kernel
theorem dX12_isPassing_74 : decode cX12_isPassing 74 = .ok (.iload 5, 2) := by decide +kernel
theorem dX12_isPassing_76 : decode cX12_isPassing 76 = .ok (.iconst 1, 1) := by decide +kernel
theorem dX12_isPassing_77 : decode cX12_isPassing 77 = .ok (.if_icmp .ne 13, 3) := by decide +kernel
theorem dX12_isPassing_80 : decode cX12_isPassing 80 = .ok (.iload 6, 2) := by decide +kernel
theorem dX12_isPassing_82 : decode cX12_isPassing 82 = .ok (.ifCond .ne 12, 3) := by decide +kernel
theorem dX12_isPassing_85 : decode cX12_isPassing 85 = .ok (.iload 7, 2) := by decide +kernel
theorem dX12_isPassing_87 : decode cX12_isPassing 87 = .ok (.ifCond .ne 7, 3) := by decide +kernel
theorem dX12_isPassing_90 : decode cX12_isPassing 90 = .ok (.iconst 1, 1) := by decide +kernel
theorem dX12_isPassing_91 : decode cX12_isPassing 91 = .ok (.goto 4, 3) := by decide +kernel
theorem dX12_isPassing_94 : decode cX12_isPassing 94 = .ok (.iconst 0, 1) := by decide +kernel
theorem dX12_isPassing_95 : decode cX12_isPassing 95 = .ok (.ireturn, 1) := by decide +kernel
theorem dX12_pass_0 : decode cX12_pass 0 = .ok (.aload_n 0, 1) := by decide +kernel
theorem dX12_pass_1 : decode cX12_pass 1 = .ok (.iconst 0, 1) := by decide +kernel
theorem dX12_pass_2 : decode cX12_pass 2 = .ok (.putfield 218, 3) := by decide +kernel
theorem dX12_pass_5 : decode cX12_pass 5 = .ok (.aload_n 0, 1) := by decide +kernel
theorem dX12_pass_6 : decode cX12_pass 6 = .ok (.iload_n 1, 1) := by decide +kernel
theorem dX12_pass_7 : decode cX12_pass 7 = .ok (.iload_n 2, 1) := by decide +kernel
theorem dX12_pass_8 : decode cX12_pass 8 = .ok (.iload_n 3, 1) := by decide +kernel
theorem dX12_pass_9 : decode cX12_pass 9 = .ok (.iload 4, 2) := by decide +kernel
theorem dX12_pass_11 : decode cX12_pass 11 = .ok (.iload 5, 2) := by decide +kernel
theorem dX12_pass_13 : decode cX12_pass 13 = .ok (.iload 6, 2) := by decide +kernel
theorem dX12_pass_15 : decode cX12_pass 15 = .ok (.iload 7, 2) := by decide +kernel
theorem dX12_pass_17 : decode cX12_pass 17 = .ok (.invokevirtual 456, 3) := by decide +kernel
theorem dX12_pass_20 : decode cX12_pass 20 = .ok (.ifCond .eq 28, 3) := by decide +kernel
theorem dX12_pass_23 : decode cX12_pass 23 = .ok (.aload_n 0, 1) := by decide +kernel
theorem dX12_pass_24 : decode cX12_pass 24 = .ok (.getfield 13, 3) := by decide +kernel
theorem dX12_pass_27 : decode cX12_pass 27 = .ok (.bipush 16, 2) := by decide +kernel
theorem dX12_pass_29 : decode cX12_pass 29 = .ok (.iload_n 1, 1) := by decide +kernel
theorem dX12_pass_30 : decode cX12_pass 30 = .ok (.imul, 1) := by decide +kernel
theorem dX12_pass_31 : decode cX12_pass 31 = .ok (.iload_n 2, 1) := by decide +kernel
theorem dX12_pass_32 : decode cX12_pass 32 = .ok (.iadd, 1) := by decide +kernel
theorem dX12_pass_33 : decode cX12_pass 33 = .ok (.iaload, 1) := by decide +kernel
theorem dX12_pass_34 : decode cX12_pass 34 = .ok (.iload 4, 2) := by decide +kernel
theorem dX12_pass_36 : decode cX12_pass 36 = .ok (.if_icmp .lt 12, 3) := by decide +kernel
theorem dX12_pass_39 : decode cX12_pass 39 = .ok (.aload_n 0, 1) := by decide +kernel
theorem dX12_pass_40 : decode cX12_pass 40 = .ok (.getfield 460, 3) := by decide +kernel
theorem dX12_pass_43 : decode cX12_pass 43 = .ok (.bipush 40, 2) := by decide +kernel
theorem dX12_pass_45 : decode cX12_pass 45 = .ok (.if_icmp .ne 5, 3) := by decide +kernel
theorem dX12_pass_48 : decode cX12_pass 48 = .ok (.iconst (-1), 1) := by decide +kernel
theorem dX12_pass_49 : decode cX12_pass 49 = .ok (.ireturn, 1) := by decide +kernel
theorem dX12_pass_50 : decode cX12_pass 50 = .ok (.aload_n 0, 1) := by decide +kernel
theorem dX12_pass_51 : decode cX12_pass 51 = .ok (.iconst 0, 1) := by decide +kernel
theorem dX12_pass_52 : decode cX12_pass 52 = .ok (.putfield 434, 3) := by decide +kernel
theorem dX12_pass_55 : decode cX12_pass 55 = .ok (.aload_n 0, 1) := by decide +kernel
theorem dX12_pass_56 : decode cX12_pass 56 = .ok (.iload_n 1, 1) := by decide +kernel
theorem dX12_pass_57 : decode cX12_pass 57 = .ok (.iload_n 2, 1) := by decide +kernel
theorem dX12_pass_58 : decode cX12_pass 58 = .ok (.iload_n 3, 1) := by decide +kernel
theorem dX12_pass_59 : decode cX12_pass 59 = .ok (.iload 4, 2) := by decide +kernel
theorem dX12_pass_61 : decode cX12_pass 61 = .ok (.iload 5, 2) := by decide +kernel
theorem dX12_pass_63 : decode cX12_pass 63 = .ok (.iload 6, 2) := by decide +kernel
theorem dX12_pass_65 : decode cX12_pass 65 = .ok (.iload 7, 2) := by decide +kernel
theorem dX12_pass_67 : decode cX12_pass 67 = .ok (.invokevirtual 463, 3) := by decide +kernel
theorem dX12_pass_70 : decode cX12_pass 70 = .ok (.aload_n 0, 1) := by decide +kernel
theorem dX12_pass_71 : decode cX12_pass 71 = .ok (.getfield 460, 3) := by decide +kernel
theorem dX12_pass_74 : decode cX12_pass 74 = .ok (.istore 8, 2) := by decide +kernel
theorem dX12_pass_76 : decode cX12_pass 76 = .ok (.aload_n 0, 1) := by decide +kernel
theorem dX12_pass_77 : decode cX12_pass 77 = .ok (.getfield 98, 3) := by decide +kernel
theorem dX12_pass_80 : decode cX12_pass 80 = .ok (.iload 8, 2) := by decide +kernel
theorem dX12_pass_82 : decode cX12_pass 82 = .ok (.iload_n 1, 1) := by decide +kernel
theorem dX12_pass_83 : decode cX12_pass 83 = .ok (.iastore, 1) := by decide +kernel
theorem dX12_pass_84 : decode cX12_pass 84 = .ok (.aload_n 0, 1) := by decide +kernel
theorem dX12_pass_85 : decode cX12_pass 85 = .ok (.getfield 101, 3) := by decide +kernel
theorem dX12_pass_88 : decode cX12_pass 88 = .ok (.iload 8, 2) := by decide +kernel
theorem dX12_pass_90 : decode cX12_pass 90 = .ok (.iload_n 2, 1) := by decide +kernel
theorem dX12_pass_91 : decode cX12_pass 91 = .ok (.iastore, 1) := by decide +kernel
theorem dX12_pass_92 : decode cX12_pass 92 = .ok (.aload_n 0, 1) := by decide +kernel
theorem dX12_pass_93 : decode cX12_pass 93 = .ok (.getfield 104, 3) := by decide +kernel
theorem dX12_pass_96 : decode cX12_pass 96 = .ok (.iload 8, 2) := by decide +kernel
theorem dX12_pass_98 : decode cX12_pass 98 = .ok (.iload_n 3, 1) := by decide +kernel
theorem dX12_pass_99 : decode cX12_pass 99 = .ok (.iastore, 1) := by decide +kernel
theorem dX12_pass_100 : decode cX12_pass 100 = .ok (.aload_n 0, 1) := by decide +kernel
theorem dX12_pass_101 : decode cX12_pass 101 = .ok (.getfield 107, 3) := by decide +kernel
theorem dX12_pass_104 : decode cX12_pass 104 = .ok (.iload 8, 2) := by decide +kernel
theorem dX12_pass_106 : decode cX12_pass 106 = .ok (.iload 4, 2) := by decide +kernel
theorem dX12_pass_108 : decode cX12_pass 108 = .ok (.iastore, 1) := by decide +kernel
theorem dX12_pass_109 : decode cX12_pass 109 = .ok (.aload_n 0, 1) := by decide +kernel
theorem dX12_pass_110 : decode cX12_pass 110 = .ok (.getfield 110, 3) := by decide +kernel
theorem dX12_pass_113 : decode cX12_pass 113 = .ok (.iload 8, 2) := by decide +kernel
theorem dX12_pass_115 : decode cX12_pass 115 = .ok (.iload 5, 2) := by decide +kernel
theorem dX12_pass_117 : decode cX12_pass 117 = .ok (.iastore, 1) := by decide +kernel
theorem dX12_pass_118 : decode cX12_pass 118 = .ok (.aload_n 0, 1) := by decide +kernel
theorem dX12_pass_119 : decode cX12_pass 119 = .ok (.getfield 113, 3) := by decide +kernel
theorem dX12_pass_122 : decode cX12_pass 122 = .ok (.iload 8, 2) := by decide +kernel
theorem dX12_pass_124 : decode cX12_pass 124 = .ok (.iload 6, 2) := by decide +kernel
theorem dX12_pass_126 : decode cX12_pass 126 = .ok (.iastore, 1) := by decide +kernel
theorem dX12_pass_127 : decode cX12_pass 127 = .ok (.aload_n 0, 1) := by decide +kernel
theorem dX12_pass_128 : decode cX12_pass 128 = .ok (.getfield 116, 3) := by decide +kernel
theorem dX12_pass_131 : decode cX12_pass 131 = .ok (.iload 8, 2) := by decide +kernel
theorem dX12_pass_133 : decode cX12_pass 133 = .ok (.iload 7, 2) := by decide +kernel
theorem dX12_pass_135 : decode cX12_pass 135 = .ok (.iastore, 1) := by decide +kernel
theorem dX12_pass_136 : decode cX12_pass 136 = .ok (.aload_n 0, 1) := by decide +kernel
theorem dX12_pass_137 : decode cX12_pass 137 = .ok (.getfield 119, 3) := by decide +kernel
theorem dX12_pass_140 : decode cX12_pass 140 = .ok (.iload 8, 2) := by decide +kernel
theorem dX12_pass_142 : decode cX12_pass 142 = .ok (.aload_n 0, 1) := by decide +kernel
theorem dX12_pass_143 : decode cX12_pass 143 = .ok (.getfield 237, 3) := by decide +kernel
theorem dX12_pass_146 : decode cX12_pass 146 = .ok (.iastore, 1) := by decide +kernel
theorem dX12_pass_147 : decode cX12_pass 147 = .ok (.aload_n 0, 1) := by decide +kernel
theorem dX12_pass_148 : decode cX12_pass 148 = .ok (.getfield 122, 3) := by decide +kernel
theorem dX12_pass_151 : decode cX12_pass 151 = .ok (.iload 8, 2) := by decide +kernel
theorem dX12_pass_153 : decode cX12_pass 153 = .ok (.aload_n 0, 1) := by decide +kernel
theorem dX12_pass_154 : decode cX12_pass 154 = .ok (.invokevirtual 447, 3) := by decide +kernel
theorem dX12_pass_157 : decode cX12_pass 157 = .ok (.bastore, 1) := by decide +kernel
theorem dX12_pass_158 : decode cX12_pass 158 = .ok (.aload_n 0, 1) := by decide +kernel
theorem dX12_pass_159 : decode cX12_pass 159 = .ok (.getfield 125, 3) := by decide +kernel
theorem dX12_pass_162 : decode cX12_pass 162 = .ok (.iload 8, 2) := by decide +kernel
theorem dX12_pass_164 : decode cX12_pass 164 = .ok (.aload_n 0, 1) := by decide +kernel
theorem dX12_pass_165 : decode cX12_pass 165 = .ok (.iload_n 3, 1) := by decide +kernel
theorem dX12_pass_166 : decode cX12_pass 166 = .ok (.invokevirtual 450, 3) := by decide +kernel
theorem dX12_pass_169 : decode cX12_pass 169 = .ok (.iastore, 1) := by decide +kernel
theorem dX12_pass_170 : decode cX12_pass 170 = .ok (.aload_n 0, 1) := by decide +kernel
theorem dX12_pass_171 : decode cX12_pass 171 = .ok (.getfield 128, 3) := by decide +kernel
theorem dX12_pass_174 : decode cX12_pass 174 = .ok (.iload 8, 2) := by decide +kernel
theorem dX12_pass_176 : decode cX12_pass 176 = .ok (.iconst (-1), 1) := by decide +kernel
theorem dX12_pass_177 : decode cX12_pass 177 = .ok (.iastore, 1) := by decide +kernel
theorem dX12_pass_178 : decode cX12_pass 178 = .ok (.aload_n 0, 1) := by decide +kernel
theorem dX12_pass_179 : decode cX12_pass 179 = .ok (.getfield 131, 3) := by decide +kernel
theorem dX12_pass_182 : decode cX12_pass 182 = .ok (.iload 8, 2) := by decide +kernel
theorem dX12_pass_184 : decode cX12_pass 184 = .ok (.aload_n 0, 1) := by decide +kernel
theorem dX12_pass_185 : decode cX12_pass 185 = .ok (.getfield 401, 3) := by decide +kernel
theorem dX12_pass_188 : decode cX12_pass 188 = .ok (.bastore, 1) := by decide +kernel
theorem dX12_pass_189 : decode cX12_pass 189 = .ok (.aload_n 0, 1) := by decide +kernel
theorem dX12_pass_190 : decode cX12_pass 190 = .ok (.getfield 134, 3) := by decide +kernel
theorem dX12_pass_193 : decode cX12_pass 193 = .ok (.iload 8, 2) := by decide +kernel
theorem dX12_pass_195 : decode cX12_pass 195 = .ok (.aload_n 0, 1) := by decide +kernel
theorem dX12_pass_196 : decode cX12_pass 196 = .ok (.getfield 404, 3) := by decide +kernel
theorem dX12_pass_199 : decode cX12_pass 199 = .ok (.bastore, 1) := by decide +kernel
theorem dX12_pass_200 : decode cX12_pass 200 = .ok (.iconst 0, 1) := by decide +kernel
theorem dX12_pass_201 : decode cX12_pass 201 = .ok (.istore 9, 2) := by decide +kernel
theorem dX12_pass_203 : decode cX12_pass 203 = .ok (.iload 9, 2) := by decide +kernel
theorem dX12_pass_205 : decode cX12_pass 205 = .ok (.bipush 16, 2) := by decide +kernel
theorem dX12_pass_207 : decode cX12_pass 207 = .ok (.if_icmp .ge 174, 3) := by decide +kernel
theorem dX12_pass_210 : decode cX12_pass 210 = .ok (.aload_n 0, 1) := by decide +kernel
theorem dX12_pass_211 : decode cX12_pass 211 = .ok (.iload 9, 2) := by decide +kernel
theorem dX12_pass_213 : decode cX12_pass 213 = .ok (.invokevirtual 450, 3) := by decide +kernel
theorem dX12_pass_216 : decode cX12_pass 216 = .ok (.istore 10, 2) := by decide +kernel
theorem dX12_pass_218 : decode cX12_pass 218 = .ok (.aload_n 0, 1) := by decide +kernel
theorem dX12_pass_219 : decode cX12_pass 219 = .ok (.getfield 122, 3) := by decide +kernel
theorem dX12_pass_222 : decode cX12_pass 222 = .ok (.iload 8, 2) := by decide +kernel
theorem dX12_pass_224 : decode cX12_pass 224 = .ok (.baload, 1) := by decide +kernel
theorem dX12_pass_225 : decode cX12_pass 225 = .ok (.ifCond .ne 25, 3) := by decide +kernel
theorem dX12_pass_228 : decode cX12_pass 228 = .ok (.aload_n 0, 1) := by decide +kernel
theorem dX12_pass_229 : decode cX12_pass 229 = .ok (.iload 9, 2) := by decide +kernel
theorem dX12_pass_231 : decode cX12_pass 231 = .ok (.iload 10, 2) := by decide +kernel
theorem dX12_pass_233 : decode cX12_pass 233 = .ok (.aload_n 0, 1) := by decide +kernel
theorem dX12_pass_234 : decode cX12_pass 234 = .ok (.getfield 125, 3) := by decide +kernel
theorem dX12_pass_237 : decode cX12_pass 237 = .ok (.iload 8, 2) := by decide +kernel
theorem dX12_pass_239 : decode cX12_pass 239 = .ok (.iaload, 1) := by decide +kernel
theorem dX12_pass_240 : decode cX12_pass 240 = .ok (.invokevirtual 453, 3) := by decide +kernel
theorem dX12_pass_243 : decode cX12_pass 243 = .ok (.ifCond .eq 7, 3) := by decide +kernel
theorem dX12_pass_246 : decode cX12_pass 246 = .ok (.iconst 1, 1) := by decide +kernel
theorem dX12_pass_247 : decode cX12_pass 247 = .ok (.goto 4, 3) := by decide +kernel
theorem dX12_pass_250 : decode cX12_pass 250 = .ok (.iconst 0, 1) := by decide +kernel
theorem dX12_pass_251 : decode cX12_pass 251 = .ok (.istore 11, 2) := by decide +kernel
theorem dX12_pass_253 : decode cX12_pass 253 = .ok (.aload_n 0, 1) := by decide +kernel
theorem dX12_pass_254 : decode cX12_pass 254 = .ok (.getfield 137, 3) := by decide +kernel
theorem dX12_pass_257 : decode cX12_pass 257 = .ok (.bipush 16, 2) := by decide +kernel
theorem dX12_pass_259 : decode cX12_pass 259 = .ok (.iload 8, 2) := by decide +kernel
theorem dX12_pass_261 : decode cX12_pass 261 = .ok (.imul, 1) := by decide +kernel
theorem dX12_pass_262 : decode cX12_pass 262 = .ok (.iload 9, 2) := by decide +kernel
theorem dX12_pass_264 : decode cX12_pass 264 = .ok (.iadd, 1) := by decide +kernel
theorem dX12_pass_265 : decode cX12_pass 265 = .ok (.iload 11, 2) := by decide +kernel
theorem dX12_pass_267 : decode cX12_pass 267 = .ok (.ifCond .eq 8, 3) := by decide +kernel
theorem dX12_pass_270 : decode cX12_pass 270 = .ok (.iload 10, 2) := by decide +kernel
theorem dX12_pass_272 : decode cX12_pass 272 = .ok (.goto 4, 3) := by decide +kernel
theorem dX12_pass_275 : decode cX12_pass 275 = .ok (.iconst (-1), 1) := by decide +kernel
theorem dX12_pass_276 : decode cX12_pass 276 = .ok (.iastore, 1) := by decide +kernel
theorem dX12_pass_277 : decode cX12_pass 277 = .ok (.aload_n 0, 1) := by decide +kernel
theorem dX12_pass_278 : decode cX12_pass 278 = .ok (.getfield 140, 3) := by decide +kernel
theorem dX12_pass_281 : decode cX12_pass 281 = .ok (.bipush 16, 2) := by decide +kernel
theorem dX12_pass_283 : decode cX12_pass 283 = .ok (.iload 8, 2) := by decide +kernel
theorem dX12_pass_285 : decode cX12_pass 285 = .ok (.imul, 1) := by decide +kernel
theorem dX12_pass_286 : decode cX12_pass 286 = .ok (.iload 9, 2) := by decide +kernel
theorem dX12_pass_288 : decode cX12_pass 288 = .ok (.iadd, 1) := by decide +kernel
theorem dX12_pass_289 : decode cX12_pass 289 = .ok (.iload 11, 2) := by decide +kernel
theorem dX12_pass_291 : decode cX12_pass 291 = .ok (.ifCond .eq 15, 3) := by decide +kernel
theorem dX12_pass_294 : decode cX12_pass 294 = .ok (.aload_n 0, 1) := by decide +kernel
theorem dX12_pass_295 : decode cX12_pass 295 = .ok (.getfield 47, 3) := by decide +kernel
theorem dX12_pass_298 : decode cX12_pass 298 = .ok (.aload_n 0, 1) := by decide +kernel
theorem dX12_pass_299 : decode cX12_pass 299 = .ok (.getfield 444, 3) := by decide +kernel
theorem dX12_pass_302 : decode cX12_pass 302 = .ok (.iaload, 1) := by decide +kernel
theorem dX12_pass_303 : decode cX12_pass 303 = .ok (.goto 4, 3) := by decide +kernel
theorem dX12_pass_306 : decode cX12_pass 306 = .ok (.iconst 0, 1) := by decide +kernel
theorem dX12_pass_307 : decode cX12_pass 307 = .ok (.iastore, 1) := by decide +kernel
theorem dX12_pass_308 : decode cX12_pass 308 = .ok (.aload_n 0, 1) := by decide +kernel
theorem dX12_pass_309 : decode cX12_pass 309 = .ok (.getfield 143, 3) := by decide +kernel
theorem dX12_pass_312 : decode cX12_pass 312 = .ok (.bipush 16, 2) := by decide +kernel
theorem dX12_pass_314 : decode cX12_pass 314 = .ok (.iload 8, 2) := by decide +kernel
theorem dX12_pass_316 : decode cX12_pass 316 = .ok (.imul, 1) := by decide +kernel
theorem dX12_pass_317 : decode cX12_pass 317 = .ok (.iload 9, 2) := by decide +kernel
theorem dX12_pass_319 : decode cX12_pass 319 = .ok (.iadd, 1) := by decide +kernel
theorem dX12_pass_320 : decode cX12_pass 320 = .ok (.iload 11, 2) := by decide +kernel
theorem dX12_pass_322 : decode cX12_pass 322 = .ok (.ifCond .eq 23, 3) := by decide +kernel
theorem dX12_pass_325 : decode cX12_pass 325 = .ok (.aload_n 0, 1) := by decide +kernel
theorem dX12_pass_326 : decode cX12_pass 326 = .ok (.aload_n 0, 1) := by decide +kernel
theorem dX12_pass_327 : decode cX12_pass 327 = .ok (.getfield 41, 3) := by decide +kernel
theorem dX12_pass_330 : decode cX12_pass 330 = .ok (.aload_n 0, 1) := by decide +kernel
theorem dX12_pass_331 : decode cX12_pass 331 = .ok (.getfield 444, 3) := by decide +kernel
theorem dX12_pass_334 : decode cX12_pass 334 = .ok (.iaload, 1) := by decide +kernel
theorem dX12_pass_335 : decode cX12_pass 335 = .ok (.iload_n 1, 1) := by decide +kernel
theorem dX12_pass_336 : decode cX12_pass 336 = .ok (.iload_n 2, 1) := by decide +kernel
theorem dX12_pass_337 : decode cX12_pass 337 = .ok (.iload 9, 2) := by decide +kernel
theorem dX12_pass_339 : decode cX12_pass 339 = .ok (.invokevirtual 243, 3) := by decide +kernel
theorem dX12_pass_342 : decode cX12_pass 342 = .ok (.goto 4, 3) := by decide +kernel
theorem dX12_pass_345 : decode cX12_pass 345 = .ok (.iconst 0, 1) := by decide +kernel
theorem dX12_pass_346 : decode cX12_pass 346 = .ok (.iastore, 1) := by decide +kernel
theorem dX12_pass_347 : decode cX12_pass 347 = .ok (.aload_n 0, 1) := by decide +kernel
theorem dX12_pass_348 : decode cX12_pass 348 = .ok (.getfield 146, 3) := by decide +kernel
theorem dX12_pass_351 : decode cX12_pass 351 = .ok (.bipush 16, 2) := by decide +kernel
theorem dX12_pass_353 : decode cX12_pass 353 = .ok (.iload 8, 2) := by decide +kernel
theorem dX12_pass_355 : decode cX12_pass 355 = .ok (.imul, 1) := by decide +kernel
theorem dX12_pass_356 : decode cX12_pass 356 = .ok (.iload 9, 2) := by decide +kernel
theorem dX12_pass_358 : decode cX12_pass 358 = .ok (.iadd, 1) := by decide +kernel
theorem dX12_pass_359 : decode cX12_pass 359 = .ok (.iconst (-1), 1) := by decide +kernel
theorem dX12_pass_360 : decode cX12_pass 360 = .ok (.iastore, 1) := by decide +kernel
theorem dX12_pass_361 : decode cX12_pass 361 = .ok (.aload_n 0, 1) := by decide +kernel
theorem dX12_pass_362 : decode cX12_pass 362 = .ok (.getfield 149, 3) := by decide +kernel
theorem dX12_pass_365 : decode cX12_pass 365 = .ok (.bipush 16, 2) := by decide +kernel
theorem dX12_pass_367 : decode cX12_pass 367 = .ok (.iload 8, 2) := by decide +kernel
theorem dX12_pass_369 : decode cX12_pass 369 = .ok (.imul, 1) := by decide +kernel
theorem dX12_pass_370 : decode cX12_pass 370 = .ok (.iload 9, 2) := by decide +kernel
theorem dX12_pass_372 : decode cX12_pass 372 = .ok (.iadd, 1) := by decide +kernel
theorem dX12_pass_373 : decode cX12_pass 373 = .ok (.iconst 0, 1) := by decide +kernel
theorem dX12_pass_374 : decode cX12_pass 374 = .ok (.bastore, 1) := by decide +kernel
theorem dX12_pass_375 : decode cX12_pass 375 = .ok (.iinc 9 1, 3) := by decide +kernel
theorem dX12_pass_378 : decode cX12_pass 378 = .ok (.goto (-175), 3) := by decide +kernel
theorem dX12_pass_381 : decode cX12_pass 381 = .ok (.aload_n 0, 1) := by decide +kernel
theorem dX12_pass_382 : decode cX12_pass 382 = .ok (.iload_n 1, 1) := by decide +kernel
theorem dX12_pass_383 : decode cX12_pass 383 = .ok (.iload_n 2, 1) := by decide +kernel
theorem dX12_pass_384 : decode cX12_pass 384 = .ok (.iload_n 3, 1) := by decide +kernel
theorem dX12_pass_385 : decode cX12_pass 385 = .ok (.iload 4, 2) := by decide +kernel
theorem dX12_pass_387 : decode cX12_pass 387 = .ok (.invokevirtual 233, 3) := by decide +kernel
theorem dX12_pass_390 : decode cX12_pass 390 = .ok (.aload_n 0, 1) := by decide +kernel
theorem dX12_pass_391 : decode cX12_pass 391 = .ok (.dup, 1) := by decide +kernel
theorem dX12_pass_392 : decode cX12_pass 392 = .ok (.getfield 460, 3) := by decide +kernel
theorem dX12_pass_395 : decode cX12_pass 395 = .ok (.iconst 1, 1) := by decide +kernel
theorem dX12_pass_396 : decode cX12_pass 396 = .ok (.iadd, 1) := by decide +kernel
theorem dX12_pass_397 : decode cX12_pass 397 = .ok (.putfield 460, 3) := by decide +kernel
theorem dX12_pass_400 : decode cX12_pass 400 = .ok (.iload 8, 2) := by decide +kernel
theorem dX12_pass_402 : decode cX12_pass 402 = .ok (.ireturn, 1) := by decide +kernel
theorem dX12_would_0 : decode cX12_would 0 = .ok (.aload_n 0, 1) := by decide +kernel
theorem dX12_would_1 : decode cX12_would 1 = .ok (.iconst 0, 1) := by decide +kernel
theorem dX12_would_2 : decode cX12_would 2 = .ok (.putfield 218, 3) := by decide +kernel
theorem dX12_would_5 : decode cX12_would 5 = .ok (.aload_n 0, 1) := by decide +kernel
theorem dX12_would_6 : decode cX12_would 6 = .ok (.iload_n 1, 1) := by decide +kernel
theorem dX12_would_7 : decode cX12_would 7 = .ok (.iload_n 2, 1) := by decide +kernel
theorem dX12_would_8 : decode cX12_would 8 = .ok (.iload_n 3, 1) := by decide +kernel
theorem dX12_would_9 : decode cX12_would 9 = .ok (.iload 4, 2) := by decide +kernel
theorem dX12_would_11 : decode cX12_would 11 = .ok (.iload 5, 2) := by decide +kernel
theorem dX12_would_13 : decode cX12_would 13 = .ok (.iload 6, 2) := by decide +kernel
theorem dX12_would_15 : decode cX12_would 15 = .ok (.iload 7, 2) := by decide +kernel
theorem dX12_would_17 : decode cX12_would 17 = .ok (.invokevirtual 456, 3) := by decide +kernel
theorem dX12_would_20 : decode cX12_would 20 = .ok (.ifCond .eq 19, 3) := by decide +kernel
theorem dX12_would_23 : decode cX12_would 23 = .ok (.aload_n 0, 1) := by decide +kernel
theorem dX12_would_24 : decode cX12_would 24 = .ok (.getfield 13, 3) := by decide +kernel
theorem dX12_would_27 : decode cX12_would 27 = .ok (.bipush 16, 2) := by decide +kernel
theorem dX12_would_29 : decode cX12_would 29 = .ok (.iload_n 1, 1) := by decide +kernel
theorem dX12_would_30 : decode cX12_would 30 = .ok (.imul, 1) := by decide +kernel
theorem dX12_would_31 : decode cX12_would 31 = .ok (.iload_n 2, 1) := by decide +kernel
theorem dX12_would_32 : decode cX12_would 32 = .ok (.iadd, 1) := by decide +kernel
theorem dX12_would_33 : decode cX12_would 33 = .ok (.iaload, 1) := by decide +kernel
theorem dX12_would_34 : decode cX12_would 34 = .ok (.iload 4, 2) := by decide +kernel
theorem dX12_would_36 : decode cX12_would 36 = .ok (.if_icmp .ge 5, 3) := by decide +kernel
theorem dX12_would_39 : decode cX12_would 39 = .ok (.iconst (-1), 1) := by decide +kernel
theorem dX12_would_40 : decode cX12_would 40 = .ok (.ireturn, 1) := by decide +kernel
theorem dX12_would_41 : decode cX12_would 41 = .ok (.aload_n 0, 1) := by decide +kernel
theorem dX12_would_42 : decode cX12_would 42 = .ok (.iconst 0, 1) := by decide +kernel
theorem dX12_would_43 : decode cX12_would 43 = .ok (.putfield 434, 3) := by decide +kernel
theorem dX12_would_46 : decode cX12_would 46 = .ok (.aload_n 0, 1) := by decide +kernel
theorem dX12_would_47 : decode cX12_would 47 = .ok (.iload_n 1, 1) := by decide +kernel
theorem dX12_would_48 : decode cX12_would 48 = .ok (.iload_n 2, 1) := by decide +kernel
theorem dX12_would_49 : decode cX12_would 49 = .ok (.iload_n 3, 1) := by decide +kernel
theorem dX12_would_50 : decode cX12_would 50 = .ok (.iload 4, 2) := by decide +kernel
theorem dX12_would_52 : decode cX12_would 52 = .ok (.iload 5, 2) := by decide +kernel
theorem dX12_would_54 : decode cX12_would 54 = .ok (.iload 6, 2) := by decide +kernel
theorem dX12_would_56 : decode cX12_would 56 = .ok (.iload 7, 2) := by decide +kernel
theorem dX12_would_58 : decode cX12_would 58 = .ok (.invokevirtual 463, 3) := by decide +kernel
theorem dX12_would_61 : decode cX12_would 61 = .ok (.aload_n 0, 1) := by decide +kernel
theorem dX12_would_62 : decode cX12_would 62 = .ok (.invokevirtual 467, 3) := by decide +kernel
theorem dX12_would_65 : decode cX12_would 65 = .ok (.ireturn, 1) := by decide +kernel
theorem dX12_isPassed_0 : decode cX12_isPassed 0 = .ok (.iload_n 1, 1) := by decide +kernel
theorem dX12_isPassed_1 : decode cX12_isPassed 1 = .ok (.ifCond .lt 15, 3) := by decide +kernel
theorem dX12_isPassed_4 : decode cX12_isPassed 4 = .ok (.iload_n 1, 1) := by decide +kernel
theorem dX12_isPassed_5 : decode cX12_isPassed 5 = .ok (.aload_n 0, 1) := by decide +kernel
theorem dX12_isPassed_6 : decode cX12_isPassed 6 = .ok (.getfield 460, 3) := by decide +kernel
theorem dX12_isPassed_9 : decode cX12_isPassed 9 = .ok (.if_icmp .ge 7, 3) := by decide +kernel
theorem dX12_isPassed_12 : decode cX12_isPassed 12 = .ok (.iconst 1, 1) := by decide +kernel
theorem dX12_isPassed_13 : decode cX12_isPassed 13 = .ok (.goto 4, 3) := by decide +kernel
theorem dX12_isPassed_16 : decode cX12_isPassed 16 = .ok (.iconst 0, 1) := by decide +kernel
theorem dX12_isPassed_17 : decode cX12_isPassed 17 = .ok (.ireturn, 1) := by decide +kernel
theorem dX12_askedPrice_0 : decode cX12_askedPrice 0 = .ok (.aload_n 0, 1) := by decide +kernel
theorem dX12_askedPrice_1 : decode cX12_askedPrice 1 = .ok (.getfield 131, 3) := by decide +kernel
theorem dX12_askedPrice_4 : decode cX12_askedPrice 4 = .ok (.iload_n 1, 1) := by decide +kernel
theorem dX12_askedPrice_5 : decode cX12_askedPrice 5 = .ok (.baload, 1) := by decide +kernel
theorem dX12_askedPrice_6 : decode cX12_askedPrice 6 = .ok (.ifCond .eq 12, 3) := by decide +kernel
theorem dX12_askedPrice_9 : decode cX12_askedPrice 9 = .ok (.aload_n 0, 1) := by decide +kernel
theorem dX12_askedPrice_10 : decode cX12_askedPrice 10 = .ok (.getfield 116, 3) := by decide +kernel
theorem dX12_askedPrice_13 : decode cX12_askedPrice 13 = .ok (.iload_n 1, 1) := by decide +kernel
theorem dX12_askedPrice_14 : decode cX12_askedPrice 14 = .ok (.iaload, 1) := by decide +kernel
theorem dX12_askedPrice_15 : decode cX12_askedPrice 15 = .ok (.goto 9, 3) := by decide +kernel
theorem dX12_askedPrice_18 : decode cX12_askedPrice 18 = .ok (.aload_n 0, 1) := by decide +kernel
theorem dX12_askedPrice_19 : decode cX12_askedPrice 19 = .ok (.getfield 113, 3) := by decide +kernel
theorem dX12_askedPrice_22 : decode cX12_askedPrice 22 = .ok (.iload_n 1, 1) := by decide +kernel
theorem dX12_askedPrice_23 : decode cX12_askedPrice 23 = .ok (.iaload, 1) := by decide +kernel
theorem dX12_askedPrice_24 : decode cX12_askedPrice 24 = .ok (.ireturn, 1) := by decide +kernel
theorem dX12_look_0 : decode cX12_look 0 = .ok (.aload_n 0, 1) := by decide +kernel
theorem dX12_look_1 : decode cX12_look 1 = .ok (.aload_n 0, 1) := by decide +kernel
theorem dX12_look_2 : decode cX12_look 2 = .ok (.iload_n 1, 1) := by decide +kernel
theorem dX12_look_3 : decode cX12_look 3 = .ok (.invokevirtual 470, 3) := by decide +kernel
theorem dX12_look_6 : decode cX12_look 6 = .ok (.ifCond .eq 17, 3) := by decide +kernel
theorem dX12_look_9 : decode cX12_look 9 = .ok (.iload_n 2, 1) := by decide +kernel
theorem dX12_look_10 : decode cX12_look 10 = .ok (.iconst 0, 1) := by decide +kernel
theorem dX12_look_11 : decode cX12_look 11 = .ok (.bipush 11, 2) := by decide +kernel
theorem dX12_look_13 : decode cX12_look 13 = .ok (.invokestatic 222, 3) := by decide +kernel
theorem dX12_look_16 : decode cX12_look 16 = .ok (.ifCond .eq 7, 3) := by decide +kernel
theorem dX12_look_19 : decode cX12_look 19 = .ok (.iconst 0, 1) := by decide +kernel
theorem dX12_look_20 : decode cX12_look 20 = .ok (.goto 4, 3) := by decide +kernel
theorem dX12_look_23 : decode cX12_look 23 = .ok (.iconst 1, 1) := by decide +kernel
theorem dX12_look_24 : decode cX12_look 24 = .ok (.putfield 218, 3) := by decide +kernel
theorem dX12_look_27 : decode cX12_look 27 = .ok (.aload_n 0, 1) := by decide +kernel
theorem dX12_look_28 : decode cX12_look 28 = .ok (.getfield 218, 3) := by decide +kernel
theorem dX12_look_31 : decode cX12_look 31 = .ok (.iconst 1, 1) := by decide +kernel
theorem dX12_look_32 : decode cX12_look 32 = .ok (.if_icmp .ne 5, 3) := by decide +kernel
theorem dX12_look_35 : decode cX12_look 35 = .ok (.iconst 0, 1) := by decide +kernel
theorem dX12_look_36 : decode cX12_look 36 = .ok (.ireturn, 1) := by decide +kernel
theorem dX12_look_37 : decode cX12_look 37 = .ok (.iload_n 2, 1) := by decide +kernel
theorem dX12_look_38 : decode cX12_look 38 = .ok (.iconst 4, 1) := by decide +kernel
theorem dX12_look_39 : decode cX12_look 39 = .ok (.if_icmp .ge 51, 3) := by decide +kernel
theorem dX12_look_42 : decode cX12_look 42 = .ok (.iload_n 2, 1) := by decide +kernel
theorem dX12_look_43 : decode cX12_look 43 = .ok (.ifCond .ne 12, 3) := by decide +kernel
theorem dX12_look_46 : decode cX12_look 46 = .ok (.aload_n 0, 1) := by decide +kernel
theorem dX12_look_47 : decode cX12_look 47 = .ok (.getfield 98, 3) := by decide +kernel
theorem dX12_look_50 : decode cX12_look 50 = .ok (.iload_n 1, 1) := by decide +kernel
theorem dX12_look_51 : decode cX12_look 51 = .ok (.iaload, 1) := by decide +kernel
theorem dX12_look_52 : decode cX12_look 52 = .ok (.goto 37, 3) := by decide +kernel
theorem dX12_look_55 : decode cX12_look 55 = .ok (.iload_n 2, 1) := by decide +kernel
theorem dX12_look_56 : decode cX12_look 56 = .ok (.iconst 1, 1) := by decide +kernel
theorem dX12_look_57 : decode cX12_look 57 = .ok (.if_icmp .ne 12, 3) := by decide +kernel
theorem dX12_look_60 : decode cX12_look 60 = .ok (.aload_n 0, 1) := by decide +kernel
theorem dX12_look_61 : decode cX12_look 61 = .ok (.getfield 101, 3) := by decide +kernel
theorem dX12_look_64 : decode cX12_look 64 = .ok (.iload_n 1, 1) := by decide +kernel
theorem dX12_look_65 : decode cX12_look 65 = .ok (.iaload, 1) := by decide +kernel
theorem dX12_look_66 : decode cX12_look 66 = .ok (.goto 23, 3) := by decide +kernel
theorem dX12_look_69 : decode cX12_look 69 = .ok (.iload_n 2, 1) := by decide +kernel
theorem dX12_look_70 : decode cX12_look 70 = .ok (.iconst 2, 1) := by decide +kernel
theorem dX12_look_71 : decode cX12_look 71 = .ok (.if_icmp .ne 12, 3) := by decide +kernel
theorem dX12_look_74 : decode cX12_look 74 = .ok (.aload_n 0, 1) := by decide +kernel
theorem dX12_look_75 : decode cX12_look 75 = .ok (.getfield 104, 3) := by decide +kernel
theorem dX12_look_78 : decode cX12_look 78 = .ok (.iload_n 1, 1) := by decide +kernel
theorem dX12_look_79 : decode cX12_look 79 = .ok (.iaload, 1) := by decide +kernel
theorem dX12_look_80 : decode cX12_look 80 = .ok (.goto 9, 3) := by decide +kernel
theorem dX12_look_83 : decode cX12_look 83 = .ok (.aload_n 0, 1) := by decide +kernel
theorem dX12_look_84 : decode cX12_look 84 = .ok (.getfield 107, 3) := by decide +kernel
theorem dX12_look_87 : decode cX12_look 87 = .ok (.iload_n 1, 1) := by decide +kernel
theorem dX12_look_88 : decode cX12_look 88 = .ok (.iaload, 1) := by decide +kernel
theorem dX12_look_89 : decode cX12_look 89 = .ok (.ireturn, 1) := by decide +kernel
theorem dX12_look_90 : decode cX12_look 90 = .ok (.iload_n 2, 1) := by decide +kernel
theorem dX12_look_91 : decode cX12_look 91 = .ok (.bipush 8, 2) := by decide +kernel
theorem dX12_look_93 : decode cX12_look 93 = .ok (.if_icmp .ge 53, 3) := by decide +kernel
theorem dX12_look_96 : decode cX12_look 96 = .ok (.iload_n 2, 1) := by decide +kernel
theorem dX12_look_97 : decode cX12_look 97 = .ok (.iconst 4, 1) := by decide +kernel
theorem dX12_look_98 : decode cX12_look 98 = .ok (.if_icmp .ne 12, 3) := by decide +kernel
theorem dX12_look_101 : decode cX12_look 101 = .ok (.aload_n 0, 1) := by decide +kernel
theorem dX12_look_102 : decode cX12_look 102 = .ok (.getfield 110, 3) := by decide +kernel
theorem dX12_look_105 : decode cX12_look 105 = .ok (.iload_n 1, 1) := by decide +kernel
theorem dX12_look_106 : decode cX12_look 106 = .ok (.iaload, 1) := by decide +kernel
theorem dX12_look_107 : decode cX12_look 107 = .ok (.goto 38, 3) := by decide +kernel
theorem dX12_look_110 : decode cX12_look 110 = .ok (.iload_n 2, 1) := by decide +kernel
theorem dX12_look_111 : decode cX12_look 111 = .ok (.iconst 5, 1) := by decide +kernel
theorem dX12_look_112 : decode cX12_look 112 = .ok (.if_icmp .ne 12, 3) := by decide +kernel
theorem dX12_look_115 : decode cX12_look 115 = .ok (.aload_n 0, 1) := by decide +kernel
theorem dX12_look_116 : decode cX12_look 116 = .ok (.getfield 113, 3) := by decide +kernel
theorem dX12_look_119 : decode cX12_look 119 = .ok (.iload_n 1, 1) := by decide +kernel
theorem dX12_look_120 : decode cX12_look 120 = .ok (.iaload, 1) := by decide +kernel
theorem dX12_look_121 : decode cX12_look 121 = .ok (.goto 24, 3) := by decide +kernel
theorem dX12_look_124 : decode cX12_look 124 = .ok (.iload_n 2, 1) := by decide +kernel
theorem dX12_look_125 : decode cX12_look 125 = .ok (.bipush 6, 2) := by decide +kernel
theorem dX12_look_127 : decode cX12_look 127 = .ok (.if_icmp .ne 12, 3) := by decide +kernel
theorem dX12_look_130 : decode cX12_look 130 = .ok (.aload_n 0, 1) := by decide +kernel
theorem dX12_look_131 : decode cX12_look 131 = .ok (.getfield 116, 3) := by decide +kernel
theorem dX12_look_134 : decode cX12_look 134 = .ok (.iload_n 1, 1) := by decide +kernel
theorem dX12_look_135 : decode cX12_look 135 = .ok (.iaload, 1) := by decide +kernel
theorem dX12_look_136 : decode cX12_look 136 = .ok (.goto 9, 3) := by decide +kernel
theorem dX12_look_139 : decode cX12_look 139 = .ok (.aload_n 0, 1) := by decide +kernel
theorem dX12_look_140 : decode cX12_look 140 = .ok (.getfield 119, 3) := by decide +kernel
theorem dX12_look_143 : decode cX12_look 143 = .ok (.iload_n 1, 1) := by decide +kernel
theorem dX12_look_144 : decode cX12_look 144 = .ok (.iaload, 1) := by decide +kernel
theorem dX12_look_145 : decode cX12_look 145 = .ok (.ireturn, 1) := by decide +kernel
theorem dX12_look_146 : decode cX12_look 146 = .ok (.iload_n 2, 1) := by decide +kernel
theorem dX12_look_147 : decode cX12_look 147 = .ok (.bipush 8, 2) := by decide +kernel
theorem dX12_look_149 : decode cX12_look 149 = .ok (.if_icmp .ne 20, 3) := by decide +kernel
theorem dX12_look_152 : decode cX12_look 152 = .ok (.aload_n 0, 1) := by decide +kernel
theorem dX12_look_153 : decode cX12_look 153 = .ok (.getfield 122, 3) := by decide +kernel
theorem dX12_look_156 : decode cX12_look 156 = .ok (.iload_n 1, 1) := by decide +kernel
theorem dX12_look_157 : decode cX12_look 157 = .ok (.baload, 1) := by decide +kernel
theorem dX12_look_158 : decode cX12_look 158 = .ok (.ifCond .eq 7, 3) := by decide +kernel
theorem dX12_look_161 : decode cX12_look 161 = .ok (.iconst 1, 1) := by decide +kernel
theorem dX12_look_162 : decode cX12_look 162 = .ok (.goto 42, 3) := by decide +kernel
theorem dX12_look_165 : decode cX12_look 165 = .ok (.iconst 0, 1) := by decide +kernel
theorem dX12_look_166 : decode cX12_look 166 = .ok (.goto 38, 3) := by decide +kernel
theorem dX12_look_169 : decode cX12_look 169 = .ok (.iload_n 2, 1) := by decide +kernel
theorem dX12_look_170 : decode cX12_look 170 = .ok (.bipush 9, 2) := by decide +kernel
theorem dX12_look_172 : decode cX12_look 172 = .ok (.if_icmp .ne 12, 3) := by decide +kernel
theorem dX12_look_175 : decode cX12_look 175 = .ok (.aload_n 0, 1) := by decide +kernel
theorem dX12_look_176 : decode cX12_look 176 = .ok (.getfield 125, 3) := by decide +kernel
theorem dX12_look_179 : decode cX12_look 179 = .ok (.iload_n 1, 1) := by decide +kernel
theorem dX12_look_180 : decode cX12_look 180 = .ok (.iaload, 1) := by decide +kernel
theorem dX12_look_181 : decode cX12_look 181 = .ok (.goto 23, 3) := by decide +kernel
theorem dX12_look_184 : decode cX12_look 184 = .ok (.iload_n 2, 1) := by decide +kernel
theorem dX12_look_185 : decode cX12_look 185 = .ok (.bipush 10, 2) := by decide +kernel
theorem dX12_look_187 : decode cX12_look 187 = .ok (.if_icmp .ne 12, 3) := by decide +kernel
theorem dX12_look_190 : decode cX12_look 190 = .ok (.aload_n 0, 1) := by decide +kernel
theorem dX12_look_191 : decode cX12_look 191 = .ok (.getfield 128, 3) := by decide +kernel
theorem dX12_look_194 : decode cX12_look 194 = .ok (.iload_n 1, 1) := by decide +kernel
theorem dX12_look_195 : decode cX12_look 195 = .ok (.iaload, 1) := by decide +kernel
theorem dX12_look_196 : decode cX12_look 196 = .ok (.goto 8, 3) := by decide +kernel
theorem dX12_look_199 : decode cX12_look 199 = .ok (.aload_n 0, 1) := by decide +kernel
theorem dX12_look_200 : decode cX12_look 200 = .ok (.iload_n 1, 1) := by decide +kernel
theorem dX12_look_201 : decode cX12_look 201 = .ok (.invokevirtual 473, 3) := by decide +kernel
theorem dX12_look_204 : decode cX12_look 204 = .ok (.ireturn, 1) := by decide +kernel
theorem dX12_mays_0 : decode cX12_mays 0 = .ok (.aload_n 0, 1) := by decide +kernel
theorem dX12_mays_1 : decode cX12_mays 1 = .ok (.iload_n 1, 1) := by decide +kernel
theorem dX12_mays_2 : decode cX12_mays 2 = .ok (.invokevirtual 470, 3) := by decide +kernel
theorem dX12_mays_5 : decode cX12_mays 5 = .ok (.ifCond .eq 28, 3) := by decide +kernel
theorem dX12_mays_8 : decode cX12_mays 8 = .ok (.iload_n 2, 1) := by decide +kernel
theorem dX12_mays_9 : decode cX12_mays 9 = .ok (.invokestatic 226, 3) := by decide +kernel
theorem dX12_mays_12 : decode cX12_mays 12 = .ok (.ifCond .eq 21, 3) := by decide +kernel
theorem dX12_mays_15 : decode cX12_mays 15 = .ok (.aload_n 0, 1) := by decide +kernel
theorem dX12_mays_16 : decode cX12_mays 16 = .ok (.getfield 137, 3) := by decide +kernel
theorem dX12_mays_19 : decode cX12_mays 19 = .ok (.bipush 16, 2) := by decide +kernel
theorem dX12_mays_21 : decode cX12_mays 21 = .ok (.iload_n 1, 1) := by decide +kernel
theorem dX12_mays_22 : decode cX12_mays 22 = .ok (.imul, 1) := by decide +kernel
theorem dX12_mays_23 : decode cX12_mays 23 = .ok (.iload_n 2, 1) := by decide +kernel
theorem dX12_mays_24 : decode cX12_mays 24 = .ok (.iadd, 1) := by decide +kernel
theorem dX12_mays_25 : decode cX12_mays 25 = .ok (.iaload, 1) := by decide +kernel
theorem dX12_mays_26 : decode cX12_mays 26 = .ok (.ifCond .lt 7, 3) := by decide +kernel
theorem dX12_mays_29 : decode cX12_mays 29 = .ok (.iconst 1, 1) := by decide +kernel
theorem dX12_mays_30 : decode cX12_mays 30 = .ok (.goto 4, 3) := by decide +kernel
theorem dX12_mays_33 : decode cX12_mays 33 = .ok (.iconst 0, 1) := by decide +kernel
theorem dX12_mays_34 : decode cX12_mays 34 = .ok (.ireturn, 1) := by decide +kernel
theorem dX12_may_0 : decode cX12_may 0 = .ok (.aload_n 0, 1) := by decide +kernel
theorem dX12_may_1 : decode cX12_may 1 = .ok (.iconst 0, 1) := by decide +kernel
theorem dX12_may_2 : decode cX12_may 2 = .ok (.putfield 218, 3) := by decide +kernel
theorem dX12_may_5 : decode cX12_may 5 = .ok (.aload_n 0, 1) := by decide +kernel
theorem dX12_may_6 : decode cX12_may 6 = .ok (.iload_n 1, 1) := by decide +kernel
theorem dX12_may_7 : decode cX12_may 7 = .ok (.iload_n 2, 1) := by decide +kernel
theorem dX12_may_8 : decode cX12_may 8 = .ok (.invokevirtual 476, 3) := by decide +kernel
theorem dX12_may_11 : decode cX12_may 11 = .ok (.ifCond .eq 17, 3) := by decide +kernel
theorem dX12_may_14 : decode cX12_may 14 = .ok (.aload_n 0, 1) := by decide +kernel
theorem dX12_may_15 : decode cX12_may 15 = .ok (.getfield 137, 3) := by decide +kernel
theorem dX12_may_18 : decode cX12_may 18 = .ok (.bipush 16, 2) := by decide +kernel
theorem dX12_may_20 : decode cX12_may 20 = .ok (.iload_n 1, 1) := by decide +kernel
theorem dX12_may_21 : decode cX12_may 21 = .ok (.imul, 1) := by decide +kernel
theorem dX12_may_22 : decode cX12_may 22 = .ok (.iload_n 2, 1) := by decide +kernel
theorem dX12_may_23 : decode cX12_may 23 = .ok (.iadd, 1) := by decide +kernel
theorem dX12_may_24 : decode cX12_may 24 = .ok (.iaload, 1) := by decide +kernel
theorem dX12_may_25 : decode cX12_may 25 = .ok (.goto 4, 3) := by decide +kernel
theorem dX12_may_28 : decode cX12_may 28 = .ok (.iconst (-1), 1) := by decide +kernel
theorem dX12_may_29 : decode cX12_may 29 = .ok (.ireturn, 1) := by decide +kernel
theorem dX12_order_0 : decode cX12_order 0 = .ok (.aload_n 0, 1) := by decide +kernel
theorem dX12_order_1 : decode cX12_order 1 = .ok (.iconst 0, 1) := by decide +kernel
theorem dX12_order_2 : decode cX12_order 2 = .ok (.putfield 218, 3) := by decide +kernel
theorem dX12_order_5 : decode cX12_order 5 = .ok (.aload_n 0, 1) := by decide +kernel
theorem dX12_order_6 : decode cX12_order 6 = .ok (.iload_n 1, 1) := by decide +kernel
theorem dX12_order_7 : decode cX12_order 7 = .ok (.invokevirtual 470, 3) := by decide +kernel
theorem dX12_order_10 : decode cX12_order 10 = .ok (.ifCond .eq 7, 3) := by decide +kernel
theorem dX12_order_13 : decode cX12_order 13 = .ok (.iload_n 2, 1) := by decide +kernel
theorem dX12_order_14 : decode cX12_order 14 = .ok (.ifCond .ge 5, 3) := by decide +kernel
theorem dX12_order_17 : decode cX12_order 17 = .ok (.iconst (-1), 1) := by decide +kernel
theorem dX12_order_18 : decode cX12_order 18 = .ok (.ireturn, 1) := by decide +kernel
theorem dX12_order_19 : decode cX12_order 19 = .ok (.iconst 0, 1) := by decide +kernel
theorem dX12_order_20 : decode cX12_order 20 = .ok (.istore_n 3, 1) := by decide +kernel
theorem dX12_order_21 : decode cX12_order 21 = .ok (.iconst 0, 1) := by decide +kernel
theorem dX12_order_22 : decode cX12_order 22 = .ok (.istore 4, 2) := by decide +kernel
theorem dX12_order_24 : decode cX12_order 24 = .ok (.iload 4, 2) := by decide +kernel
theorem dX12_order_26 : decode cX12_order 26 = .ok (.bipush 18, 2) := by decide +kernel
theorem dX12_order_28 : decode cX12_order 28 = .ok (.if_icmp .ge 56, 3) := by decide +kernel
theorem dX12_order_31 : decode cX12_order 31 = .ok (.iconst 0, 1) := by decide +kernel
theorem dX12_order_32 : decode cX12_order 32 = .ok (.istore 5, 2) := by decide +kernel
theorem dX12_order_34 : decode cX12_order 34 = .ok (.iload 5, 2) := by decide +kernel
theorem dX12_order_36 : decode cX12_order 36 = .ok (.bipush 16, 2) := by decide +kernel
theorem dX12_order_38 : decode cX12_order 38 = .ok (.if_icmp .ge 40, 3) := by decide +kernel
theorem dX12_order_41 : decode cX12_order 41 = .ok (.aload_n 0, 1) := by decide +kernel
theorem dX12_order_42 : decode cX12_order 42 = .ok (.getfield 137, 3) := by decide +kernel
theorem dX12_order_45 : decode cX12_order 45 = .ok (.bipush 16, 2) := by decide +kernel
theorem dX12_order_47 : decode cX12_order 47 = .ok (.iload_n 1, 1) := by decide +kernel
theorem dX12_order_48 : decode cX12_order 48 = .ok (.imul, 1) := by decide +kernel
theorem dX12_order_49 : decode cX12_order 49 = .ok (.iload 5, 2) := by decide +kernel
theorem dX12_order_51 : decode cX12_order 51 = .ok (.iadd, 1) := by decide +kernel
theorem dX12_order_52 : decode cX12_order 52 = .ok (.iaload, 1) := by decide +kernel
theorem dX12_order_53 : decode cX12_order 53 = .ok (.iload 4, 2) := by decide +kernel
theorem dX12_order_55 : decode cX12_order 55 = .ok (.if_icmp .eq 6, 3) := by decide +kernel
theorem dX12_order_58 : decode cX12_order 58 = .ok (.goto 14, 3) := by decide +kernel
theorem dX12_order_61 : decode cX12_order 61 = .ok (.iload_n 3, 1) := by decide +kernel
theorem dX12_order_62 : decode cX12_order 62 = .ok (.iload_n 2, 1) := by decide +kernel
theorem dX12_order_63 : decode cX12_order 63 = .ok (.if_icmp .ne 6, 3) := by decide +kernel
theorem dX12_order_66 : decode cX12_order 66 = .ok (.iload 5, 2) := by decide +kernel
theorem dX12_order_68 : decode cX12_order 68 = .ok (.ireturn, 1) := by decide +kernel
theorem dX12_order_69 : decode cX12_order 69 = .ok (.iinc 3 1, 3) := by decide +kernel
theorem dX12_order_72 : decode cX12_order 72 = .ok (.iinc 5 1, 3) := by decide +kernel
theorem dX12_order_75 : decode cX12_order 75 = .ok (.goto (-41), 3) := by decide +kernel
theorem dX12_order_78 : decode cX12_order 78 = .ok (.iinc 4 1, 3) := by decide +kernel
theorem dX12_order_81 : decode cX12_order 81 = .ok (.goto (-57), 3) := by decide +kernel
theorem dX12_order_84 : decode cX12_order 84 = .ok (.iconst (-1), 1) := by decide +kernel
theorem dX12_order_85 : decode cX12_order 85 = .ok (.ireturn, 1) := by decide +kernel
theorem dX12_hears_0 : decode cX12_hears 0 = .ok (.aload_n 0, 1) := by decide +kernel
theorem dX12_hears_1 : decode cX12_hears 1 = .ok (.iconst 0, 1) := by decide +kernel
theorem dX12_hears_2 : decode cX12_hears 2 = .ok (.putfield 218, 3) := by decide +kernel
theorem dX12_hears_5 : decode cX12_hears 5 = .ok (.aload_n 0, 1) := by decide +kernel
theorem dX12_hears_6 : decode cX12_hears 6 = .ok (.iload_n 1, 1) := by decide +kernel
theorem dX12_hears_7 : decode cX12_hears 7 = .ok (.invokevirtual 470, 3) := by decide +kernel
theorem dX12_hears_10 : decode cX12_hears 10 = .ok (.ifCond .eq 42, 3) := by decide +kernel
theorem dX12_hears_13 : decode cX12_hears 13 = .ok (.iload_n 2, 1) := by decide +kernel
theorem dX12_hears_14 : decode cX12_hears 14 = .ok (.invokestatic 226, 3) := by decide +kernel
theorem dX12_hears_17 : decode cX12_hears 17 = .ok (.ifCond .eq 35, 3) := by decide +kernel
theorem dX12_hears_20 : decode cX12_hears 20 = .ok (.iload_n 3, 1) := by decide +kernel
theorem dX12_hears_21 : decode cX12_hears 21 = .ok (.aload_n 0, 1) := by decide +kernel
theorem dX12_hears_22 : decode cX12_hears 22 = .ok (.getfield 119, 3) := by decide +kernel
theorem dX12_hears_25 : decode cX12_hears 25 = .ok (.iload_n 1, 1) := by decide +kernel
theorem dX12_hears_26 : decode cX12_hears 26 = .ok (.iaload, 1) := by decide +kernel
theorem dX12_hears_27 : decode cX12_hears 27 = .ok (.if_icmp .lt 25, 3) := by decide +kernel
theorem dX12_hears_30 : decode cX12_hears 30 = .ok (.iload_n 3, 1) := by decide +kernel
theorem dX12_hears_31 : decode cX12_hears 31 = .ok (.aload_n 0, 1) := by decide +kernel
theorem dX12_hears_32 : decode cX12_hears 32 = .ok (.getfield 237, 3) := by decide +kernel
theorem dX12_hears_35 : decode cX12_hears 35 = .ok (.if_icmp .gt 17, 3) := by decide +kernel
theorem dX12_hears_38 : decode cX12_hears 38 = .ok (.aload_n 0, 1) := by decide +kernel
theorem dX12_hears_39 : decode cX12_hears 39 = .ok (.getfield 146, 3) := by decide +kernel
theorem dX12_hears_42 : decode cX12_hears 42 = .ok (.bipush 16, 2) := by decide +kernel
theorem dX12_hears_44 : decode cX12_hears 44 = .ok (.iload_n 1, 1) := by decide +kernel
theorem dX12_hears_45 : decode cX12_hears 45 = .ok (.imul, 1) := by decide +kernel
theorem dX12_hears_46 : decode cX12_hears 46 = .ok (.iload_n 2, 1) := by decide +kernel
theorem dX12_hears_47 : decode cX12_hears 47 = .ok (.iadd, 1) := by decide +kernel
theorem dX12_hears_48 : decode cX12_hears 48 = .ok (.iaload, 1) := by decide +kernel
theorem dX12_hears_49 : decode cX12_hears 49 = .ok (.ifCond .lt 5, 3) := by decide +kernel
theorem dX12_hears_52 : decode cX12_hears 52 = .ok (.iconst 0, 1) := by decide +kernel
theorem dX12_hears_53 : decode cX12_hears 53 = .ok (.ireturn, 1) := by decide +kernel
theorem dX12_hears_54 : decode cX12_hears 54 = .ok (.aload_n 0, 1) := by decide +kernel
theorem dX12_hears_55 : decode cX12_hears 55 = .ok (.getfield 146, 3) := by decide +kernel
theorem dX12_hears_58 : decode cX12_hears 58 = .ok (.bipush 16, 2) := by decide +kernel
theorem dX12_hears_60 : decode cX12_hears 60 = .ok (.iload_n 1, 1) := by decide +kernel
theorem dX12_hears_61 : decode cX12_hears 61 = .ok (.imul, 1) := by decide +kernel
theorem dX12_hears_62 : decode cX12_hears 62 = .ok (.iload_n 2, 1) := by decide +kernel
theorem dX12_hears_63 : decode cX12_hears 63 = .ok (.iadd, 1) := by decide +kernel
theorem dX12_hears_64 : decode cX12_hears 64 = .ok (.iload_n 3, 1) := by decide +kernel
theorem dX12_hears_65 : decode cX12_hears 65 = .ok (.iastore, 1) := by decide +kernel
theorem dX12_hears_66 : decode cX12_hears 66 = .ok (.iconst 1, 1) := by decide +kernel
theorem dX12_hears_67 : decode cX12_hears 67 = .ok (.ireturn, 1) := by decide +kernel
theorem dX12_till_0 : decode cX12_till 0 = .ok (.aload_n 0, 1) := by decide +kernel
theorem dX12_till_1 : decode cX12_till 1 = .ok (.iconst 0, 1) := by decide +kernel
theorem dX12_till_2 : decode cX12_till 2 = .ok (.putfield 218, 3) := by decide +kernel
theorem dX12_till_5 : decode cX12_till 5 = .ok (.aload_n 0, 1) := by decide +kernel
theorem dX12_till_6 : decode cX12_till 6 = .ok (.iload_n 1, 1) := by decide +kernel
theorem dX12_till_7 : decode cX12_till 7 = .ok (.iload_n 2, 1) := by decide +kernel
theorem dX12_till_8 : decode cX12_till 8 = .ok (.invokevirtual 476, 3) := by decide +kernel
theorem dX12_till_11 : decode cX12_till 11 = .ok (.ifCond .eq 17, 3) := by decide +kernel
theorem dX12_till_14 : decode cX12_till 14 = .ok (.aload_n 0, 1) := by decide +kernel
theorem dX12_till_15 : decode cX12_till 15 = .ok (.getfield 146, 3) := by decide +kernel
theorem dX12_till_18 : decode cX12_till 18 = .ok (.bipush 16, 2) := by decide +kernel
theorem dX12_till_20 : decode cX12_till 20 = .ok (.iload_n 1, 1) := by decide +kernel
theorem dX12_till_21 : decode cX12_till 21 = .ok (.imul, 1) := by decide +kernel
theorem dX12_till_22 : decode cX12_till 22 = .ok (.iload_n 2, 1) := by decide +kernel
theorem dX12_till_23 : decode cX12_till 23 = .ok (.iadd, 1) := by decide +kernel
theorem dX12_till_24 : decode cX12_till 24 = .ok (.iaload, 1) := by decide +kernel
theorem dX12_till_25 : decode cX12_till 25 = .ok (.ifCond .ge 5, 3) := by decide +kernel
theorem dX12_till_28 : decode cX12_till 28 = .ok (.iconst (-1), 1) := by decide +kernel
theorem dX12_till_29 : decode cX12_till 29 = .ok (.ireturn, 1) := by decide +kernel
theorem dX12_till_30 : decode cX12_till 30 = .ok (.aload_n 0, 1) := by decide +kernel
theorem dX12_till_31 : decode cX12_till 31 = .ok (.getfield 146, 3) := by decide +kernel
theorem dX12_till_34 : decode cX12_till 34 = .ok (.bipush 16, 2) := by decide +kernel
theorem dX12_till_36 : decode cX12_till 36 = .ok (.iload_n 1, 1) := by decide +kernel
theorem dX12_till_37 : decode cX12_till 37 = .ok (.imul, 1) := by decide +kernel
theorem dX12_till_38 : decode cX12_till 38 = .ok (.iload_n 2, 1) := by decide +kernel
theorem dX12_till_39 : decode cX12_till 39 = .ok (.iadd, 1) := by decide +kernel
theorem dX12_till_40 : decode cX12_till 40 = .ok (.iaload, 1) := by decide +kernel
theorem dX12_till_41 : decode cX12_till 41 = .ok (.aload_n 0, 1) := by decide +kernel
theorem dX12_till_42 : decode cX12_till 42 = .ok (.getfield 140, 3) := by decide +kernel
theorem dX12_till_45 : decode cX12_till 45 = .ok (.bipush 16, 2) := by decide +kernel
theorem dX12_till_47 : decode cX12_till 47 = .ok (.iload_n 1, 1) := by decide +kernel
theorem dX12_till_48 : decode cX12_till 48 = .ok (.imul, 1) := by decide +kernel
theorem dX12_till_49 : decode cX12_till 49 = .ok (.iload_n 2, 1) := by decide +kernel
theorem dX12_till_50 : decode cX12_till 50 = .ok (.iadd, 1) := by decide +kernel
theorem dX12_till_51 : decode cX12_till 51 = .ok (.iaload, 1) := by decide +kernel
theorem dX12_till_52 : decode cX12_till 52 = .ok (.iadd, 1) := by decide +kernel
theorem dX12_till_53 : decode cX12_till 53 = .ok (.ireturn, 1) := by decide +kernel
theorem dX12_waive_0 : decode cX12_waive 0 = .ok (.aload_n 0, 1) := by decide +kernel
theorem dX12_waive_1 : decode cX12_waive 1 = .ok (.iconst 0, 1) := by decide +kernel
theorem dX12_waive_2 : decode cX12_waive 2 = .ok (.putfield 218, 3) := by decide +kernel
theorem dX12_waive_5 : decode cX12_waive 5 = .ok (.aload_n 0, 1) := by decide +kernel
theorem dX12_waive_6 : decode cX12_waive 6 = .ok (.iload_n 1, 1) := by decide +kernel
theorem dX12_waive_7 : decode cX12_waive 7 = .ok (.iload_n 2, 1) := by decide +kernel
theorem dX12_waive_8 : decode cX12_waive 8 = .ok (.invokevirtual 476, 3) := by decide +kernel
theorem dX12_waive_11 : decode cX12_waive 11 = .ok (.ifCond .eq 17, 3) := by decide +kernel
theorem dX12_waive_14 : decode cX12_waive 14 = .ok (.aload_n 0, 1) := by decide +kernel
theorem dX12_waive_15 : decode cX12_waive 15 = .ok (.getfield 149, 3) := by decide +kernel
theorem dX12_waive_18 : decode cX12_waive 18 = .ok (.bipush 16, 2) := by decide +kernel
theorem dX12_waive_20 : decode cX12_waive 20 = .ok (.iload_n 1, 1) := by decide +kernel
theorem dX12_waive_21 : decode cX12_waive 21 = .ok (.imul, 1) := by decide +kernel
theorem dX12_waive_22 : decode cX12_waive 22 = .ok (.iload_n 2, 1) := by decide +kernel
theorem dX12_waive_23 : decode cX12_waive 23 = .ok (.iadd, 1) := by decide +kernel
theorem dX12_waive_24 : decode cX12_waive 24 = .ok (.baload, 1) := by decide +kernel
theorem dX12_waive_25 : decode cX12_waive 25 = .ok (.ifCond .eq 5, 3) := by decide +kernel
theorem dX12_waive_28 : decode cX12_waive 28 = .ok (.iconst 0, 1) := by decide +kernel
theorem dX12_waive_29 : decode cX12_waive 29 = .ok (.ireturn, 1) := by decide +kernel
theorem dX12_waive_30 : decode cX12_waive 30 = .ok (.aload_n 0, 1) := by decide +kernel
theorem dX12_waive_31 : decode cX12_waive 31 = .ok (.getfield 149, 3) := by decide +kernel
theorem dX12_waive_34 : decode cX12_waive 34 = .ok (.bipush 16, 2) := by decide +kernel
theorem dX12_waive_36 : decode cX12_waive 36 = .ok (.iload_n 1, 1) := by decide +kernel
theorem dX12_waive_37 : decode cX12_waive 37 = .ok (.imul, 1) := by decide +kernel
theorem dX12_waive_38 : decode cX12_waive 38 = .ok (.iload_n 2, 1) := by decide +kernel
theorem dX12_waive_39 : decode cX12_waive 39 = .ok (.iadd, 1) := by decide +kernel
theorem dX12_waive_40 : decode cX12_waive 40 = .ok (.iconst 1, 1) := by decide +kernel
theorem dX12_waive_41 : decode cX12_waive 41 = .ok (.bastore, 1) := by decide +kernel
theorem dX12_waive_42 : decode cX12_waive 42 = .ok (.iconst 1, 1) := by decide +kernel
theorem dX12_waive_43 : decode cX12_waive 43 = .ok (.ireturn, 1) := by decide +kernel
theorem dX12_truly_0 : decode cX12_truly 0 = .ok (.aload_n 0, 1) := by decide +kernel
theorem dX12_truly_1 : decode cX12_truly 1 = .ok (.iconst 0, 1) := by decide +kernel
theorem dX12_truly_2 : decode cX12_truly 2 = .ok (.putfield 218, 3) := by decide +kernel
theorem dX12_truly_5 : decode cX12_truly 5 = .ok (.aload_n 0, 1) := by decide +kernel
theorem dX12_truly_6 : decode cX12_truly 6 = .ok (.iload_n 1, 1) := by decide +kernel
theorem dX12_truly_7 : decode cX12_truly 7 = .ok (.invokevirtual 470, 3) := by decide +kernel
theorem dX12_truly_10 : decode cX12_truly 10 = .ok (.ifCond .eq 33, 3) := by decide +kernel
theorem dX12_truly_13 : decode cX12_truly 13 = .ok (.iload_n 2, 1) := by decide +kernel
theorem dX12_truly_14 : decode cX12_truly 14 = .ok (.iconst 0, 1) := by decide +kernel
theorem dX12_truly_15 : decode cX12_truly 15 = .ok (.sipush 9999, 3) := by decide +kernel
theorem dX12_truly_18 : decode cX12_truly 18 = .ok (.invokestatic 222, 3) := by decide +kernel
theorem dX12_truly_21 : decode cX12_truly 21 = .ok (.ifCond .eq 22, 3) := by decide +kernel
theorem dX12_truly_24 : decode cX12_truly 24 = .ok (.aload_n 0, 1) := by decide +kernel
theorem dX12_truly_25 : decode cX12_truly 25 = .ok (.getfield 110, 3) := by decide +kernel
theorem dX12_truly_28 : decode cX12_truly 28 = .ok (.iload_n 1, 1) := by decide +kernel
theorem dX12_truly_29 : decode cX12_truly 29 = .ok (.iaload, 1) := by decide +kernel
theorem dX12_truly_30 : decode cX12_truly 30 = .ok (.iconst 1, 1) := by decide +kernel
theorem dX12_truly_31 : decode cX12_truly 31 = .ok (.if_icmp .eq 12, 3) := by decide +kernel
theorem dX12_truly_34 : decode cX12_truly 34 = .ok (.aload_n 0, 1) := by decide +kernel
theorem dX12_truly_35 : decode cX12_truly 35 = .ok (.getfield 128, 3) := by decide +kernel
theorem dX12_truly_38 : decode cX12_truly 38 = .ok (.iload_n 1, 1) := by decide +kernel
theorem dX12_truly_39 : decode cX12_truly 39 = .ok (.iaload, 1) := by decide +kernel
theorem dX12_truly_40 : decode cX12_truly 40 = .ok (.ifCond .lt 5, 3) := by decide +kernel
theorem dX12_truly_43 : decode cX12_truly 43 = .ok (.iconst 0, 1) := by decide +kernel
theorem dX12_truly_44 : decode cX12_truly 44 = .ok (.ireturn, 1) := by decide +kernel
theorem dX12_truly_45 : decode cX12_truly 45 = .ok (.aload_n 0, 1) := by decide +kernel
theorem dX12_truly_46 : decode cX12_truly 46 = .ok (.getfield 116, 3) := by decide +kernel
theorem dX12_truly_49 : decode cX12_truly 49 = .ok (.iload_n 1, 1) := by decide +kernel
theorem dX12_truly_50 : decode cX12_truly 50 = .ok (.iload_n 2, 1) := by decide +kernel
theorem dX12_truly_51 : decode cX12_truly 51 = .ok (.iastore, 1) := by decide +kernel
theorem dX12_truly_52 : decode cX12_truly 52 = .ok (.iconst 1, 1) := by decide +kernel
theorem dX12_truly_53 : decode cX12_truly 53 = .ok (.ireturn, 1) := by decide +kernel
theorem dX12_isLate_0 : decode cX12_isLate 0 = .ok (.aload_n 0, 1) := by decide +kernel
theorem dX12_isLate_1 : decode cX12_isLate 1 = .ok (.getfield 146, 3) := by decide +kernel
theorem dX12_isLate_4 : decode cX12_isLate 4 = .ok (.iload_n 1, 1) := by decide +kernel
theorem dX12_isLate_5 : decode cX12_isLate 5 = .ok (.iaload, 1) := by decide +kernel
theorem dX12_isLate_6 : decode cX12_isLate 6 = .ok (.ifCond .lt 27, 3) := by decide +kernel
theorem dX12_isLate_9 : decode cX12_isLate 9 = .ok (.aload_n 0, 1) := by decide +kernel
theorem dX12_isLate_10 : decode cX12_isLate 10 = .ok (.getfield 237, 3) := by decide +kernel
theorem dX12_isLate_13 : decode cX12_isLate 13 = .ok (.aload_n 0, 1) := by decide +kernel
theorem dX12_isLate_14 : decode cX12_isLate 14 = .ok (.getfield 146, 3) := by decide +kernel
theorem dX12_isLate_17 : decode cX12_isLate 17 = .ok (.iload_n 1, 1) := by decide +kernel
theorem dX12_isLate_18 : decode cX12_isLate 18 = .ok (.iaload, 1) := by decide +kernel
theorem dX12_isLate_19 : decode cX12_isLate 19 = .ok (.aload_n 0, 1) := by decide +kernel
theorem dX12_isLate_20 : decode cX12_isLate 20 = .ok (.getfield 140, 3) := by decide +kernel
theorem dX12_isLate_23 : decode cX12_isLate 23 = .ok (.iload_n 1, 1) := by decide +kernel
theorem dX12_isLate_24 : decode cX12_isLate 24 = .ok (.iaload, 1) := by decide +kernel
theorem dX12_isLate_25 : decode cX12_isLate 25 = .ok (.iadd, 1) := by decide +kernel
theorem dX12_isLate_26 : decode cX12_isLate 26 = .ok (.if_icmp .le 7, 3) := by decide +kernel
theorem dX12_isLate_29 : decode cX12_isLate 29 = .ok (.iconst 1, 1) := by decide +kernel
theorem dX12_isLate_30 : decode cX12_isLate 30 = .ok (.goto 4, 3) := by decide +kernel
theorem dX12_isLate_33 : decode cX12_isLate 33 = .ok (.iconst 0, 1) := by decide +kernel
theorem dX12_isLate_34 : decode cX12_isLate 34 = .ok (.ireturn, 1) := by decide +kernel
theorem dX12_claim_0 : decode cX12_claim 0 = .ok (.aload_n 0, 1) := by decide +kernel
theorem dX12_claim_1 : decode cX12_claim 1 = .ok (.iconst 0, 1) := by decide +kernel
theorem dX12_claim_2 : decode cX12_claim 2 = .ok (.putfield 218, 3) := by decide +kernel
theorem dX12_claim_5 : decode cX12_claim 5 = .ok (.aload_n 0, 1) := by decide +kernel
theorem dX12_claim_6 : decode cX12_claim 6 = .ok (.iload_n 1, 1) := by decide +kernel
theorem dX12_claim_7 : decode cX12_claim 7 = .ok (.invokevirtual 470, 3) := by decide +kernel
theorem dX12_claim_10 : decode cX12_claim 10 = .ok (.ifCond .eq 14, 3) := by decide +kernel
theorem dX12_claim_13 : decode cX12_claim 13 = .ok (.iload_n 2, 1) := by decide +kernel
theorem dX12_claim_14 : decode cX12_claim 14 = .ok (.invokestatic 226, 3) := by decide +kernel
theorem dX12_claim_17 : decode cX12_claim 17 = .ok (.ifCond .eq 7, 3) := by decide +kernel
theorem dX12_claim_20 : decode cX12_claim 20 = .ok (.iload_n 3, 1) := by decide +kernel
theorem dX12_claim_21 : decode cX12_claim 21 = .ok (.ifCond .ge 5, 3) := by decide +kernel
theorem dX12_claim_24 : decode cX12_claim 24 = .ok (.iconst (-1), 1) := by decide +kernel
theorem dX12_claim_25 : decode cX12_claim 25 = .ok (.ireturn, 1) := by decide +kernel
theorem dX12_claim_26 : decode cX12_claim 26 = .ok (.bipush 16, 2) := by decide +kernel
theorem dX12_claim_28 : decode cX12_claim 28 = .ok (.iload_n 1, 1) := by decide +kernel
theorem dX12_claim_29 : decode cX12_claim 29 = .ok (.imul, 1) := by decide +kernel
theorem dX12_claim_30 : decode cX12_claim 30 = .ok (.iload_n 2, 1) := by decide +kernel
theorem dX12_claim_31 : decode cX12_claim 31 = .ok (.iadd, 1) := by decide +kernel
theorem dX12_claim_32 : decode cX12_claim 32 = .ok (.istore 4, 2) := by decide +kernel
theorem dX12_claim_34 : decode cX12_claim 34 = .ok (.aload_n 0, 1) := by decide +kernel
theorem dX12_claim_35 : decode cX12_claim 35 = .ok (.getfield 128, 3) := by decide +kernel
theorem dX12_claim_38 : decode cX12_claim 38 = .ok (.iload_n 1, 1) := by decide +kernel
theorem dX12_claim_39 : decode cX12_claim 39 = .ok (.iaload, 1) := by decide +kernel
theorem dX12_claim_40 : decode cX12_claim 40 = .ok (.ifCond .lt 6, 3) := by decide +kernel
theorem dX12_claim_43 : decode cX12_claim 43 = .ok (.bipush 6, 2) := by decide +kernel
theorem dX12_claim_45 : decode cX12_claim 45 = .ok (.ireturn, 1) := by decide +kernel
theorem dX12_claim_46 : decode cX12_claim 46 = .ok (.aload_n 0, 1) := by decide +kernel
theorem dX12_claim_47 : decode cX12_claim 47 = .ok (.getfield 137, 3) := by decide +kernel
theorem dX12_claim_50 : decode cX12_claim 50 = .ok (.iload 4, 2) := by decide +kernel
theorem dX12_claim_52 : decode cX12_claim 52 = .ok (.iaload, 1) := by decide +kernel
theorem dX12_claim_53 : decode cX12_claim 53 = .ok (.ifCond .lt 13, 3) := by decide +kernel
theorem dX12_claim_56 : decode cX12_claim 56 = .ok (.aload_n 0, 1) := by decide +kernel
theorem dX12_claim_57 : decode cX12_claim 57 = .ok (.getfield 149, 3) := by decide +kernel
theorem dX12_claim_60 : decode cX12_claim 60 = .ok (.iload 4, 2) := by decide +kernel
theorem dX12_claim_62 : decode cX12_claim 62 = .ok (.baload, 1) := by decide +kernel
theorem dX12_claim_63 : decode cX12_claim 63 = .ok (.ifCond .eq 5, 3) := by decide +kernel
theorem dX12_claim_66 : decode cX12_claim 66 = .ok (.iconst 1, 1) := by decide +kernel
theorem dX12_claim_67 : decode cX12_claim 67 = .ok (.ireturn, 1) := by decide +kernel
theorem dX12_claim_68 : decode cX12_claim 68 = .ok (.aload_n 0, 1) := by decide +kernel
theorem dX12_claim_69 : decode cX12_claim 69 = .ok (.iload 4, 2) := by decide +kernel
theorem dX12_claim_71 : decode cX12_claim 71 = .ok (.invokevirtual 479, 3) := by decide +kernel
theorem dX12_claim_74 : decode cX12_claim 74 = .ok (.ifCond .eq 5, 3) := by decide +kernel
theorem dX12_claim_77 : decode cX12_claim 77 = .ok (.iconst 2, 1) := by decide +kernel
theorem dX12_claim_78 : decode cX12_claim 78 = .ok (.ireturn, 1) := by decide +kernel
theorem dX12_claim_79 : decode cX12_claim 79 = .ok (.bipush 16, 2) := by decide +kernel
theorem dX12_claim_81 : decode cX12_claim 81 = .ok (.iload_n 1, 1) := by decide +kernel
theorem dX12_claim_82 : decode cX12_claim 82 = .ok (.imul, 1) := by decide +kernel
theorem dX12_claim_83 : decode cX12_claim 83 = .ok (.istore 5, 2) := by decide +kernel
theorem dX12_claim_85 : decode cX12_claim 85 = .ok (.iload 5, 2) := by decide +kernel
theorem dX12_claim_87 : decode cX12_claim 87 = .ok (.bipush 16, 2) := by decide +kernel
theorem dX12_claim_89 : decode cX12_claim 89 = .ok (.iload_n 1, 1) := by decide +kernel
theorem dX12_claim_90 : decode cX12_claim 90 = .ok (.imul, 1) := by decide +kernel
theorem dX12_claim_91 : decode cX12_claim 91 = .ok (.bipush 16, 2) := by decide +kernel
theorem dX12_claim_93 : decode cX12_claim 93 = .ok (.iadd, 1) := by decide +kernel
theorem dX12_claim_94 : decode cX12_claim 94 = .ok (.if_icmp .ge 57, 3) := by decide +kernel
theorem dX12_claim_97 : decode cX12_claim 97 = .ok (.aload_n 0, 1) := by decide +kernel
theorem dX12_claim_98 : decode cX12_claim 98 = .ok (.getfield 137, 3) := by decide +kernel
theorem dX12_claim_101 : decode cX12_claim 101 = .ok (.iload 5, 2) := by decide +kernel
theorem dX12_claim_103 : decode cX12_claim 103 = .ok (.iaload, 1) := by decide +kernel
theorem dX12_claim_104 : decode cX12_claim 104 = .ok (.ifCond .lt 41, 3) := by decide +kernel
theorem dX12_claim_107 : decode cX12_claim 107 = .ok (.aload_n 0, 1) := by decide +kernel
theorem dX12_claim_108 : decode cX12_claim 108 = .ok (.getfield 137, 3) := by decide +kernel
theorem dX12_claim_111 : decode cX12_claim 111 = .ok (.iload 5, 2) := by decide +kernel
theorem dX12_claim_113 : decode cX12_claim 113 = .ok (.iaload, 1) := by decide +kernel
theorem dX12_claim_114 : decode cX12_claim 114 = .ok (.aload_n 0, 1) := by decide +kernel
theorem dX12_claim_115 : decode cX12_claim 115 = .ok (.getfield 137, 3) := by decide +kernel
theorem dX12_claim_118 : decode cX12_claim 118 = .ok (.iload 4, 2) := by decide +kernel
theorem dX12_claim_120 : decode cX12_claim 120 = .ok (.iaload, 1) := by decide +kernel
theorem dX12_claim_121 : decode cX12_claim 121 = .ok (.if_icmp .ge 24, 3) := by decide +kernel
theorem dX12_claim_124 : decode cX12_claim 124 = .ok (.aload_n 0, 1) := by decide +kernel
theorem dX12_claim_125 : decode cX12_claim 125 = .ok (.getfield 149, 3) := by decide +kernel
theorem dX12_claim_128 : decode cX12_claim 128 = .ok (.iload 5, 2) := by decide +kernel
theorem dX12_claim_130 : decode cX12_claim 130 = .ok (.baload, 1) := by decide +kernel
theorem dX12_claim_131 : decode cX12_claim 131 = .ok (.ifCond .ne 14, 3) := by decide +kernel
theorem dX12_claim_134 : decode cX12_claim 134 = .ok (.aload_n 0, 1) := by decide +kernel
theorem dX12_claim_135 : decode cX12_claim 135 = .ok (.iload 5, 2) := by decide +kernel
theorem dX12_claim_137 : decode cX12_claim 137 = .ok (.invokevirtual 479, 3) := by decide +kernel
theorem dX12_claim_140 : decode cX12_claim 140 = .ok (.ifCond .ne 5, 3) := by decide +kernel
theorem dX12_claim_143 : decode cX12_claim 143 = .ok (.iconst 3, 1) := by decide +kernel
theorem dX12_claim_144 : decode cX12_claim 144 = .ok (.ireturn, 1) := by decide +kernel
theorem dX12_claim_145 : decode cX12_claim 145 = .ok (.iinc 5 1, 3) := by decide +kernel
theorem dX12_claim_148 : decode cX12_claim 148 = .ok (.goto (-63), 3) := by decide +kernel
theorem dX12_claim_151 : decode cX12_claim 151 = .ok (.iload_n 3, 1) := by decide +kernel
theorem dX12_claim_152 : decode cX12_claim 152 = .ok (.aload_n 0, 1) := by decide +kernel
theorem dX12_claim_153 : decode cX12_claim 153 = .ok (.iload_n 1, 1) := by decide +kernel
theorem dX12_claim_154 : decode cX12_claim 154 = .ok (.invokevirtual 473, 3) := by decide +kernel
theorem dX12_claim_157 : decode cX12_claim 157 = .ok (.if_icmp .ge 5, 3) := by decide +kernel
theorem dX12_claim_160 : decode cX12_claim 160 = .ok (.iconst 4, 1) := by decide +kernel
theorem dX12_claim_161 : decode cX12_claim 161 = .ok (.ireturn, 1) := by decide +kernel
theorem dX12_claim_162 : decode cX12_claim 162 = .ok (.aload_n 0, 1) := by decide +kernel
theorem dX12_claim_163 : decode cX12_claim 163 = .ok (.getfield 13, 3) := by decide +kernel
theorem dX12_claim_166 : decode cX12_claim 166 = .ok (.bipush 16, 2) := by decide +kernel
theorem dX12_claim_168 : decode cX12_claim 168 = .ok (.aload_n 0, 1) := by decide +kernel
theorem dX12_claim_169 : decode cX12_claim 169 = .ok (.getfield 98, 3) := by decide +kernel
theorem dX12_claim_172 : decode cX12_claim 172 = .ok (.iload_n 1, 1) := by decide +kernel
theorem dX12_claim_173 : decode cX12_claim 173 = .ok (.iaload, 1) := by decide +kernel
theorem dX12_claim_174 : decode cX12_claim 174 = .ok (.imul, 1) := by decide +kernel
theorem dX12_claim_175 : decode cX12_claim 175 = .ok (.aload_n 0, 1) := by decide +kernel
theorem dX12_claim_176 : decode cX12_claim 176 = .ok (.getfield 104, 3) := by decide +kernel
theorem dX12_claim_179 : decode cX12_claim 179 = .ok (.iload_n 1, 1) := by decide +kernel
theorem dX12_claim_180 : decode cX12_claim 180 = .ok (.iaload, 1) := by decide +kernel
theorem dX12_claim_181 : decode cX12_claim 181 = .ok (.iadd, 1) := by decide +kernel
theorem dX12_claim_182 : decode cX12_claim 182 = .ok (.iaload, 1) := by decide +kernel
theorem dX12_claim_183 : decode cX12_claim 183 = .ok (.aload_n 0, 1) := by decide +kernel
theorem dX12_claim_184 : decode cX12_claim 184 = .ok (.getfield 107, 3) := by decide +kernel
theorem dX12_claim_187 : decode cX12_claim 187 = .ok (.iload_n 1, 1) := by decide +kernel
theorem dX12_claim_188 : decode cX12_claim 188 = .ok (.iaload, 1) := by decide +kernel
theorem dX12_claim_189 : decode cX12_claim 189 = .ok (.if_icmp .ge 5, 3) := by decide +kernel
theorem dX12_claim_192 : decode cX12_claim 192 = .ok (.iconst 5, 1) := by decide +kernel
theorem dX12_claim_193 : decode cX12_claim 193 = .ok (.ireturn, 1) := by decide +kernel
theorem dX12_claim_194 : decode cX12_claim 194 = .ok (.aload_n 0, 1) := by decide +kernel
theorem dX12_claim_195 : decode cX12_claim 195 = .ok (.aload_n 0, 1) := by decide +kernel
theorem dX12_claim_196 : decode cX12_claim 196 = .ok (.getfield 98, 3) := by decide +kernel
theorem dX12_claim_199 : decode cX12_claim 199 = .ok (.iload_n 1, 1) := by decide +kernel
theorem dX12_claim_200 : decode cX12_claim 200 = .ok (.iaload, 1) := by decide +kernel
theorem dX12_claim_201 : decode cX12_claim 201 = .ok (.aload_n 0, 1) := by decide +kernel
theorem dX12_claim_202 : decode cX12_claim 202 = .ok (.getfield 104, 3) := by decide +kernel
theorem dX12_claim_205 : decode cX12_claim 205 = .ok (.iload_n 1, 1) := by decide +kernel
theorem dX12_claim_206 : decode cX12_claim 206 = .ok (.iaload, 1) := by decide +kernel
theorem dX12_claim_207 : decode cX12_claim 207 = .ok (.iload_n 2, 1) := by decide +kernel
theorem dX12_claim_208 : decode cX12_claim 208 = .ok (.aload_n 0, 1) := by decide +kernel
theorem dX12_claim_209 : decode cX12_claim 209 = .ok (.getfield 107, 3) := by decide +kernel
theorem dX12_claim_212 : decode cX12_claim 212 = .ok (.iload_n 1, 1) := by decide +kernel
theorem dX12_claim_213 : decode cX12_claim 213 = .ok (.iaload, 1) := by decide +kernel
theorem dX12_claim_214 : decode cX12_claim 214 = .ok (.invokevirtual 233, 3) := by decide +kernel
theorem dX12_claim_217 : decode cX12_claim 217 = .ok (.aload_n 0, 1) := by decide +kernel
theorem dX12_claim_218 : decode cX12_claim 218 = .ok (.getfield 128, 3) := by decide +kernel
theorem dX12_claim_221 : decode cX12_claim 221 = .ok (.iload_n 1, 1) := by decide +kernel
theorem dX12_claim_222 : decode cX12_claim 222 = .ok (.iload_n 2, 1) := by decide +kernel
theorem dX12_claim_223 : decode cX12_claim 223 = .ok (.iastore, 1) := by decide +kernel
theorem dX12_claim_224 : decode cX12_claim 224 = .ok (.iconst 0, 1) := by decide +kernel
theorem dX12_claim_225 : decode cX12_claim 225 = .ok (.ireturn, 1) := by decide +kernel
theorem dX12_parted_0 : decode cX12_parted 0 = .ok (.aload_n 0, 1) := by decide +kernel
theorem dX12_parted_1 : decode cX12_parted 1 = .ok (.iconst 0, 1) := by decide +kernel
theorem dX12_parted_2 : decode cX12_parted 2 = .ok (.putfield 218, 3) := by decide +kernel
theorem dX12_parted_5 : decode cX12_parted 5 = .ok (.aload_n 0, 1) := by decide +kernel
theorem dX12_parted_6 : decode cX12_parted 6 = .ok (.iload_n 1, 1) := by decide +kernel
theorem dX12_parted_7 : decode cX12_parted 7 = .ok (.iload_n 2, 1) := by decide +kernel
theorem dX12_parted_8 : decode cX12_parted 8 = .ok (.invokevirtual 476, 3) := by decide +kernel
theorem dX12_parted_11 : decode cX12_parted 11 = .ok (.ifCond .ne 5, 3) := by decide +kernel
theorem dX12_parted_14 : decode cX12_parted 14 = .ok (.iconst (-1), 1) := by decide +kernel
theorem dX12_parted_15 : decode cX12_parted 15 = .ok (.ireturn, 1) := by decide +kernel
theorem dX12_parted_16 : decode cX12_parted 16 = .ok (.aload_n 0, 1) := by decide +kernel
theorem dX12_parted_17 : decode cX12_parted 17 = .ok (.getfield 137, 3) := by decide +kernel
theorem dX12_parted_20 : decode cX12_parted 20 = .ok (.bipush 16, 2) := by decide +kernel
theorem dX12_parted_22 : decode cX12_parted 22 = .ok (.iload_n 1, 1) := by decide +kernel
theorem dX12_parted_23 : decode cX12_parted 23 = .ok (.imul, 1) := by decide +kernel
theorem dX12_parted_24 : decode cX12_parted 24 = .ok (.iload_n 2, 1) := by decide +kernel
theorem dX12_parted_25 : decode cX12_parted 25 = .ok (.iadd, 1) := by decide +kernel
theorem dX12_parted_26 : decode cX12_parted 26 = .ok (.iaload, 1) := by decide +kernel
theorem dX12_parted_27 : decode cX12_parted 27 = .ok (.istore_n 3, 1) := by decide +kernel
theorem dX12_parted_28 : decode cX12_parted 28 = .ok (.iconst 0, 1) := by decide +kernel
theorem dX12_parted_29 : decode cX12_parted 29 = .ok (.istore 4, 2) := by decide +kernel
theorem dX12_parted_31 : decode cX12_parted 31 = .ok (.bipush 16, 2) := by decide +kernel
theorem dX12_parted_33 : decode cX12_parted 33 = .ok (.iload_n 1, 1) := by decide +kernel
theorem dX12_parted_34 : decode cX12_parted 34 = .ok (.imul, 1) := by decide +kernel
theorem dX12_parted_35 : decode cX12_parted 35 = .ok (.istore 5, 2) := by decide +kernel
theorem dX12_parted_37 : decode cX12_parted 37 = .ok (.iload 5, 2) := by decide +kernel
theorem dX12_parted_39 : decode cX12_parted 39 = .ok (.bipush 16, 2) := by decide +kernel
theorem dX12_parted_41 : decode cX12_parted 41 = .ok (.iload_n 1, 1) := by decide +kernel
theorem dX12_parted_42 : decode cX12_parted 42 = .ok (.imul, 1) := by decide +kernel
theorem dX12_parted_43 : decode cX12_parted 43 = .ok (.bipush 16, 2) := by decide +kernel
theorem dX12_parted_45 : decode cX12_parted 45 = .ok (.iadd, 1) := by decide +kernel
theorem dX12_parted_46 : decode cX12_parted 46 = .ok (.if_icmp .ge 45, 3) := by decide +kernel
theorem dX12_parted_49 : decode cX12_parted 49 = .ok (.aload_n 0, 1) := by decide +kernel
theorem dX12_parted_50 : decode cX12_parted 50 = .ok (.getfield 137, 3) := by decide +kernel
theorem dX12_parted_53 : decode cX12_parted 53 = .ok (.iload 5, 2) := by decide +kernel
theorem dX12_parted_55 : decode cX12_parted 55 = .ok (.iaload, 1) := by decide +kernel
theorem dX12_parted_56 : decode cX12_parted 56 = .ok (.iload_n 3, 1) := by decide +kernel
theorem dX12_parted_57 : decode cX12_parted 57 = .ok (.if_icmp .ne 28, 3) := by decide +kernel
theorem dX12_parted_60 : decode cX12_parted 60 = .ok (.iload 4, 2) := by decide +kernel
theorem dX12_parted_62 : decode cX12_parted 62 = .ok (.aload_n 0, 1) := by decide +kernel
theorem dX12_parted_63 : decode cX12_parted 63 = .ok (.getfield 134, 3) := by decide +kernel
theorem dX12_parted_66 : decode cX12_parted 66 = .ok (.iload_n 1, 1) := by decide +kernel
theorem dX12_parted_67 : decode cX12_parted 67 = .ok (.baload, 1) := by decide +kernel
theorem dX12_parted_68 : decode cX12_parted 68 = .ok (.ifCond .eq 13, 3) := by decide +kernel
theorem dX12_parted_71 : decode cX12_parted 71 = .ok (.aload_n 0, 1) := by decide +kernel
theorem dX12_parted_72 : decode cX12_parted 72 = .ok (.getfield 143, 3) := by decide +kernel
theorem dX12_parted_75 : decode cX12_parted 75 = .ok (.iload 5, 2) := by decide +kernel
theorem dX12_parted_77 : decode cX12_parted 77 = .ok (.iaload, 1) := by decide +kernel
theorem dX12_parted_78 : decode cX12_parted 78 = .ok (.goto 4, 3) := by decide +kernel
theorem dX12_parted_81 : decode cX12_parted 81 = .ok (.iconst 1, 1) := by decide +kernel
theorem dX12_parted_82 : decode cX12_parted 82 = .ok (.iadd, 1) := by decide +kernel
theorem dX12_parted_83 : decode cX12_parted 83 = .ok (.istore 4, 2) := by decide +kernel
theorem dX12_parted_85 : decode cX12_parted 85 = .ok (.iinc 5 1, 3) := by decide +kernel
theorem dX12_parted_88 : decode cX12_parted 88 = .ok (.goto (-51), 3) := by decide +kernel
theorem dX12_parted_91 : decode cX12_parted 91 = .ok (.aload_n 0, 1) := by decide +kernel
theorem dX12_parted_92 : decode cX12_parted 92 = .ok (.getfield 107, 3) := by decide +kernel
theorem dX12_parted_95 : decode cX12_parted 95 = .ok (.iload_n 1, 1) := by decide +kernel
theorem dX12_parted_96 : decode cX12_parted 96 = .ok (.iaload, 1) := by decide +kernel
theorem dX12_parted_97 : decode cX12_parted 97 = .ok (.istore 5, 2) := by decide +kernel
theorem dX12_parted_99 : decode cX12_parted 99 = .ok (.iconst 0, 1) := by decide +kernel
theorem dX12_parted_100 : decode cX12_parted 100 = .ok (.istore 6, 2) := by decide +kernel
theorem dX12_parted_102 : decode cX12_parted 102 = .ok (.iconst 0, 1) := by decide +kernel
theorem dX12_parted_103 : decode cX12_parted 103 = .ok (.istore 7, 2) := by decide +kernel
theorem dX12_parted_105 : decode cX12_parted 105 = .ok (.iload 7, 2) := by decide +kernel
theorem dX12_parted_107 : decode cX12_parted 107 = .ok (.bipush 16, 2) := by decide +kernel
theorem dX12_parted_109 : decode cX12_parted 109 = .ok (.if_icmp .ge 76, 3) := by decide +kernel
theorem dX12_parted_112 : decode cX12_parted 112 = .ok (.bipush 16, 2) := by decide +kernel
theorem dX12_parted_114 : decode cX12_parted 114 = .ok (.iload_n 1, 1) := by decide +kernel
theorem dX12_parted_115 : decode cX12_parted 115 = .ok (.imul, 1) := by decide +kernel
theorem dX12_parted_116 : decode cX12_parted 116 = .ok (.iload 7, 2) := by decide +kernel
theorem dX12_parted_118 : decode cX12_parted 118 = .ok (.iadd, 1) := by decide +kernel
theorem dX12_parted_119 : decode cX12_parted 119 = .ok (.istore 8, 2) := by decide +kernel
theorem dX12_parted_121 : decode cX12_parted 121 = .ok (.aload_n 0, 1) := by decide +kernel
theorem dX12_parted_122 : decode cX12_parted 122 = .ok (.getfield 137, 3) := by decide +kernel
theorem dX12_parted_125 : decode cX12_parted 125 = .ok (.iload 8, 2) := by decide +kernel
theorem dX12_parted_127 : decode cX12_parted 127 = .ok (.iaload, 1) := by decide +kernel
theorem dX12_parted_128 : decode cX12_parted 128 = .ok (.iload_n 3, 1) := by decide +kernel
theorem dX12_parted_129 : decode cX12_parted 129 = .ok (.if_icmp .eq 6, 3) := by decide +kernel
theorem dX12_parted_132 : decode cX12_parted 132 = .ok (.goto 47, 3) := by decide +kernel
theorem dX12_parted_135 : decode cX12_parted 135 = .ok (.iload 5, 2) := by decide +kernel
theorem dX12_parted_137 : decode cX12_parted 137 = .ok (.aload_n 0, 1) := by decide +kernel
theorem dX12_parted_138 : decode cX12_parted 138 = .ok (.getfield 107, 3) := by decide +kernel
theorem dX12_parted_141 : decode cX12_parted 141 = .ok (.iload_n 1, 1) := by decide +kernel
theorem dX12_parted_142 : decode cX12_parted 142 = .ok (.iaload, 1) := by decide +kernel
theorem dX12_parted_143 : decode cX12_parted 143 = .ok (.aload_n 0, 1) := by decide +kernel
theorem dX12_parted_144 : decode cX12_parted 144 = .ok (.getfield 134, 3) := by decide +kernel
theorem dX12_parted_147 : decode cX12_parted 147 = .ok (.iload_n 1, 1) := by decide +kernel
theorem dX12_parted_148 : decode cX12_parted 148 = .ok (.baload, 1) := by decide +kernel
theorem dX12_parted_149 : decode cX12_parted 149 = .ok (.ifCond .eq 13, 3) := by decide +kernel
theorem dX12_parted_152 : decode cX12_parted 152 = .ok (.aload_n 0, 1) := by decide +kernel
theorem dX12_parted_153 : decode cX12_parted 153 = .ok (.getfield 143, 3) := by decide +kernel
theorem dX12_parted_156 : decode cX12_parted 156 = .ok (.iload 8, 2) := by decide +kernel
theorem dX12_parted_158 : decode cX12_parted 158 = .ok (.iaload, 1) := by decide +kernel
theorem dX12_parted_159 : decode cX12_parted 159 = .ok (.goto 4, 3) := by decide +kernel
theorem dX12_parted_162 : decode cX12_parted 162 = .ok (.iconst 1, 1) := by decide +kernel
theorem dX12_parted_163 : decode cX12_parted 163 = .ok (.imul, 1) := by decide +kernel
theorem dX12_parted_164 : decode cX12_parted 164 = .ok (.iload 4, 2) := by decide +kernel
theorem dX12_parted_166 : decode cX12_parted 166 = .ok (.idiv, 1) := by decide +kernel
theorem dX12_parted_167 : decode cX12_parted 167 = .ok (.isub, 1) := by decide +kernel
theorem dX12_parted_168 : decode cX12_parted 168 = .ok (.istore 5, 2) := by decide +kernel
theorem dX12_parted_170 : decode cX12_parted 170 = .ok (.iload 7, 2) := by decide +kernel
theorem dX12_parted_172 : decode cX12_parted 172 = .ok (.iload_n 2, 1) := by decide +kernel
theorem dX12_parted_173 : decode cX12_parted 173 = .ok (.if_icmp .ge 6, 3) := by decide +kernel
theorem dX12_parted_176 : decode cX12_parted 176 = .ok (.iinc 6 1, 3) := by decide +kernel
theorem dX12_parted_179 : decode cX12_parted 179 = .ok (.iinc 7 1, 3) := by decide +kernel
theorem dX12_parted_182 : decode cX12_parted 182 = .ok (.goto (-77), 3) := by decide +kernel
theorem dX12_parted_185 : decode cX12_parted 185 = .ok (.aload_n 0, 1) := by decide +kernel
theorem dX12_parted_186 : decode cX12_parted 186 = .ok (.getfield 107, 3) := by decide +kernel
theorem dX12_parted_189 : decode cX12_parted 189 = .ok (.iload_n 1, 1) := by decide +kernel
theorem dX12_parted_190 : decode cX12_parted 190 = .ok (.iaload, 1) := by decide +kernel
theorem dX12_parted_191 : decode cX12_parted 191 = .ok (.aload_n 0, 1) := by decide +kernel
theorem dX12_parted_192 : decode cX12_parted 192 = .ok (.getfield 134, 3) := by decide +kernel
theorem dX12_parted_195 : decode cX12_parted 195 = .ok (.iload_n 1, 1) := by decide +kernel
theorem dX12_parted_196 : decode cX12_parted 196 = .ok (.baload, 1) := by decide +kernel
theorem dX12_parted_197 : decode cX12_parted 197 = .ok (.ifCond .eq 17, 3) := by decide +kernel
theorem dX12_parted_200 : decode cX12_parted 200 = .ok (.aload_n 0, 1) := by decide +kernel
theorem dX12_parted_201 : decode cX12_parted 201 = .ok (.getfield 143, 3) := by decide +kernel
theorem dX12_parted_204 : decode cX12_parted 204 = .ok (.bipush 16, 2) := by decide +kernel
theorem dX12_parted_206 : decode cX12_parted 206 = .ok (.iload_n 1, 1) := by decide +kernel
theorem dX12_parted_207 : decode cX12_parted 207 = .ok (.imul, 1) := by decide +kernel
theorem dX12_parted_208 : decode cX12_parted 208 = .ok (.iload_n 2, 1) := by decide +kernel
theorem dX12_parted_209 : decode cX12_parted 209 = .ok (.iadd, 1) := by decide +kernel
theorem dX12_parted_210 : decode cX12_parted 210 = .ok (.iaload, 1) := by decide +kernel
theorem dX12_parted_211 : decode cX12_parted 211 = .ok (.goto 4, 3) := by decide +kernel
theorem dX12_parted_214 : decode cX12_parted 214 = .ok (.iconst 1, 1) := by decide +kernel
theorem dX12_parted_215 : decode cX12_parted 215 = .ok (.imul, 1) := by decide +kernel
theorem dX12_parted_216 : decode cX12_parted 216 = .ok (.iload 4, 2) := by decide +kernel
theorem dX12_parted_218 : decode cX12_parted 218 = .ok (.idiv, 1) := by decide +kernel
theorem dX12_parted_219 : decode cX12_parted 219 = .ok (.iload 6, 2) := by decide +kernel
theorem dX12_parted_221 : decode cX12_parted 221 = .ok (.iload 5, 2) := by decide +kernel
theorem dX12_parted_223 : decode cX12_parted 223 = .ok (.if_icmp .ge 7, 3) := by decide +kernel
theorem dX12_parted_226 : decode cX12_parted 226 = .ok (.iconst 1, 1) := by decide +kernel
theorem dX12_parted_227 : decode cX12_parted 227 = .ok (.goto 4, 3) := by decide +kernel
theorem dX12_parted_230 : decode cX12_parted 230 = .ok (.iconst 0, 1) := by decide +kernel
theorem dX12_parted_231 : decode cX12_parted 231 = .ok (.iadd, 1) := by decide +kernel
theorem dX12_parted_232 : decode cX12_parted 232 = .ok (.ireturn, 1) := by decide +kernel
theorem dX12_isSly_0 : decode cX12_isSly 0 = .ok (.aload_n 0, 1) := by decide +kernel
theorem dX12_isSly_1 : decode cX12_isSly 1 = .ok (.iload_n 1, 1) := by decide +kernel
theorem dX12_isSly_2 : decode cX12_isSly 2 = .ok (.invokevirtual 230, 3) := by decide +kernel
theorem dX12_isSly_5 : decode cX12_isSly 5 = .ok (.ifCond .eq 52, 3) := by decide +kernel
theorem dX12_isSly_8 : decode cX12_isSly 8 = .ok (.iload_n 2, 1) := by decide +kernel
theorem dX12_isSly_9 : decode cX12_isSly 9 = .ok (.invokestatic 226, 3) := by decide +kernel
theorem dX12_isSly_12 : decode cX12_isSly 12 = .ok (.ifCond .eq 45, 3) := by decide +kernel
theorem dX12_isSly_15 : decode cX12_isSly 15 = .ok (.iload_n 3, 1) := by decide +kernel
theorem dX12_isSly_16 : decode cX12_isSly 16 = .ok (.invokestatic 226, 3) := by decide +kernel
theorem dX12_isSly_19 : decode cX12_isSly 19 = .ok (.ifCond .eq 38, 3) := by decide +kernel
theorem dX12_isSly_22 : decode cX12_isSly 22 = .ok (.iload_n 2, 1) := by decide +kernel
theorem dX12_isSly_23 : decode cX12_isSly 23 = .ok (.iload_n 3, 1) := by decide +kernel
theorem dX12_isSly_24 : decode cX12_isSly 24 = .ok (.if_icmp .eq 33, 3) := by decide +kernel
theorem dX12_isSly_27 : decode cX12_isSly 27 = .ok (.aload_n 0, 1) := by decide +kernel
theorem dX12_isSly_28 : decode cX12_isSly 28 = .ok (.getfield 13, 3) := by decide +kernel
theorem dX12_isSly_31 : decode cX12_isSly 31 = .ok (.bipush 16, 2) := by decide +kernel
theorem dX12_isSly_33 : decode cX12_isSly 33 = .ok (.iload_n 1, 1) := by decide +kernel
theorem dX12_isSly_34 : decode cX12_isSly 34 = .ok (.imul, 1) := by decide +kernel
theorem dX12_isSly_35 : decode cX12_isSly 35 = .ok (.iload_n 2, 1) := by decide +kernel
theorem dX12_isSly_36 : decode cX12_isSly 36 = .ok (.iadd, 1) := by decide +kernel
theorem dX12_isSly_37 : decode cX12_isSly 37 = .ok (.iaload, 1) := by decide +kernel
theorem dX12_isSly_38 : decode cX12_isSly 38 = .ok (.ifCond .le 19, 3) := by decide +kernel
theorem dX12_isSly_41 : decode cX12_isSly 41 = .ok (.iload 4, 2) := by decide +kernel
theorem dX12_isSly_43 : decode cX12_isSly 43 = .ok (.iconst 0, 1) := by decide +kernel
theorem dX12_isSly_44 : decode cX12_isSly 44 = .ok (.sipush 800, 3) := by decide +kernel
theorem dX12_isSly_47 : decode cX12_isSly 47 = .ok (.invokestatic 222, 3) := by decide +kernel
theorem dX12_isSly_50 : decode cX12_isSly 50 = .ok (.ifCond .eq 7, 3) := by decide +kernel
theorem dX12_isSly_53 : decode cX12_isSly 53 = .ok (.iconst 1, 1) := by decide +kernel
theorem dX12_isSly_54 : decode cX12_isSly 54 = .ok (.goto 4, 3) := by decide +kernel
theorem dX12_isSly_57 : decode cX12_isSly 57 = .ok (.iconst 0, 1) := by decide +kernel
theorem dX12_isSly_58 : decode cX12_isSly 58 = .ok (.ireturn, 1) := by decide +kernel
theorem dX12_lies_0 : decode cX12_lies 0 = .ok (.aload_n 0, 1) := by decide +kernel
theorem dX12_lies_1 : decode cX12_lies 1 = .ok (.getfield 13, 3) := by decide +kernel
theorem dX12_lies_4 : decode cX12_lies 4 = .ok (.bipush 16, 2) := by decide +kernel
theorem dX12_lies_6 : decode cX12_lies 6 = .ok (.iload_n 1, 1) := by decide +kernel
theorem dX12_lies_7 : decode cX12_lies 7 = .ok (.imul, 1) := by decide +kernel
theorem dX12_lies_8 : decode cX12_lies 8 = .ok (.iload_n 2, 1) := by decide +kernel
theorem dX12_lies_9 : decode cX12_lies 9 = .ok (.iadd, 1) := by decide +kernel
theorem dX12_lies_10 : decode cX12_lies 10 = .ok (.iaload, 1) := by decide +kernel
theorem dX12_lies_11 : decode cX12_lies 11 = .ok (.aload_n 0, 1) := by decide +kernel
theorem dX12_lies_12 : decode cX12_lies 12 = .ok (.getfield 13, 3) := by decide +kernel
theorem dX12_lies_15 : decode cX12_lies 15 = .ok (.bipush 16, 2) := by decide +kernel
theorem dX12_lies_17 : decode cX12_lies 17 = .ok (.iload_n 1, 1) := by decide +kernel
theorem dX12_lies_18 : decode cX12_lies 18 = .ok (.imul, 1) := by decide +kernel
theorem dX12_lies_19 : decode cX12_lies 19 = .ok (.iload_n 3, 1) := by decide +kernel
theorem dX12_lies_20 : decode cX12_lies 20 = .ok (.iadd, 1) := by decide +kernel
theorem dX12_lies_21 : decode cX12_lies 21 = .ok (.iaload, 1) := by decide +kernel
theorem dX12_lies_22 : decode cX12_lies 22 = .ok (.iadd, 1) := by decide +kernel
theorem dX12_lies_23 : decode cX12_lies 23 = .ok (.istore 5, 2) := by decide +kernel
theorem dX12_lies_25 : decode cX12_lies 25 = .ok (.aload_n 0, 1) := by decide +kernel
theorem dX12_lies_26 : decode cX12_lies 26 = .ok (.getfield 13, 3) := by decide +kernel
theorem dX12_lies_29 : decode cX12_lies 29 = .ok (.bipush 16, 2) := by decide +kernel
theorem dX12_lies_31 : decode cX12_lies 31 = .ok (.iload_n 1, 1) := by decide +kernel
theorem dX12_lies_32 : decode cX12_lies 32 = .ok (.imul, 1) := by decide +kernel
theorem dX12_lies_33 : decode cX12_lies 33 = .ok (.iload_n 2, 1) := by decide +kernel
theorem dX12_lies_34 : decode cX12_lies 34 = .ok (.iadd, 1) := by decide +kernel
theorem dX12_lies_35 : decode cX12_lies 35 = .ok (.iload 4, 2) := by decide +kernel
theorem dX12_lies_37 : decode cX12_lies 37 = .ok (.iastore, 1) := by decide +kernel
theorem dX12_lies_38 : decode cX12_lies 38 = .ok (.aload_n 0, 1) := by decide +kernel
theorem dX12_lies_39 : decode cX12_lies 39 = .ok (.getfield 13, 3) := by decide +kernel
theorem dX12_lies_42 : decode cX12_lies 42 = .ok (.bipush 16, 2) := by decide +kernel
theorem dX12_lies_44 : decode cX12_lies 44 = .ok (.iload_n 1, 1) := by decide +kernel
theorem dX12_lies_45 : decode cX12_lies 45 = .ok (.imul, 1) := by decide +kernel
theorem dX12_lies_46 : decode cX12_lies 46 = .ok (.iload_n 3, 1) := by decide +kernel
theorem dX12_lies_47 : decode cX12_lies 47 = .ok (.iadd, 1) := by decide +kernel
theorem dX12_lies_48 : decode cX12_lies 48 = .ok (.iload 5, 2) := by decide +kernel
theorem dX12_lies_50 : decode cX12_lies 50 = .ok (.iload 4, 2) := by decide +kernel
theorem dX12_lies_52 : decode cX12_lies 52 = .ok (.isub, 1) := by decide +kernel
theorem dX12_lies_53 : decode cX12_lies 53 = .ok (.iastore, 1) := by decide +kernel
theorem dX12_lies_54 : decode cX12_lies 54 = .ok (.return_, 1) := by decide +kernel
theorem dX12_isUnseen_0 : decode cX12_isUnseen 0 = .ok (.iload 5, 2) := by decide +kernel
theorem dX12_isUnseen_2 : decode cX12_isUnseen 2 = .ok (.iconst 1, 1) := by decide +kernel
theorem dX12_isUnseen_3 : decode cX12_isUnseen 3 = .ok (.if_icmp .ne 7, 3) := by decide +kernel
theorem dX12_isUnseen_6 : decode cX12_isUnseen 6 = .ok (.iconst 0, 1) := by decide +kernel
theorem dX12_isUnseen_7 : decode cX12_isUnseen 7 = .ok (.goto 8, 3) := by decide +kernel
theorem dX12_isUnseen_10 : decode cX12_isUnseen 10 = .ok (.iload 4, 2) := by decide +kernel
theorem dX12_isUnseen_12 : decode cX12_isUnseen 12 = .ok (.iload 6, 2) := by decide +kernel
theorem dX12_isUnseen_14 : decode cX12_isUnseen 14 = .ok (.imul, 1) := by decide +kernel
theorem dX12_isUnseen_15 : decode cX12_isUnseen 15 = .ok (.istore 7, 2) := by decide +kernel
theorem dX12_isUnseen_17 : decode cX12_isUnseen 17 = .ok (.aload_n 0, 1) := by decide +kernel
theorem dX12_isUnseen_18 : decode cX12_isUnseen 18 = .ok (.iload_n 1, 1) := by decide +kernel
theorem dX12_isUnseen_19 : decode cX12_isUnseen 19 = .ok (.iload_n 2, 1) := by decide +kernel
theorem dX12_isUnseen_20 : decode cX12_isUnseen 20 = .ok (.iload_n 3, 1) := by decide +kernel
theorem dX12_isUnseen_21 : decode cX12_isUnseen 21 = .ok (.iload 4, 2) := by decide +kernel
theorem dX12_isUnseen_23 : decode cX12_isUnseen 23 = .ok (.iload 5, 2) := by decide +kernel
theorem dX12_isUnseen_25 : decode cX12_isUnseen 25 = .ok (.iload 7, 2) := by decide +kernel
theorem dX12_isUnseen_27 : decode cX12_isUnseen 27 = .ok (.iload 7, 2) := by decide +kernel
theorem dX12_isUnseen_29 : decode cX12_isUnseen 29 = .ok (.invokevirtual 463, 3) := by decide +kernel
theorem dX12_isUnseen_32 : decode cX12_isUnseen 32 = .ok (.aload_n 0, 1) := by decide +kernel
theorem dX12_isUnseen_33 : decode cX12_isUnseen 33 = .ok (.invokevirtual 467, 3) := by decide +kernel
theorem dX12_isUnseen_36 : decode cX12_isUnseen 36 = .ok (.ifCond .ne 7, 3) := by decide +kernel
theorem dX12_isUnseen_39 : decode cX12_isUnseen 39 = .ok (.iconst 1, 1) := by decide +kernel
theorem dX12_isUnseen_40 : decode cX12_isUnseen 40 = .ok (.goto 4, 3) := by decide +kernel
theorem dX12_isUnseen_43 : decode cX12_isUnseen 43 = .ok (.iconst 0, 1) := by decide +kernel
theorem dX12_isUnseen_44 : decode cX12_isUnseen 44 = .ok (.ireturn, 1) := by decide +kernel
theorem dX12_steps_0 : decode cX12_steps 0 = .ok (.iload_n 2, 1) := by decide +kernel
theorem dX12_steps_1 : decode cX12_steps 1 = .ok (.istore 7, 2) := by decide +kernel
theorem dX12_steps_3 : decode cX12_steps 3 = .ok (.iload 7, 2) := by decide +kernel
theorem dX12_steps_5 : decode cX12_steps 5 = .ok (.aload_n 0, 1) := by decide +kernel
theorem dX12_steps_6 : decode cX12_steps 6 = .ok (.getfield 482, 3) := by decide +kernel
theorem dX12_steps_9 : decode cX12_steps 9 = .ok (.if_icmp .ne 10, 3) := by decide +kernel
theorem dX12_steps_12 : decode cX12_steps 12 = .ok (.iload_n 1, 1) := by decide +kernel
theorem dX12_steps_13 : decode cX12_steps 13 = .ok (.bipush 13, 2) := by decide +kernel
theorem dX12_steps_15 : decode cX12_steps 15 = .ok (.irem, 1) := by decide +kernel
theorem dX12_steps_16 : decode cX12_steps 16 = .ok (.goto 7, 3) := by decide +kernel
theorem dX12_steps_19 : decode cX12_steps 19 = .ok (.iload_n 1, 1) := by decide +kernel
theorem dX12_steps_20 : decode cX12_steps 20 = .ok (.bipush 13, 2) := by decide +kernel
theorem dX12_steps_22 : decode cX12_steps 22 = .ok (.idiv, 1) := by decide +kernel
theorem dX12_steps_23 : decode cX12_steps 23 = .ok (.istore 8, 2) := by decide +kernel
theorem dX12_steps_25 : decode cX12_steps 25 = .ok (.iconst 1, 1) := by decide +kernel
theorem dX12_steps_26 : decode cX12_steps 26 = .ok (.istore 9, 2) := by decide +kernel
theorem dX12_steps_28 : decode cX12_steps 28 = .ok (.iload 9, 2) := by decide +kernel
theorem dX12_steps_30 : decode cX12_steps 30 = .ok (.iload 8, 2) := by decide +kernel
theorem dX12_steps_32 : decode cX12_steps 32 = .ok (.if_icmp .gt 167, 3) := by decide +kernel
theorem dX12_steps_35 : decode cX12_steps 35 = .ok (.iload 7, 2) := by decide +kernel
theorem dX12_steps_37 : decode cX12_steps 37 = .ok (.aload_n 0, 1) := by decide +kernel
theorem dX12_steps_38 : decode cX12_steps 38 = .ok (.getfield 482, 3) := by decide +kernel
theorem dX12_steps_41 : decode cX12_steps 41 = .ok (.if_icmp .ne 10, 3) := by decide +kernel
theorem dX12_steps_44 : decode cX12_steps 44 = .ok (.iload_n 1, 1) := by decide +kernel
theorem dX12_steps_45 : decode cX12_steps 45 = .ok (.iload 9, 2) := by decide +kernel
theorem dX12_steps_47 : decode cX12_steps 47 = .ok (.isub, 1) := by decide +kernel
theorem dX12_steps_48 : decode cX12_steps 48 = .ok (.goto 10, 3) := by decide +kernel
theorem dX12_steps_51 : decode cX12_steps 51 = .ok (.iload_n 1, 1) := by decide +kernel
theorem dX12_steps_52 : decode cX12_steps 52 = .ok (.bipush 13, 2) := by decide +kernel
theorem dX12_steps_54 : decode cX12_steps 54 = .ok (.iload 9, 2) := by decide +kernel
theorem dX12_steps_56 : decode cX12_steps 56 = .ok (.imul, 1) := by decide +kernel
theorem dX12_steps_57 : decode cX12_steps 57 = .ok (.isub, 1) := by decide +kernel
theorem dX12_steps_58 : decode cX12_steps 58 = .ok (.istore 10, 2) := by decide +kernel
theorem dX12_steps_60 : decode cX12_steps 60 = .ok (.iconst 0, 1) := by decide +kernel
theorem dX12_steps_61 : decode cX12_steps 61 = .ok (.istore 11, 2) := by decide +kernel
theorem dX12_steps_63 : decode cX12_steps 63 = .ok (.iload 11, 2) := by decide +kernel
theorem dX12_steps_65 : decode cX12_steps 65 = .ok (.iconst 3, 1) := by decide +kernel
theorem dX12_steps_66 : decode cX12_steps 66 = .ok (.if_icmp .ge 127, 3) := by decide +kernel
theorem dX12_steps_69 : decode cX12_steps 69 = .ok (.aload_n 0, 1) := by decide +kernel
theorem dX12_steps_70 : decode cX12_steps 70 = .ok (.getfield 164, 3) := by decide +kernel
theorem dX12_steps_73 : decode cX12_steps 73 = .ok (.iload 10, 2) := by decide +kernel
theorem dX12_steps_75 : decode cX12_steps 75 = .ok (.baload, 1) := by decide +kernel
theorem dX12_steps_76 : decode cX12_steps 76 = .ok (.ifCond .ne 111, 3) := by decide +kernel
theorem dX12_steps_79 : decode cX12_steps 79 = .ok (.aload_n 0, 1) := by decide +kernel
theorem dX12_steps_80 : decode cX12_steps 80 = .ok (.iload 7, 2) := by decide +kernel
theorem dX12_steps_82 : decode cX12_steps 82 = .ok (.iload_n 3, 1) := by decide +kernel
theorem dX12_steps_83 : decode cX12_steps 83 = .ok (.iload 4, 2) := by decide +kernel
theorem dX12_steps_85 : decode cX12_steps 85 = .ok (.iload 9, 2) := by decide +kernel
theorem dX12_steps_87 : decode cX12_steps 87 = .ok (.iload 11, 2) := by decide +kernel
theorem dX12_steps_89 : decode cX12_steps 89 = .ok (.iload 5, 2) := by decide +kernel
theorem dX12_steps_91 : decode cX12_steps 91 = .ok (.invokevirtual 485, 3) := by decide +kernel
theorem dX12_steps_94 : decode cX12_steps 94 = .ok (.ifCond .ne 6, 3) := by decide +kernel
theorem dX12_steps_97 : decode cX12_steps 97 = .ok (.goto 90, 3) := by decide +kernel
theorem dX12_steps_100 : decode cX12_steps 100 = .ok (.aload_n 0, 1) := by decide +kernel
theorem dX12_steps_101 : decode cX12_steps 101 = .ok (.getfield 164, 3) := by decide +kernel
theorem dX12_steps_104 : decode cX12_steps 104 = .ok (.iload 10, 2) := by decide +kernel
theorem dX12_steps_106 : decode cX12_steps 106 = .ok (.iconst 1, 1) := by decide +kernel
theorem dX12_steps_107 : decode cX12_steps 107 = .ok (.bastore, 1) := by decide +kernel
theorem dX12_steps_108 : decode cX12_steps 108 = .ok (.aload_n 0, 1) := by decide +kernel
theorem dX12_steps_109 : decode cX12_steps 109 = .ok (.getfield 155, 3) := by decide +kernel
theorem dX12_steps_112 : decode cX12_steps 112 = .ok (.iload 10, 2) := by decide +kernel
theorem dX12_steps_114 : decode cX12_steps 114 = .ok (.iload_n 1, 1) := by decide +kernel
theorem dX12_steps_115 : decode cX12_steps 115 = .ok (.iastore, 1) := by decide +kernel
theorem dX12_steps_116 : decode cX12_steps 116 = .ok (.aload_n 0, 1) := by decide +kernel
theorem dX12_steps_117 : decode cX12_steps 117 = .ok (.getfield 158, 3) := by decide +kernel
theorem dX12_steps_120 : decode cX12_steps 120 = .ok (.iload 10, 2) := by decide +kernel
theorem dX12_steps_122 : decode cX12_steps 122 = .ok (.iload 7, 2) := by decide +kernel
theorem dX12_steps_124 : decode cX12_steps 124 = .ok (.aload_n 0, 1) := by decide +kernel
theorem dX12_steps_125 : decode cX12_steps 125 = .ok (.getfield 482, 3) := by decide +kernel
theorem dX12_steps_128 : decode cX12_steps 128 = .ok (.if_icmp .ne 8, 3) := by decide +kernel
theorem dX12_steps_131 : decode cX12_steps 131 = .ok (.bipush 36, 2) := by decide +kernel
theorem dX12_steps_133 : decode cX12_steps 133 = .ok (.goto 4, 3) := by decide +kernel
theorem dX12_steps_136 : decode cX12_steps 136 = .ok (.iconst 0, 1) := by decide +kernel
theorem dX12_steps_137 : decode cX12_steps 137 = .ok (.iconst 3, 1) := by decide +kernel
theorem dX12_steps_138 : decode cX12_steps 138 = .ok (.iload 9, 2) := by decide +kernel
theorem dX12_steps_140 : decode cX12_steps 140 = .ok (.iconst 1, 1) := by decide +kernel
theorem dX12_steps_141 : decode cX12_steps 141 = .ok (.isub, 1) := by decide +kernel
theorem dX12_steps_142 : decode cX12_steps 142 = .ok (.imul, 1) := by decide +kernel
theorem dX12_steps_143 : decode cX12_steps 143 = .ok (.iadd, 1) := by decide +kernel
theorem dX12_steps_144 : decode cX12_steps 144 = .ok (.iload 11, 2) := by decide +kernel
theorem dX12_steps_146 : decode cX12_steps 146 = .ok (.iadd, 1) := by decide +kernel
theorem dX12_steps_147 : decode cX12_steps 147 = .ok (.iastore, 1) := by decide +kernel
theorem dX12_steps_148 : decode cX12_steps 148 = .ok (.aload_n 0, 1) := by decide +kernel
theorem dX12_steps_149 : decode cX12_steps 149 = .ok (.getfield 161, 3) := by decide +kernel
theorem dX12_steps_152 : decode cX12_steps 152 = .ok (.iload 10, 2) := by decide +kernel
theorem dX12_steps_154 : decode cX12_steps 154 = .ok (.aload_n 0, 1) := by decide +kernel
theorem dX12_steps_155 : decode cX12_steps 155 = .ok (.getfield 161, 3) := by decide +kernel
theorem dX12_steps_158 : decode cX12_steps 158 = .ok (.iload_n 1, 1) := by decide +kernel
theorem dX12_steps_159 : decode cX12_steps 159 = .ok (.iaload, 1) := by decide +kernel
theorem dX12_steps_160 : decode cX12_steps 160 = .ok (.iconst 1, 1) := by decide +kernel
theorem dX12_steps_161 : decode cX12_steps 161 = .ok (.iadd, 1) := by decide +kernel
theorem dX12_steps_162 : decode cX12_steps 162 = .ok (.iastore, 1) := by decide +kernel
theorem dX12_steps_163 : decode cX12_steps 163 = .ok (.aload_n 0, 1) := by decide +kernel
theorem dX12_steps_164 : decode cX12_steps 164 = .ok (.getfield 152, 3) := by decide +kernel
theorem dX12_steps_167 : decode cX12_steps 167 = .ok (.iload 6, 2) := by decide +kernel
theorem dX12_steps_169 : decode cX12_steps 169 = .ok (.aload_n 0, 1) := by decide +kernel
theorem dX12_steps_170 : decode cX12_steps 170 = .ok (.getfield 489, 3) := by decide +kernel
theorem dX12_steps_173 : decode cX12_steps 173 = .ok (.iadd, 1) := by decide +kernel
theorem dX12_steps_174 : decode cX12_steps 174 = .ok (.iload 10, 2) := by decide +kernel
theorem dX12_steps_176 : decode cX12_steps 176 = .ok (.iastore, 1) := by decide +kernel
theorem dX12_steps_177 : decode cX12_steps 177 = .ok (.aload_n 0, 1) := by decide +kernel
theorem dX12_steps_178 : decode cX12_steps 178 = .ok (.dup, 1) := by decide +kernel
theorem dX12_steps_179 : decode cX12_steps 179 = .ok (.getfield 489, 3) := by decide +kernel
theorem dX12_steps_182 : decode cX12_steps 182 = .ok (.iconst 1, 1) := by decide +kernel
theorem dX12_steps_183 : decode cX12_steps 183 = .ok (.iadd, 1) := by decide +kernel
theorem dX12_steps_184 : decode cX12_steps 184 = .ok (.putfield 489, 3) := by decide +kernel
theorem dX12_steps_187 : decode cX12_steps 187 = .ok (.iinc 11 1, 3) := by decide +kernel
theorem dX12_steps_190 : decode cX12_steps 190 = .ok (.goto (-127), 3) := by decide +kernel
theorem dX12_steps_193 : decode cX12_steps 193 = .ok (.iinc 9 1, 3) := by decide +kernel
theorem dX12_steps_196 : decode cX12_steps 196 = .ok (.goto (-168), 3) := by decide +kernel
theorem dX12_steps_199 : decode cX12_steps 199 = .ok (.return_, 1) := by decide +kernel
theorem dX12_seeks_0 : decode cX12_seeks 0 = .ok (.aload_n 0, 1) := by decide +kernel
theorem dX12_seeks_1 : decode cX12_seeks 1 = .ok (.iconst (-1), 1) := by decide +kernel
theorem dX12_seeks_2 : decode cX12_seeks 2 = .ok (.putfield 482, 3) := by decide +kernel
theorem dX12_seeks_5 : decode cX12_seeks 5 = .ok (.bipush 11, 2) := by decide +kernel
theorem dX12_seeks_7 : decode cX12_seeks 7 = .ok (.istore 5, 2) := by decide +kernel
theorem dX12_seeks_9 : decode cX12_seeks 9 = .ok (.iload 5, 2) := by decide +kernel
theorem dX12_seeks_11 : decode cX12_seeks 11 = .ok (.ifCond .lt 36, 3) := by decide +kernel
theorem dX12_seeks_14 : decode cX12_seeks 14 = .ok (.iload 5, 2) := by decide +kernel
theorem dX12_seeks_16 : decode cX12_seeks 16 = .ok (.iload_n 1, 1) := by decide +kernel
theorem dX12_seeks_17 : decode cX12_seeks 17 = .ok (.if_icmp .eq 24, 3) := by decide +kernel
theorem dX12_seeks_20 : decode cX12_seeks 20 = .ok (.aload_n 0, 1) := by decide +kernel
theorem dX12_seeks_21 : decode cX12_seeks 21 = .ok (.getfield 13, 3) := by decide +kernel
theorem dX12_seeks_24 : decode cX12_seeks 24 = .ok (.bipush 16, 2) := by decide +kernel
theorem dX12_seeks_26 : decode cX12_seeks 26 = .ok (.iload 5, 2) := by decide +kernel
theorem dX12_seeks_28 : decode cX12_seeks 28 = .ok (.imul, 1) := by decide +kernel
theorem dX12_seeks_29 : decode cX12_seeks 29 = .ok (.iload_n 2, 1) := by decide +kernel
theorem dX12_seeks_30 : decode cX12_seeks 30 = .ok (.iadd, 1) := by decide +kernel
theorem dX12_seeks_31 : decode cX12_seeks 31 = .ok (.iaload, 1) := by decide +kernel
theorem dX12_seeks_32 : decode cX12_seeks 32 = .ok (.ifCond .le 9, 3) := by decide +kernel
theorem dX12_seeks_35 : decode cX12_seeks 35 = .ok (.aload_n 0, 1) := by decide +kernel
theorem dX12_seeks_36 : decode cX12_seeks 36 = .ok (.iload 5, 2) := by decide +kernel
theorem dX12_seeks_38 : decode cX12_seeks 38 = .ok (.putfield 482, 3) := by decide +kernel
theorem dX12_seeks_41 : decode cX12_seeks 41 = .ok (.iinc 5 (-1), 3) := by decide +kernel
theorem dX12_seeks_44 : decode cX12_seeks 44 = .ok (.goto (-35), 3) := by decide +kernel
theorem dX12_seeks_47 : decode cX12_seeks 47 = .ok (.aload_n 0, 1) := by decide +kernel
theorem dX12_seeks_48 : decode cX12_seeks 48 = .ok (.getfield 13, 3) := by decide +kernel
theorem dX12_seeks_51 : decode cX12_seeks 51 = .ok (.bipush 16, 2) := by decide +kernel
theorem dX12_seeks_53 : decode cX12_seeks 53 = .ok (.iload_n 1, 1) := by decide +kernel
theorem dX12_seeks_54 : decode cX12_seeks 54 = .ok (.imul, 1) := by decide +kernel
theorem dX12_seeks_55 : decode cX12_seeks 55 = .ok (.iload_n 2, 1) := by decide +kernel
theorem dX12_seeks_56 : decode cX12_seeks 56 = .ok (.iadd, 1) := by decide +kernel
theorem dX12_seeks_57 : decode cX12_seeks 57 = .ok (.iaload, 1) := by decide +kernel
theorem dX12_seeks_58 : decode cX12_seeks 58 = .ok (.istore 5, 2) := by decide +kernel
theorem dX12_seeks_60 : decode cX12_seeks 60 = .ok (.aload_n 0, 1) := by decide +kernel
theorem dX12_seeks_61 : decode cX12_seeks 61 = .ok (.getfield 482, 3) := by decide +kernel
theorem dX12_seeks_64 : decode cX12_seeks 64 = .ok (.ifCond .ge 7, 3) := by decide +kernel
theorem dX12_seeks_67 : decode cX12_seeks 67 = .ok (.iconst 0, 1) := by decide +kernel
theorem dX12_seeks_68 : decode cX12_seeks 68 = .ok (.goto 17, 3) := by decide +kernel
theorem dX12_seeks_71 : decode cX12_seeks 71 = .ok (.aload_n 0, 1) := by decide +kernel
theorem dX12_seeks_72 : decode cX12_seeks 72 = .ok (.getfield 13, 3) := by decide +kernel
theorem dX12_seeks_75 : decode cX12_seeks 75 = .ok (.bipush 16, 2) := by decide +kernel
theorem dX12_seeks_77 : decode cX12_seeks 77 = .ok (.aload_n 0, 1) := by decide +kernel
theorem dX12_seeks_78 : decode cX12_seeks 78 = .ok (.getfield 482, 3) := by decide +kernel
theorem dX12_seeks_81 : decode cX12_seeks 81 = .ok (.imul, 1) := by decide +kernel
theorem dX12_seeks_82 : decode cX12_seeks 82 = .ok (.iload_n 2, 1) := by decide +kernel
theorem dX12_seeks_83 : decode cX12_seeks 83 = .ok (.iadd, 1) := by decide +kernel
theorem dX12_seeks_84 : decode cX12_seeks 84 = .ok (.iaload, 1) := by decide +kernel
theorem dX12_seeks_85 : decode cX12_seeks 85 = .ok (.istore 6, 2) := by decide +kernel
theorem dX12_seeks_87 : decode cX12_seeks 87 = .ok (.iconst 0, 1) := by decide +kernel
theorem dX12_seeks_88 : decode cX12_seeks 88 = .ok (.istore 7, 2) := by decide +kernel
theorem dX12_seeks_90 : decode cX12_seeks 90 = .ok (.iload 7, 2) := by decide +kernel
theorem dX12_seeks_92 : decode cX12_seeks 92 = .ok (.sipush 169, 3) := by decide +kernel
theorem dX12_seeks_95 : decode cX12_seeks 95 = .ok (.if_icmp .ge 17, 3) := by decide +kernel
theorem dX12_seeks_98 : decode cX12_seeks 98 = .ok (.aload_n 0, 1) := by decide +kernel
theorem dX12_seeks_99 : decode cX12_seeks 99 = .ok (.getfield 164, 3) := by decide +kernel
theorem dX12_seeks_102 : decode cX12_seeks 102 = .ok (.iload 7, 2) := by decide +kernel
theorem dX12_seeks_104 : decode cX12_seeks 104 = .ok (.iconst 0, 1) := by decide +kernel
theorem dX12_seeks_105 : decode cX12_seeks 105 = .ok (.bastore, 1) := by decide +kernel
theorem dX12_seeks_106 : decode cX12_seeks 106 = .ok (.iinc 7 1, 3) := by decide +kernel
theorem dX12_seeks_109 : decode cX12_seeks 109 = .ok (.goto (-19), 3) := by decide +kernel
theorem dX12_seeks_112 : decode cX12_seeks 112 = .ok (.bipush 13, 2) := by decide +kernel
theorem dX12_seeks_114 : decode cX12_seeks 114 = .ok (.iload 5, 2) := by decide +kernel
theorem dX12_seeks_116 : decode cX12_seeks 116 = .ok (.imul, 1) := by decide +kernel
theorem dX12_seeks_117 : decode cX12_seeks 117 = .ok (.iload 6, 2) := by decide +kernel
theorem dX12_seeks_119 : decode cX12_seeks 119 = .ok (.iadd, 1) := by decide +kernel
theorem dX12_seeks_120 : decode cX12_seeks 120 = .ok (.istore 7, 2) := by decide +kernel
theorem dX12_seeks_122 : decode cX12_seeks 122 = .ok (.aload_n 0, 1) := by decide +kernel
theorem dX12_seeks_123 : decode cX12_seeks 123 = .ok (.getfield 152, 3) := by decide +kernel
theorem dX12_seeks_126 : decode cX12_seeks 126 = .ok (.iconst 0, 1) := by decide +kernel
theorem dX12_seeks_127 : decode cX12_seeks 127 = .ok (.iload 7, 2) := by decide +kernel
theorem dX12_seeks_129 : decode cX12_seeks 129 = .ok (.iastore, 1) := by decide +kernel
theorem dX12_seeks_130 : decode cX12_seeks 130 = .ok (.aload_n 0, 1) := by decide +kernel
theorem dX12_seeks_131 : decode cX12_seeks 131 = .ok (.getfield 164, 3) := by decide +kernel
theorem dX12_seeks_134 : decode cX12_seeks 134 = .ok (.iload 7, 2) := by decide +kernel
theorem dX12_seeks_136 : decode cX12_seeks 136 = .ok (.iconst 1, 1) := by decide +kernel
theorem dX12_seeks_137 : decode cX12_seeks 137 = .ok (.bastore, 1) := by decide +kernel
theorem dX12_seeks_138 : decode cX12_seeks 138 = .ok (.aload_n 0, 1) := by decide +kernel
theorem dX12_seeks_139 : decode cX12_seeks 139 = .ok (.getfield 161, 3) := by decide +kernel
theorem dX12_seeks_142 : decode cX12_seeks 142 = .ok (.iload 7, 2) := by decide +kernel
theorem dX12_seeks_144 : decode cX12_seeks 144 = .ok (.iconst 0, 1) := by decide +kernel
theorem dX12_seeks_145 : decode cX12_seeks 145 = .ok (.iastore, 1) := by decide +kernel
theorem dX12_seeks_146 : decode cX12_seeks 146 = .ok (.iconst 1, 1) := by decide +kernel
theorem dX12_seeks_147 : decode cX12_seeks 147 = .ok (.istore 8, 2) := by decide +kernel
theorem dX12_seeks_149 : decode cX12_seeks 149 = .ok (.aload_n 0, 1) := by decide +kernel
theorem dX12_seeks_150 : decode cX12_seeks 150 = .ok (.iconst (-1), 1) := by decide +kernel
theorem dX12_seeks_151 : decode cX12_seeks 151 = .ok (.putfield 492, 3) := by decide +kernel
theorem dX12_seeks_154 : decode cX12_seeks 154 = .ok (.iconst 0, 1) := by decide +kernel
theorem dX12_seeks_155 : decode cX12_seeks 155 = .ok (.istore 9, 2) := by decide +kernel
theorem dX12_seeks_157 : decode cX12_seeks 157 = .ok (.iload 9, 2) := by decide +kernel
theorem dX12_seeks_159 : decode cX12_seeks 159 = .ok (.iload 8, 2) := by decide +kernel
theorem dX12_seeks_161 : decode cX12_seeks 161 = .ok (.if_icmp .ge 125, 3) := by decide +kernel
theorem dX12_seeks_164 : decode cX12_seeks 164 = .ok (.aload_n 0, 1) := by decide +kernel
theorem dX12_seeks_165 : decode cX12_seeks 165 = .ok (.getfield 492, 3) := by decide +kernel
theorem dX12_seeks_168 : decode cX12_seeks 168 = .ok (.ifCond .ge 118, 3) := by decide +kernel
theorem dX12_seeks_171 : decode cX12_seeks 171 = .ok (.aload_n 0, 1) := by decide +kernel
theorem dX12_seeks_172 : decode cX12_seeks 172 = .ok (.getfield 152, 3) := by decide +kernel
theorem dX12_seeks_175 : decode cX12_seeks 175 = .ok (.iload 9, 2) := by decide +kernel
theorem dX12_seeks_177 : decode cX12_seeks 177 = .ok (.iaload, 1) := by decide +kernel
theorem dX12_seeks_178 : decode cX12_seeks 178 = .ok (.istore 10, 2) := by decide +kernel
theorem dX12_seeks_180 : decode cX12_seeks 180 = .ok (.iload 10, 2) := by decide +kernel
theorem dX12_seeks_182 : decode cX12_seeks 182 = .ok (.bipush 13, 2) := by decide +kernel
theorem dX12_seeks_184 : decode cX12_seeks 184 = .ok (.if_icmp .ge 12, 3) := by decide +kernel
theorem dX12_seeks_187 : decode cX12_seeks 187 = .ok (.aload_n 0, 1) := by decide +kernel
theorem dX12_seeks_188 : decode cX12_seeks 188 = .ok (.iload 10, 2) := by decide +kernel
theorem dX12_seeks_190 : decode cX12_seeks 190 = .ok (.putfield 492, 3) := by decide +kernel
theorem dX12_seeks_193 : decode cX12_seeks 193 = .ok (.goto 87, 3) := by decide +kernel
theorem dX12_seeks_196 : decode cX12_seeks 196 = .ok (.aload_n 0, 1) := by decide +kernel
theorem dX12_seeks_197 : decode cX12_seeks 197 = .ok (.iload_n 1, 1) := by decide +kernel
theorem dX12_seeks_198 : decode cX12_seeks 198 = .ok (.iload_n 2, 1) := by decide +kernel
theorem dX12_seeks_199 : decode cX12_seeks 199 = .ok (.iload_n 3, 1) := by decide +kernel
theorem dX12_seeks_200 : decode cX12_seeks 200 = .ok (.iload 10, 2) := by decide +kernel
theorem dX12_seeks_202 : decode cX12_seeks 202 = .ok (.bipush 13, 2) := by decide +kernel
theorem dX12_seeks_204 : decode cX12_seeks 204 = .ok (.idiv, 1) := by decide +kernel
theorem dX12_seeks_205 : decode cX12_seeks 205 = .ok (.invokevirtual 495, 3) := by decide +kernel
theorem dX12_seeks_208 : decode cX12_seeks 208 = .ok (.aload_n 0, 1) := by decide +kernel
theorem dX12_seeks_209 : decode cX12_seeks 209 = .ok (.getfield 482, 3) := by decide +kernel
theorem dX12_seeks_212 : decode cX12_seeks 212 = .ok (.ifCond .lt 18, 3) := by decide +kernel
theorem dX12_seeks_215 : decode cX12_seeks 215 = .ok (.aload_n 0, 1) := by decide +kernel
theorem dX12_seeks_216 : decode cX12_seeks 216 = .ok (.aload_n 0, 1) := by decide +kernel
theorem dX12_seeks_217 : decode cX12_seeks 217 = .ok (.getfield 482, 3) := by decide +kernel
theorem dX12_seeks_220 : decode cX12_seeks 220 = .ok (.iload_n 2, 1) := by decide +kernel
theorem dX12_seeks_221 : decode cX12_seeks 221 = .ok (.iload_n 3, 1) := by decide +kernel
theorem dX12_seeks_222 : decode cX12_seeks 222 = .ok (.iload 10, 2) := by decide +kernel
theorem dX12_seeks_224 : decode cX12_seeks 224 = .ok (.bipush 13, 2) := by decide +kernel
theorem dX12_seeks_226 : decode cX12_seeks 226 = .ok (.irem, 1) := by decide +kernel
theorem dX12_seeks_227 : decode cX12_seeks 227 = .ok (.invokevirtual 495, 3) := by decide +kernel
theorem dX12_seeks_230 : decode cX12_seeks 230 = .ok (.aload_n 0, 1) := by decide +kernel
theorem dX12_seeks_231 : decode cX12_seeks 231 = .ok (.iconst 0, 1) := by decide +kernel
theorem dX12_seeks_232 : decode cX12_seeks 232 = .ok (.putfield 489, 3) := by decide +kernel
theorem dX12_seeks_235 : decode cX12_seeks 235 = .ok (.aload_n 0, 1) := by decide +kernel
theorem dX12_seeks_236 : decode cX12_seeks 236 = .ok (.iload 10, 2) := by decide +kernel
theorem dX12_seeks_238 : decode cX12_seeks 238 = .ok (.iload_n 1, 1) := by decide +kernel
theorem dX12_seeks_239 : decode cX12_seeks 239 = .ok (.iload_n 2, 1) := by decide +kernel
theorem dX12_seeks_240 : decode cX12_seeks 240 = .ok (.iload_n 3, 1) := by decide +kernel
theorem dX12_seeks_241 : decode cX12_seeks 241 = .ok (.iload 4, 2) := by decide +kernel
theorem dX12_seeks_243 : decode cX12_seeks 243 = .ok (.iload 8, 2) := by decide +kernel
theorem dX12_seeks_245 : decode cX12_seeks 245 = .ok (.invokevirtual 498, 3) := by decide +kernel
theorem dX12_seeks_248 : decode cX12_seeks 248 = .ok (.aload_n 0, 1) := by decide +kernel
theorem dX12_seeks_249 : decode cX12_seeks 249 = .ok (.getfield 482, 3) := by decide +kernel
theorem dX12_seeks_252 : decode cX12_seeks 252 = .ok (.ifCond .lt 19, 3) := by decide +kernel
theorem dX12_seeks_255 : decode cX12_seeks 255 = .ok (.aload_n 0, 1) := by decide +kernel
theorem dX12_seeks_256 : decode cX12_seeks 256 = .ok (.iload 10, 2) := by decide +kernel
theorem dX12_seeks_258 : decode cX12_seeks 258 = .ok (.aload_n 0, 1) := by decide +kernel
theorem dX12_seeks_259 : decode cX12_seeks 259 = .ok (.getfield 482, 3) := by decide +kernel
theorem dX12_seeks_262 : decode cX12_seeks 262 = .ok (.iload_n 2, 1) := by decide +kernel
theorem dX12_seeks_263 : decode cX12_seeks 263 = .ok (.iload_n 3, 1) := by decide +kernel
theorem dX12_seeks_264 : decode cX12_seeks 264 = .ok (.iload 4, 2) := by decide +kernel
theorem dX12_seeks_266 : decode cX12_seeks 266 = .ok (.iload 8, 2) := by decide +kernel
theorem dX12_seeks_268 : decode cX12_seeks 268 = .ok (.invokevirtual 498, 3) := by decide +kernel
theorem dX12_seeks_271 : decode cX12_seeks 271 = .ok (.iload 8, 2) := by decide +kernel
theorem dX12_seeks_273 : decode cX12_seeks 273 = .ok (.aload_n 0, 1) := by decide +kernel
theorem dX12_seeks_274 : decode cX12_seeks 274 = .ok (.getfield 489, 3) := by decide +kernel
theorem dX12_seeks_277 : decode cX12_seeks 277 = .ok (.iadd, 1) := by decide +kernel
theorem dX12_seeks_278 : decode cX12_seeks 278 = .ok (.istore 8, 2) := by decide +kernel
theorem dX12_seeks_280 : decode cX12_seeks 280 = .ok (.iinc 9 1, 3) := by decide +kernel
theorem dX12_seeks_283 : decode cX12_seeks 283 = .ok (.goto (-126), 3) := by decide +kernel
theorem dX12_seeks_286 : decode cX12_seeks 286 = .ok (.aload_n 0, 1) := by decide +kernel
theorem dX12_seeks_287 : decode cX12_seeks 287 = .ok (.iload_n 1, 1) := by decide +kernel
theorem dX12_seeks_288 : decode cX12_seeks 288 = .ok (.iload_n 2, 1) := by decide +kernel
theorem dX12_seeks_289 : decode cX12_seeks 289 = .ok (.iload_n 3, 1) := by decide +kernel
theorem dX12_seeks_290 : decode cX12_seeks 290 = .ok (.iload 5, 2) := by decide +kernel
theorem dX12_seeks_292 : decode cX12_seeks 292 = .ok (.invokevirtual 495, 3) := by decide +kernel
theorem dX12_seeks_295 : decode cX12_seeks 295 = .ok (.aload_n 0, 1) := by decide +kernel
theorem dX12_seeks_296 : decode cX12_seeks 296 = .ok (.getfield 482, 3) := by decide +kernel
theorem dX12_seeks_299 : decode cX12_seeks 299 = .ok (.ifCond .lt 15, 3) := by decide +kernel
theorem dX12_seeks_302 : decode cX12_seeks 302 = .ok (.aload_n 0, 1) := by decide +kernel
theorem dX12_seeks_303 : decode cX12_seeks 303 = .ok (.aload_n 0, 1) := by decide +kernel
theorem dX12_seeks_304 : decode cX12_seeks 304 = .ok (.getfield 482, 3) := by decide +kernel
theorem dX12_seeks_307 : decode cX12_seeks 307 = .ok (.iload_n 2, 1) := by decide +kernel
theorem dX12_seeks_308 : decode cX12_seeks 308 = .ok (.iload_n 3, 1) := by decide +kernel
theorem dX12_seeks_309 : decode cX12_seeks 309 = .ok (.iload 6, 2) := by decide +kernel
theorem dX12_seeks_311 : decode cX12_seeks 311 = .ok (.invokevirtual 495, 3) := by decide +kernel
theorem dX12_seeks_314 : decode cX12_seeks 314 = .ok (.aload_n 0, 1) := by decide +kernel
theorem dX12_seeks_315 : decode cX12_seeks 315 = .ok (.getfield 492, 3) := by decide +kernel
theorem dX12_seeks_318 : decode cX12_seeks 318 = .ok (.ifCond .ge 7, 3) := by decide +kernel
theorem dX12_seeks_321 : decode cX12_seeks 321 = .ok (.iconst (-1), 1) := by decide +kernel
theorem dX12_seeks_322 : decode cX12_seeks 322 = .ok (.goto 12, 3) := by decide +kernel
theorem dX12_seeks_325 : decode cX12_seeks 325 = .ok (.aload_n 0, 1) := by decide +kernel
theorem dX12_seeks_326 : decode cX12_seeks 326 = .ok (.getfield 161, 3) := by decide +kernel
theorem dX12_seeks_329 : decode cX12_seeks 329 = .ok (.aload_n 0, 1) := by decide +kernel
theorem dX12_seeks_330 : decode cX12_seeks 330 = .ok (.getfield 492, 3) := by decide +kernel
theorem dX12_seeks_333 : decode cX12_seeks 333 = .ok (.iaload, 1) := by decide +kernel
theorem dX12_seeks_334 : decode cX12_seeks 334 = .ok (.ireturn, 1) := by decide +kernel
theorem dX12_sly_0 : decode cX12_sly 0 = .ok (.aload_n 0, 1) := by decide +kernel
theorem dX12_sly_1 : decode cX12_sly 1 = .ok (.iconst 0, 1) := by decide +kernel
theorem dX12_sly_2 : decode cX12_sly 2 = .ok (.putfield 218, 3) := by decide +kernel
theorem dX12_sly_5 : decode cX12_sly 5 = .ok (.aload_n 0, 1) := by decide +kernel
theorem dX12_sly_6 : decode cX12_sly 6 = .ok (.iload_n 1, 1) := by decide +kernel
theorem dX12_sly_7 : decode cX12_sly 7 = .ok (.iload_n 2, 1) := by decide +kernel
theorem dX12_sly_8 : decode cX12_sly 8 = .ok (.iload_n 3, 1) := by decide +kernel
theorem dX12_sly_9 : decode cX12_sly 9 = .ok (.iload 4, 2) := by decide +kernel
theorem dX12_sly_11 : decode cX12_sly 11 = .ok (.invokevirtual 502, 3) := by decide +kernel
theorem dX12_sly_14 : decode cX12_sly 14 = .ok (.ifCond .ne 5, 3) := by decide +kernel
theorem dX12_sly_17 : decode cX12_sly 17 = .ok (.iconst (-1), 1) := by decide +kernel
theorem dX12_sly_18 : decode cX12_sly 18 = .ok (.ireturn, 1) := by decide +kernel
theorem dX12_sly_19 : decode cX12_sly 19 = .ok (.aload_n 0, 1) := by decide +kernel
theorem dX12_sly_20 : decode cX12_sly 20 = .ok (.iconst 0, 1) := by decide +kernel
theorem dX12_sly_21 : decode cX12_sly 21 = .ok (.putfield 434, 3) := by decide +kernel
theorem dX12_sly_24 : decode cX12_sly 24 = .ok (.aload_n 0, 1) := by decide +kernel
theorem dX12_sly_25 : decode cX12_sly 25 = .ok (.iload_n 1, 1) := by decide +kernel
theorem dX12_sly_26 : decode cX12_sly 26 = .ok (.iload_n 2, 1) := by decide +kernel
theorem dX12_sly_27 : decode cX12_sly 27 = .ok (.iload_n 3, 1) := by decide +kernel
theorem dX12_sly_28 : decode cX12_sly 28 = .ok (.iload 4, 2) := by decide +kernel
theorem dX12_sly_30 : decode cX12_sly 30 = .ok (.invokevirtual 506, 3) := by decide +kernel
theorem dX12_sly_33 : decode cX12_sly 33 = .ok (.ireturn, 1) := by decide +kernel
theorem dX12_slyRow_0 : decode cX12_slyRow 0 = .ok (.aload_n 0, 1) := by decide +kernel
theorem dX12_slyRow_1 : decode cX12_slyRow 1 = .ok (.iconst 0, 1) := by decide +kernel
theorem dX12_slyRow_2 : decode cX12_slyRow 2 = .ok (.putfield 218, 3) := by decide +kernel
theorem dX12_slyRow_5 : decode cX12_slyRow 5 = .ok (.aload_n 0, 1) := by decide +kernel
theorem dX12_slyRow_6 : decode cX12_slyRow 6 = .ok (.iload_n 1, 1) := by decide +kernel
theorem dX12_slyRow_7 : decode cX12_slyRow 7 = .ok (.iload_n 2, 1) := by decide +kernel
theorem dX12_slyRow_8 : decode cX12_slyRow 8 = .ok (.iload_n 3, 1) := by decide +kernel
theorem dX12_slyRow_9 : decode cX12_slyRow 9 = .ok (.iload 4, 2) := by decide +kernel
theorem dX12_slyRow_11 : decode cX12_slyRow 11 = .ok (.invokevirtual 502, 3) := by decide +kernel
theorem dX12_slyRow_14 : decode cX12_slyRow 14 = .ok (.ifCond .eq 13, 3) := by decide +kernel
theorem dX12_slyRow_17 : decode cX12_slyRow 17 = .ok (.iload 6, 2) := by decide +kernel
theorem dX12_slyRow_19 : decode cX12_slyRow 19 = .ok (.iconst 0, 1) := by decide +kernel
theorem dX12_slyRow_20 : decode cX12_slyRow 20 = .ok (.iconst 2, 1) := by decide +kernel
theorem dX12_slyRow_21 : decode cX12_slyRow 21 = .ok (.invokestatic 222, 3) := by decide +kernel
theorem dX12_slyRow_24 : decode cX12_slyRow 24 = .ok (.ifCond .ne 5, 3) := by decide +kernel
theorem dX12_slyRow_27 : decode cX12_slyRow 27 = .ok (.iconst (-1), 1) := by decide +kernel
theorem dX12_slyRow_28 : decode cX12_slyRow 28 = .ok (.ireturn, 1) := by decide +kernel
theorem dX12_slyRow_29 : decode cX12_slyRow 29 = .ok (.aload_n 0, 1) := by decide +kernel
theorem dX12_slyRow_30 : decode cX12_slyRow 30 = .ok (.iconst 0, 1) := by decide +kernel
theorem dX12_slyRow_31 : decode cX12_slyRow 31 = .ok (.putfield 434, 3) := by decide +kernel
theorem dX12_slyRow_34 : decode cX12_slyRow 34 = .ok (.aload_n 0, 1) := by decide +kernel
theorem dX12_slyRow_35 : decode cX12_slyRow 35 = .ok (.iload_n 1, 1) := by decide +kernel
theorem dX12_slyRow_36 : decode cX12_slyRow 36 = .ok (.iload_n 2, 1) := by decide +kernel
theorem dX12_slyRow_37 : decode cX12_slyRow 37 = .ok (.iload_n 3, 1) := by decide +kernel
theorem dX12_slyRow_38 : decode cX12_slyRow 38 = .ok (.iload 4, 2) := by decide +kernel
theorem dX12_slyRow_40 : decode cX12_slyRow 40 = .ok (.invokevirtual 506, 3) := by decide +kernel
theorem dX12_slyRow_43 : decode cX12_slyRow 43 = .ok (.istore 7, 2) := by decide +kernel
theorem dX12_slyRow_45 : decode cX12_slyRow 45 = .ok (.iload 5, 2) := by decide +kernel
theorem dX12_slyRow_47 : decode cX12_slyRow 47 = .ok (.ifCond .lt 10, 3) := by decide +kernel
theorem dX12_slyRow_50 : decode cX12_slyRow 50 = .ok (.iload 5, 2) := by decide +kernel
theorem dX12_slyRow_52 : decode cX12_slyRow 52 = .ok (.iload 7, 2) := by decide +kernel
theorem dX12_slyRow_54 : decode cX12_slyRow 54 = .ok (.if_icmp .lt 5, 3) := by decide +kernel
theorem dX12_slyRow_57 : decode cX12_slyRow 57 = .ok (.iconst (-1), 1) := by decide +kernel
theorem dX12_slyRow_58 : decode cX12_slyRow 58 = .ok (.ireturn, 1) := by decide +kernel
theorem dX12_slyRow_59 : decode cX12_slyRow 59 = .ok (.aload_n 0, 1) := by decide +kernel
theorem dX12_slyRow_60 : decode cX12_slyRow 60 = .ok (.getfield 492, 3) := by decide +kernel
theorem dX12_slyRow_63 : decode cX12_slyRow 63 = .ok (.istore 8, 2) := by decide +kernel
theorem dX12_slyRow_65 : decode cX12_slyRow 65 = .ok (.iload 7, 2) := by decide +kernel
theorem dX12_slyRow_67 : decode cX12_slyRow 67 = .ok (.iconst 1, 1) := by decide +kernel
theorem dX12_slyRow_68 : decode cX12_slyRow 68 = .ok (.isub, 1) := by decide +kernel
theorem dX12_slyRow_69 : decode cX12_slyRow 69 = .ok (.istore 9, 2) := by decide +kernel
theorem dX12_slyRow_71 : decode cX12_slyRow 71 = .ok (.iload 9, 2) := by decide +kernel
theorem dX12_slyRow_73 : decode cX12_slyRow 73 = .ok (.iload 5, 2) := by decide +kernel
theorem dX12_slyRow_75 : decode cX12_slyRow 75 = .ok (.if_icmp .le 18, 3) := by decide +kernel
theorem dX12_slyRow_78 : decode cX12_slyRow 78 = .ok (.aload_n 0, 1) := by decide +kernel
theorem dX12_slyRow_79 : decode cX12_slyRow 79 = .ok (.getfield 155, 3) := by decide +kernel
theorem dX12_slyRow_82 : decode cX12_slyRow 82 = .ok (.iload 8, 2) := by decide +kernel
theorem dX12_slyRow_84 : decode cX12_slyRow 84 = .ok (.iaload, 1) := by decide +kernel
theorem dX12_slyRow_85 : decode cX12_slyRow 85 = .ok (.istore 8, 2) := by decide +kernel
theorem dX12_slyRow_87 : decode cX12_slyRow 87 = .ok (.iinc 9 (-1), 3) := by decide +kernel
theorem dX12_slyRow_90 : decode cX12_slyRow 90 = .ok (.goto (-19), 3) := by decide +kernel
theorem dX12_slyRow_93 : decode cX12_slyRow 93 = .ok (.aload_n 0, 1) := by decide +kernel
theorem dX12_slyRow_94 : decode cX12_slyRow 94 = .ok (.getfield 158, 3) := by decide +kernel
theorem dX12_slyRow_97 : decode cX12_slyRow 97 = .ok (.iload 8, 2) := by decide +kernel
theorem dX12_slyRow_99 : decode cX12_slyRow 99 = .ok (.iaload, 1) := by decide +kernel
theorem dX12_slyRow_100 : decode cX12_slyRow 100 = .ok (.istore 9, 2) := by decide +kernel
theorem dX12_slyRow_102 : decode cX12_slyRow 102 = .ok (.iload 6, 2) := by decide +kernel
theorem dX12_slyRow_104 : decode cX12_slyRow 104 = .ok (.ifCond .ne 21, 3) := by decide +kernel
theorem dX12_slyRow_107 : decode cX12_slyRow 107 = .ok (.iload 9, 2) := by decide +kernel
theorem dX12_slyRow_109 : decode cX12_slyRow 109 = .ok (.bipush 36, 2) := by decide +kernel
theorem dX12_slyRow_111 : decode cX12_slyRow 111 = .ok (.if_icmp .ge 7, 3) := by decide +kernel
theorem dX12_slyRow_114 : decode cX12_slyRow 114 = .ok (.iload_n 1, 1) := by decide +kernel
theorem dX12_slyRow_115 : decode cX12_slyRow 115 = .ok (.goto 32, 3) := by decide +kernel
theorem dX12_slyRow_118 : decode cX12_slyRow 118 = .ok (.aload_n 0, 1) := by decide +kernel
theorem dX12_slyRow_119 : decode cX12_slyRow 119 = .ok (.getfield 482, 3) := by decide +kernel
theorem dX12_slyRow_122 : decode cX12_slyRow 122 = .ok (.goto 25, 3) := by decide +kernel
theorem dX12_slyRow_125 : decode cX12_slyRow 125 = .ok (.iload 6, 2) := by decide +kernel
theorem dX12_slyRow_127 : decode cX12_slyRow 127 = .ok (.iconst 1, 1) := by decide +kernel
theorem dX12_slyRow_128 : decode cX12_slyRow 128 = .ok (.if_icmp .ne 15, 3) := by decide +kernel
theorem dX12_slyRow_131 : decode cX12_slyRow 131 = .ok (.iload 9, 2) := by decide +kernel
theorem dX12_slyRow_133 : decode cX12_slyRow 133 = .ok (.bipush 36, 2) := by decide +kernel
theorem dX12_slyRow_135 : decode cX12_slyRow 135 = .ok (.irem, 1) := by decide +kernel
theorem dX12_slyRow_136 : decode cX12_slyRow 136 = .ok (.iconst 3, 1) := by decide +kernel
theorem dX12_slyRow_137 : decode cX12_slyRow 137 = .ok (.idiv, 1) := by decide +kernel
theorem dX12_slyRow_138 : decode cX12_slyRow 138 = .ok (.iconst 1, 1) := by decide +kernel
theorem dX12_slyRow_139 : decode cX12_slyRow 139 = .ok (.iadd, 1) := by decide +kernel
theorem dX12_slyRow_140 : decode cX12_slyRow 140 = .ok (.goto 7, 3) := by decide +kernel
theorem dX12_slyRow_143 : decode cX12_slyRow 143 = .ok (.iload 9, 2) := by decide +kernel
theorem dX12_slyRow_145 : decode cX12_slyRow 145 = .ok (.iconst 3, 1) := by decide +kernel
theorem dX12_slyRow_146 : decode cX12_slyRow 146 = .ok (.irem, 1) := by decide +kernel
theorem dX12_slyRow_147 : decode cX12_slyRow 147 = .ok (.ireturn, 1) := by decide +kernel
theorem dX12_bits_0 : decode cX12_bits 0 = .ok (.iconst 0, 1) := by decide +kernel
theorem dX12_bits_1 : decode cX12_bits 1 = .ok (.istore_n 1, 1) := by decide +kernel
theorem dX12_bits_2 : decode cX12_bits 2 = .ok (.iconst 0, 1) := by decide +kernel
theorem dX12_bits_3 : decode cX12_bits 3 = .ok (.istore_n 2, 1) := by decide +kernel
theorem dX12_bits_4 : decode cX12_bits 4 = .ok (.iload_n 2, 1) := by decide +kernel
theorem dX12_bits_5 : decode cX12_bits 5 = .ok (.bipush 12, 2) := by decide +kernel
