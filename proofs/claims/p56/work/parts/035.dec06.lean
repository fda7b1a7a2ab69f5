theorem dL_examiners_90 : decode cL_examiners 90 = .ok (.goto 4, 3) := by decide +kernel
theorem dL_examiners_93 : decode cL_examiners 93 = .ok (.iconst 0, 1) := by decide +kernel
theorem dL_examiners_94 : decode cL_examiners 94 = .ok (.iadd, 1) := by decide +kernel
theorem dL_examiners_95 : decode cL_examiners 95 = .ok (.istore 5, 2) := by decide +kernel
theorem dL_examiners_97 : decode cL_examiners 97 = .ok (.aload_n 0, 1) := by decide +kernel
theorem dL_examiners_98 : decode cL_examiners 98 = .ok (.iload_n 3, 1) := by decide +kernel
theorem dL_examiners_99 : decode cL_examiners 99 = .ok (.invokestatic 256, 3) := by decide +kernel
theorem dL_examiners_102 : decode cL_examiners 102 = .ok (.aload_n 0, 1) := by decide +kernel
theorem dL_examiners_103 : decode cL_examiners 103 = .ok (.iload 6, 2) := by decide +kernel
theorem dL_examiners_105 : decode cL_examiners 105 = .ok (.invokestatic 247, 3) := by decide +kernel
theorem dL_examiners_108 : decode cL_examiners 108 = .ok (.if_icmp .ne 7, 3) := by decide +kernel
theorem dL_examiners_111 : decode cL_examiners 111 = .ok (.iconst 1, 1) := by decide +kernel
theorem dL_examiners_112 : decode cL_examiners 112 = .ok (.goto 4, 3) := by decide +kernel
theorem dL_examiners_115 : decode cL_examiners 115 = .ok (.iconst 0, 1) := by decide +kernel
theorem dL_examiners_116 : decode cL_examiners 116 = .ok (.istore 9, 2) := by decide +kernel
theorem dL_examiners_118 : decode cL_examiners 118 = .ok (.iload 9, 2) := by decide +kernel
theorem dL_examiners_120 : decode cL_examiners 120 = .ok (.ifCond .eq 14, 3) := by decide +kernel
theorem dL_examiners_123 : decode cL_examiners 123 = .ok (.aload_n 0, 1) := by decide +kernel
theorem dL_examiners_124 : decode cL_examiners 124 = .ok (.iload_n 3, 1) := by decide +kernel
theorem dL_examiners_125 : decode cL_examiners 125 = .ok (.iload 6, 2) := by decide +kernel
theorem dL_examiners_127 : decode cL_examiners 127 = .ok (.invokestatic 258, 3) := by decide +kernel
theorem dL_examiners_130 : decode cL_examiners 130 = .ok (.iconst 1, 1) := by decide +kernel
theorem dL_examiners_131 : decode cL_examiners 131 = .ok (.if_icmp .eq 86, 3) := by decide +kernel
theorem dL_examiners_134 : decode cL_examiners 134 = .ok (.aload_n 0, 1) := by decide +kernel
theorem dL_examiners_135 : decode cL_examiners 135 = .ok (.iload_n 3, 1) := by decide +kernel
theorem dL_examiners_136 : decode cL_examiners 136 = .ok (.iload 6, 2) := by decide +kernel
theorem dL_examiners_138 : decode cL_examiners 138 = .ok (.invokestatic 260, 3) := by decide +kernel
theorem dL_examiners_141 : decode cL_examiners 141 = .ok (.iconst 1, 1) := by decide +kernel
theorem dL_examiners_142 : decode cL_examiners 142 = .ok (.if_icmp .ne 13, 3) := by decide +kernel
theorem dL_examiners_145 : decode cL_examiners 145 = .ok (.aload_n 0, 1) := by decide +kernel
theorem dL_examiners_146 : decode cL_examiners 146 = .ok (.iload_n 3, 1) := by decide +kernel
theorem dL_examiners_147 : decode cL_examiners 147 = .ok (.iload 6, 2) := by decide +kernel
theorem dL_examiners_149 : decode cL_examiners 149 = .ok (.invokestatic 258, 3) := by decide +kernel
theorem dL_examiners_152 : decode cL_examiners 152 = .ok (.ifCond .eq 65, 3) := by decide +kernel
theorem dL_examiners_155 : decode cL_examiners 155 = .ok (.iload 7, 2) := by decide +kernel
theorem dL_examiners_157 : decode cL_examiners 157 = .ok (.ifCond .eq 13, 3) := by decide +kernel
theorem dL_examiners_160 : decode cL_examiners 160 = .ok (.aload_n 0, 1) := by decide +kernel
theorem dL_examiners_161 : decode cL_examiners 161 = .ok (.iload_n 3, 1) := by decide +kernel
theorem dL_examiners_162 : decode cL_examiners 162 = .ok (.iload 6, 2) := by decide +kernel
theorem dL_examiners_164 : decode cL_examiners 164 = .ok (.invokestatic 260, 3) := by decide +kernel
theorem dL_examiners_167 : decode cL_examiners 167 = .ok (.ifCond .eq 50, 3) := by decide +kernel
theorem dL_examiners_170 : decode cL_examiners 170 = .ok (.iload 8, 2) := by decide +kernel
theorem dL_examiners_172 : decode cL_examiners 172 = .ok (.ifCond .eq 28, 3) := by decide +kernel
theorem dL_examiners_175 : decode cL_examiners 175 = .ok (.iload 7, 2) := by decide +kernel
theorem dL_examiners_177 : decode cL_examiners 177 = .ok (.ifCond .ne 40, 3) := by decide +kernel
theorem dL_examiners_180 : decode cL_examiners 180 = .ok (.aload_n 0, 1) := by decide +kernel
theorem dL_examiners_181 : decode cL_examiners 181 = .ok (.iload_n 3, 1) := by decide +kernel
theorem dL_examiners_182 : decode cL_examiners 182 = .ok (.iload 6, 2) := by decide +kernel
theorem dL_examiners_184 : decode cL_examiners 184 = .ok (.invokestatic 260, 3) := by decide +kernel
theorem dL_examiners_187 : decode cL_examiners 187 = .ok (.ifCond .eq 30, 3) := by decide +kernel
theorem dL_examiners_190 : decode cL_examiners 190 = .ok (.aload_n 0, 1) := by decide +kernel
theorem dL_examiners_191 : decode cL_examiners 191 = .ok (.iload 6, 2) := by decide +kernel
theorem dL_examiners_193 : decode cL_examiners 193 = .ok (.invokevirtual 59, 3) := by decide +kernel
theorem dL_examiners_196 : decode cL_examiners 196 = .ok (.iconst 3, 1) := by decide +kernel
theorem dL_examiners_197 : decode cL_examiners 197 = .ok (.if_icmp .eq 20, 3) := by decide +kernel
theorem dL_examiners_200 : decode cL_examiners 200 = .ok (.iload 7, 2) := by decide +kernel
theorem dL_examiners_202 : decode cL_examiners 202 = .ok (.ifCond .ne 17, 3) := by decide +kernel
theorem dL_examiners_205 : decode cL_examiners 205 = .ok (.aload_n 0, 1) := by decide +kernel
theorem dL_examiners_206 : decode cL_examiners 206 = .ok (.iload_n 3, 1) := by decide +kernel
theorem dL_examiners_207 : decode cL_examiners 207 = .ok (.iload 6, 2) := by decide +kernel
theorem dL_examiners_209 : decode cL_examiners 209 = .ok (.invokestatic 194, 3) := by decide +kernel
theorem dL_examiners_212 : decode cL_examiners 212 = .ok (.bipush (-13), 2) := by decide +kernel
theorem dL_examiners_214 : decode cL_examiners 214 = .ok (.if_icmp .eq 5, 3) := by decide +kernel
theorem dL_examiners_217 : decode cL_examiners 217 = .ok (.iconst 0, 1) := by decide +kernel
theorem dL_examiners_218 : decode cL_examiners 218 = .ok (.ireturn, 1) := by decide +kernel
theorem dL_examiners_219 : decode cL_examiners 219 = .ok (.iinc 6 1, 3) := by decide +kernel
theorem dL_examiners_222 : decode cL_examiners 222 = .ok (.goto (-199), 3) := by decide +kernel
theorem dL_examiners_225 : decode cL_examiners 225 = .ok (.iload_n 2, 1) := by decide +kernel
theorem dL_examiners_226 : decode cL_examiners 226 = .ok (.iload 5, 2) := by decide +kernel
theorem dL_examiners_228 : decode cL_examiners 228 = .ok (.iadd, 1) := by decide +kernel
theorem dL_examiners_229 : decode cL_examiners 229 = .ok (.istore_n 2, 1) := by decide +kernel
theorem dL_examiners_230 : decode cL_examiners 230 = .ok (.aload_n 0, 1) := by decide +kernel
theorem dL_examiners_231 : decode cL_examiners 231 = .ok (.iload_n 3, 1) := by decide +kernel
theorem dL_examiners_232 : decode cL_examiners 232 = .ok (.invokestatic 262, 3) := by decide +kernel
theorem dL_examiners_235 : decode cL_examiners 235 = .ok (.iload 4, 2) := by decide +kernel
theorem dL_examiners_237 : decode cL_examiners 237 = .ok (.if_icmp .ne 12, 3) := by decide +kernel
theorem dL_examiners_240 : decode cL_examiners 240 = .ok (.iload 4, 2) := by decide +kernel
theorem dL_examiners_242 : decode cL_examiners 242 = .ok (.iload 5, 2) := by decide +kernel
theorem dL_examiners_244 : decode cL_examiners 244 = .ok (.iadd, 1) := by decide +kernel
theorem dL_examiners_245 : decode cL_examiners 245 = .ok (.iconst 4, 1) := by decide +kernel
theorem dL_examiners_246 : decode cL_examiners 246 = .ok (.if_icmp .le 5, 3) := by decide +kernel
theorem dL_examiners_249 : decode cL_examiners 249 = .ok (.iconst 0, 1) := by decide +kernel
theorem dL_examiners_250 : decode cL_examiners 250 = .ok (.ireturn, 1) := by decide +kernel
theorem dL_examiners_251 : decode cL_examiners 251 = .ok (.iinc 3 1, 3) := by decide +kernel
theorem dL_examiners_254 : decode cL_examiners 254 = .ok (.goto (-245), 3) := by decide +kernel
theorem dL_examiners_257 : decode cL_examiners 257 = .ok (.aload_n 0, 1) := by decide +kernel
theorem dL_examiners_258 : decode cL_examiners 258 = .ok (.invokevirtual 264, 3) := by decide +kernel
theorem dL_examiners_261 : decode cL_examiners 261 = .ok (.iload_n 2, 1) := by decide +kernel
theorem dL_examiners_262 : decode cL_examiners 262 = .ok (.if_icmp .ne 116, 3) := by decide +kernel
theorem dL_examiners_265 : decode cL_examiners 265 = .ok (.aload_n 0, 1) := by decide +kernel
theorem dL_examiners_266 : decode cL_examiners 266 = .ok (.invokevirtual 267, 3) := by decide +kernel
theorem dL_examiners_269 : decode cL_examiners 269 = .ok (.iload_n 2, 1) := by decide +kernel
theorem dL_examiners_270 : decode cL_examiners 270 = .ok (.if_icmp .ne 108, 3) := by decide +kernel
theorem dL_examiners_273 : decode cL_examiners 273 = .ok (.aload_n 0, 1) := by decide +kernel
theorem dL_examiners_274 : decode cL_examiners 274 = .ok (.iload_n 1, 1) := by decide +kernel
theorem dL_examiners_275 : decode cL_examiners 275 = .ok (.invokestatic 256, 3) := by decide +kernel
theorem dL_examiners_278 : decode cL_examiners 278 = .ok (.bipush (-11), 2) := by decide +kernel
theorem dL_examiners_280 : decode cL_examiners 280 = .ok (.if_icmp .ne 98, 3) := by decide +kernel
theorem dL_examiners_283 : decode cL_examiners 283 = .ok (.aload_n 0, 1) := by decide +kernel
theorem dL_examiners_284 : decode cL_examiners 284 = .ok (.iload_n 1, 1) := by decide +kernel
theorem dL_examiners_285 : decode cL_examiners 285 = .ok (.invokestatic 262, 3) := by decide +kernel
theorem dL_examiners_288 : decode cL_examiners 288 = .ok (.bipush (-11), 2) := by decide +kernel
theorem dL_examiners_290 : decode cL_examiners 290 = .ok (.if_icmp .ne 88, 3) := by decide +kernel
theorem dL_examiners_293 : decode cL_examiners 293 = .ok (.aload_n 0, 1) := by decide +kernel
theorem dL_examiners_294 : decode cL_examiners 294 = .ok (.iload_n 1, 1) := by decide +kernel
theorem dL_examiners_295 : decode cL_examiners 295 = .ok (.iconst 0, 1) := by decide +kernel
theorem dL_examiners_296 : decode cL_examiners 296 = .ok (.invokestatic 258, 3) := by decide +kernel
theorem dL_examiners_299 : decode cL_examiners 299 = .ok (.bipush (-11), 2) := by decide +kernel
theorem dL_examiners_301 : decode cL_examiners 301 = .ok (.if_icmp .ne 77, 3) := by decide +kernel
theorem dL_examiners_304 : decode cL_examiners 304 = .ok (.aload_n 0, 1) := by decide +kernel
theorem dL_examiners_305 : decode cL_examiners 305 = .ok (.iconst 0, 1) := by decide +kernel
theorem dL_examiners_306 : decode cL_examiners 306 = .ok (.iconst (-1), 1) := by decide +kernel
theorem dL_examiners_307 : decode cL_examiners 307 = .ok (.invokestatic 258, 3) := by decide +kernel
theorem dL_examiners_310 : decode cL_examiners 310 = .ok (.bipush (-11), 2) := by decide +kernel
theorem dL_examiners_312 : decode cL_examiners 312 = .ok (.if_icmp .ne 66, 3) := by decide +kernel
theorem dL_examiners_315 : decode cL_examiners 315 = .ok (.aload_n 0, 1) := by decide +kernel
theorem dL_examiners_316 : decode cL_examiners 316 = .ok (.iload_n 1, 1) := by decide +kernel
theorem dL_examiners_317 : decode cL_examiners 317 = .ok (.iconst 0, 1) := by decide +kernel
theorem dL_examiners_318 : decode cL_examiners 318 = .ok (.invokestatic 260, 3) := by decide +kernel
theorem dL_examiners_321 : decode cL_examiners 321 = .ok (.bipush (-11), 2) := by decide +kernel
theorem dL_examiners_323 : decode cL_examiners 323 = .ok (.if_icmp .ne 55, 3) := by decide +kernel
theorem dL_examiners_326 : decode cL_examiners 326 = .ok (.aload_n 0, 1) := by decide +kernel
theorem dL_examiners_327 : decode cL_examiners 327 = .ok (.iconst 0, 1) := by decide +kernel
theorem dL_examiners_328 : decode cL_examiners 328 = .ok (.aload_n 0, 1) := by decide +kernel
theorem dL_examiners_329 : decode cL_examiners 329 = .ok (.invokevirtual 224, 3) := by decide +kernel
theorem dL_examiners_332 : decode cL_examiners 332 = .ok (.invokestatic 227, 3) := by decide +kernel
theorem dL_examiners_335 : decode cL_examiners 335 = .ok (.bipush (-11), 2) := by decide +kernel
theorem dL_examiners_337 : decode cL_examiners 337 = .ok (.if_icmp .ne 41, 3) := by decide +kernel
theorem dL_examiners_340 : decode cL_examiners 340 = .ok (.aload_n 0, 1) := by decide +kernel
theorem dL_examiners_341 : decode cL_examiners 341 = .ok (.iload_n 1, 1) := by decide +kernel
theorem dL_examiners_342 : decode cL_examiners 342 = .ok (.iconst 0, 1) := by decide +kernel
theorem dL_examiners_343 : decode cL_examiners 343 = .ok (.invokestatic 194, 3) := by decide +kernel
theorem dL_examiners_346 : decode cL_examiners 346 = .ok (.bipush (-11), 2) := by decide +kernel
theorem dL_examiners_348 : decode cL_examiners 348 = .ok (.if_icmp .ne 30, 3) := by decide +kernel
theorem dL_examiners_351 : decode cL_examiners 351 = .ok (.aload_n 0, 1) := by decide +kernel
theorem dL_examiners_352 : decode cL_examiners 352 = .ok (.aload_n 0, 1) := by decide +kernel
theorem dL_examiners_353 : decode cL_examiners 353 = .ok (.invokevirtual 224, 3) := by decide +kernel
theorem dL_examiners_356 : decode cL_examiners 356 = .ok (.invokestatic 253, 3) := by decide +kernel
theorem dL_examiners_359 : decode cL_examiners 359 = .ok (.bipush (-11), 2) := by decide +kernel
theorem dL_examiners_361 : decode cL_examiners 361 = .ok (.if_icmp .ne 17, 3) := by decide +kernel
theorem dL_examiners_364 : decode cL_examiners 364 = .ok (.aload_n 0, 1) := by decide +kernel
theorem dL_examiners_365 : decode cL_examiners 365 = .ok (.iconst (-1), 1) := by decide +kernel
theorem dL_examiners_366 : decode cL_examiners 366 = .ok (.invokestatic 253, 3) := by decide +kernel
theorem dL_examiners_369 : decode cL_examiners 369 = .ok (.bipush (-11), 2) := by decide +kernel
theorem dL_examiners_371 : decode cL_examiners 371 = .ok (.if_icmp .ne 7, 3) := by decide +kernel
theorem dL_examiners_374 : decode cL_examiners 374 = .ok (.iconst 1, 1) := by decide +kernel
theorem dL_examiners_375 : decode cL_examiners 375 = .ok (.goto 4, 3) := by decide +kernel
theorem dL_examiners_378 : decode cL_examiners 378 = .ok (.iconst 0, 1) := by decide +kernel
theorem dL_examiners_379 : decode cL_examiners 379 = .ok (.ireturn, 1) := by decide +kernel
theorem dL_panels__0 : decode cL_panels_ 0 = .ok (.aload_n 0, 1) := by decide +kernel
theorem dL_panels__1 : decode cL_panels_ 1 = .ok (.invokevirtual 191, 3) := by decide +kernel
theorem dL_panels__4 : decode cL_panels_ 4 = .ok (.istore_n 1, 1) := by decide +kernel
theorem dL_panels__5 : decode cL_panels_ 5 = .ok (.iconst 0, 1) := by decide +kernel
theorem dL_panels__6 : decode cL_panels_ 6 = .ok (.istore_n 2, 1) := by decide +kernel
theorem dL_panels__7 : decode cL_panels_ 7 = .ok (.iload_n 2, 1) := by decide +kernel
theorem dL_panels__8 : decode cL_panels_ 8 = .ok (.aload_n 0, 1) := by decide +kernel
theorem dL_panels__9 : decode cL_panels_ 9 = .ok (.invokevirtual 224, 3) := by decide +kernel
theorem dL_panels__12 : decode cL_panels_ 12 = .ok (.if_icmp .ge 288, 3) := by decide +kernel
theorem dL_panels__15 : decode cL_panels_ 15 = .ok (.iconst 0, 1) := by decide +kernel
theorem dL_panels__16 : decode cL_panels_ 16 = .ok (.istore_n 3, 1) := by decide +kernel
theorem dL_panels__17 : decode cL_panels_ 17 = .ok (.iconst 0, 1) := by decide +kernel
theorem dL_panels__18 : decode cL_panels_ 18 = .ok (.istore 4, 2) := by decide +kernel
theorem dL_panels__20 : decode cL_panels_ 20 = .ok (.iload 4, 2) := by decide +kernel
theorem dL_panels__22 : decode cL_panels_ 22 = .ok (.iconst 1, 1) := by decide +kernel
theorem dL_panels__23 : decode cL_panels_ 23 = .ok (.iload_n 1, 1) := by decide +kernel
theorem dL_panels__24 : decode cL_panels_ 24 = .ok (.ishl, 1) := by decide +kernel
theorem dL_panels__25 : decode cL_panels_ 25 = .ok (.if_icmp .ge 135, 3) := by decide +kernel
theorem dL_panels__28 : decode cL_panels_ 28 = .ok (.iconst 0, 1) := by decide +kernel
theorem dL_panels__29 : decode cL_panels_ 29 = .ok (.istore 5, 2) := by decide +kernel
theorem dL_panels__31 : decode cL_panels_ 31 = .ok (.iload 4, 2) := by decide +kernel
theorem dL_panels__33 : decode cL_panels_ 33 = .ok (.invokestatic 270, 3) := by decide +kernel
theorem dL_panels__36 : decode cL_panels_ 36 = .ok (.iconst 3, 1) := by decide +kernel
theorem dL_panels__37 : decode cL_panels_ 37 = .ok (.if_icmp .ne 7, 3) := by decide +kernel
theorem dL_panels__40 : decode cL_panels_ 40 = .ok (.iconst 1, 1) := by decide +kernel
theorem dL_panels__41 : decode cL_panels_ 41 = .ok (.goto 4, 3) := by decide +kernel
theorem dL_panels__44 : decode cL_panels_ 44 = .ok (.iconst 0, 1) := by decide +kernel
theorem dL_panels__45 : decode cL_panels_ 45 = .ok (.istore 6, 2) := by decide +kernel
theorem dL_panels__47 : decode cL_panels_ 47 = .ok (.iconst 0, 1) := by decide +kernel
theorem dL_panels__48 : decode cL_panels_ 48 = .ok (.istore 7, 2) := by decide +kernel
theorem dL_panels__50 : decode cL_panels_ 50 = .ok (.iload 7, 2) := by decide +kernel
theorem dL_panels__52 : decode cL_panels_ 52 = .ok (.iload_n 1, 1) := by decide +kernel
theorem dL_panels__53 : decode cL_panels_ 53 = .ok (.if_icmp .ge 79, 3) := by decide +kernel
theorem dL_panels__56 : decode cL_panels_ 56 = .ok (.iload 4, 2) := by decide +kernel
theorem dL_panels__58 : decode cL_panels_ 58 = .ok (.iload 7, 2) := by decide +kernel
theorem dL_panels__60 : decode cL_panels_ 60 = .ok (.ishr, 1) := by decide +kernel
theorem dL_panels__61 : decode cL_panels_ 61 = .ok (.iconst 1, 1) := by decide +kernel
theorem dL_panels__62 : decode cL_panels_ 62 = .ok (.iand, 1) := by decide +kernel
theorem dL_panels__63 : decode cL_panels_ 63 = .ok (.iconst 1, 1) := by decide +kernel
theorem dL_panels__64 : decode cL_panels_ 64 = .ok (.if_icmp .ne 7, 3) := by decide +kernel
theorem dL_panels__67 : decode cL_panels_ 67 = .ok (.iconst 1, 1) := by decide +kernel
theorem dL_panels__68 : decode cL_panels_ 68 = .ok (.goto 4, 3) := by decide +kernel
theorem dL_panels__71 : decode cL_panels_ 71 = .ok (.iconst 0, 1) := by decide +kernel
theorem dL_panels__72 : decode cL_panels_ 72 = .ok (.istore 8, 2) := by decide +kernel
theorem dL_panels__74 : decode cL_panels_ 74 = .ok (.iload 6, 2) := by decide +kernel
theorem dL_panels__76 : decode cL_panels_ 76 = .ok (.ifCond .eq 22, 3) := by decide +kernel
theorem dL_panels__79 : decode cL_panels_ 79 = .ok (.iload 8, 2) := by decide +kernel
theorem dL_panels__81 : decode cL_panels_ 81 = .ok (.ifCond .eq 13, 3) := by decide +kernel
theorem dL_panels__84 : decode cL_panels_ 84 = .ok (.aload_n 0, 1) := by decide +kernel
theorem dL_panels__85 : decode cL_panels_ 85 = .ok (.iload 7, 2) := by decide +kernel
theorem dL_panels__87 : decode cL_panels_ 87 = .ok (.iload_n 2, 1) := by decide +kernel
theorem dL_panels__88 : decode cL_panels_ 88 = .ok (.invokestatic 196, 3) := by decide +kernel
theorem dL_panels__91 : decode cL_panels_ 91 = .ok (.ifCond .eq 7, 3) := by decide +kernel
theorem dL_panels__94 : decode cL_panels_ 94 = .ok (.iconst 1, 1) := by decide +kernel
theorem dL_panels__95 : decode cL_panels_ 95 = .ok (.goto 4, 3) := by decide +kernel
theorem dL_panels__98 : decode cL_panels_ 98 = .ok (.iconst 0, 1) := by decide +kernel
theorem dL_panels__99 : decode cL_panels_ 99 = .ok (.istore 6, 2) := by decide +kernel
theorem dL_panels__101 : decode cL_panels_ 101 = .ok (.iload 5, 2) := by decide +kernel
theorem dL_panels__103 : decode cL_panels_ 103 = .ok (.iload 8, 2) := by decide +kernel
theorem dL_panels__105 : decode cL_panels_ 105 = .ok (.ifCond .eq 17, 3) := by decide +kernel
theorem dL_panels__108 : decode cL_panels_ 108 = .ok (.iconst 1, 1) := by decide +kernel
theorem dL_panels__109 : decode cL_panels_ 109 = .ok (.aload_n 0, 1) := by decide +kernel
theorem dL_panels__110 : decode cL_panels_ 110 = .ok (.iload 7, 2) := by decide +kernel
theorem dL_panels__112 : decode cL_panels_ 112 = .ok (.invokevirtual 81, 3) := by decide +kernel
theorem dL_panels__115 : decode cL_panels_ 115 = .ok (.bipush 97, 2) := by decide +kernel
theorem dL_panels__117 : decode cL_panels_ 117 = .ok (.isub, 1) := by decide +kernel
theorem dL_panels__118 : decode cL_panels_ 118 = .ok (.ishl, 1) := by decide +kernel
theorem dL_panels__119 : decode cL_panels_ 119 = .ok (.goto 4, 3) := by decide +kernel
theorem dL_panels__122 : decode cL_panels_ 122 = .ok (.iconst 0, 1) := by decide +kernel
theorem dL_panels__123 : decode cL_panels_ 123 = .ok (.ior, 1) := by decide +kernel
theorem dL_panels__124 : decode cL_panels_ 124 = .ok (.istore 5, 2) := by decide +kernel
theorem dL_panels__126 : decode cL_panels_ 126 = .ok (.iinc 7 1, 3) := by decide +kernel
theorem dL_panels__129 : decode cL_panels_ 129 = .ok (.goto (-79), 3) := by decide +kernel
theorem dL_panels__132 : decode cL_panels_ 132 = .ok (.iload_n 3, 1) := by decide +kernel
theorem dL_panels__133 : decode cL_panels_ 133 = .ok (.iload 6, 2) := by decide +kernel
theorem dL_panels__135 : decode cL_panels_ 135 = .ok (.ifCond .eq 16, 3) := by decide +kernel
theorem dL_panels__138 : decode cL_panels_ 138 = .ok (.iload 5, 2) := by decide +kernel
theorem dL_panels__140 : decode cL_panels_ 140 = .ok (.invokestatic 270, 3) := by decide +kernel
theorem dL_panels__143 : decode cL_panels_ 143 = .ok (.iconst 3, 1) := by decide +kernel
theorem dL_panels__144 : decode cL_panels_ 144 = .ok (.if_icmp .ne 7, 3) := by decide +kernel
theorem dL_panels__147 : decode cL_panels_ 147 = .ok (.iconst 1, 1) := by decide +kernel
theorem dL_panels__148 : decode cL_panels_ 148 = .ok (.goto 4, 3) := by decide +kernel
theorem dL_panels__151 : decode cL_panels_ 151 = .ok (.iconst 0, 1) := by decide +kernel
theorem dL_panels__152 : decode cL_panels_ 152 = .ok (.iadd, 1) := by decide +kernel
theorem dL_panels__153 : decode cL_panels_ 153 = .ok (.istore_n 3, 1) := by decide +kernel
theorem dL_panels__154 : decode cL_panels_ 154 = .ok (.iinc 4 1, 3) := by decide +kernel
theorem dL_panels__157 : decode cL_panels_ 157 = .ok (.goto (-137), 3) := by decide +kernel
theorem dL_panels__160 : decode cL_panels_ 160 = .ok (.aload_n 0, 1) := by decide +kernel
theorem dL_panels__161 : decode cL_panels_ 161 = .ok (.iload_n 2, 1) := by decide +kernel
theorem dL_panels__162 : decode cL_panels_ 162 = .ok (.invokestatic 275, 3) := by decide +kernel
theorem dL_panels__165 : decode cL_panels_ 165 = .ok (.istore 4, 2) := by decide +kernel
theorem dL_panels__167 : decode cL_panels_ 167 = .ok (.iload 4, 2) := by decide +kernel
theorem dL_panels__169 : decode cL_panels_ 169 = .ok (.ifCond .ge 26, 3) := by decide +kernel
theorem dL_panels__172 : decode cL_panels_ 172 = .ok (.aload_n 0, 1) := by decide +kernel
theorem dL_panels__173 : decode cL_panels_ 173 = .ok (.iload_n 2, 1) := by decide +kernel
theorem dL_panels__174 : decode cL_panels_ 174 = .ok (.iconst 0, 1) := by decide +kernel
theorem dL_panels__175 : decode cL_panels_ 175 = .ok (.invokestatic 278, 3) := by decide +kernel
theorem dL_panels__178 : decode cL_panels_ 178 = .ok (.bipush (-13), 2) := by decide +kernel
theorem dL_panels__180 : decode cL_panels_ 180 = .ok (.if_icmp .ne 11, 3) := by decide +kernel
theorem dL_panels__183 : decode cL_panels_ 183 = .ok (.iload_n 3, 1) := by decide +kernel
theorem dL_panels__184 : decode cL_panels_ 184 = .ok (.ifCond .ne 7, 3) := by decide +kernel
theorem dL_panels__187 : decode cL_panels_ 187 = .ok (.iconst 1, 1) := by decide +kernel
theorem dL_panels__188 : decode cL_panels_ 188 = .ok (.goto 57, 3) := by decide +kernel
theorem dL_panels__191 : decode cL_panels_ 191 = .ok (.iconst 0, 1) := by decide +kernel
theorem dL_panels__192 : decode cL_panels_ 192 = .ok (.goto 53, 3) := by decide +kernel
theorem dL_panels__195 : decode cL_panels_ 195 = .ok (.aload_n 0, 1) := by decide +kernel
theorem dL_panels__196 : decode cL_panels_ 196 = .ok (.iload_n 2, 1) := by decide +kernel
theorem dL_panels__197 : decode cL_panels_ 197 = .ok (.iconst 0, 1) := by decide +kernel
theorem dL_panels__198 : decode cL_panels_ 198 = .ok (.invokestatic 278, 3) := by decide +kernel
theorem dL_panels__201 : decode cL_panels_ 201 = .ok (.iload 4, 2) := by decide +kernel
theorem dL_panels__203 : decode cL_panels_ 203 = .ok (.bipush 36, 2) := by decide +kernel
theorem dL_panels__205 : decode cL_panels_ 205 = .ok (.idiv, 1) := by decide +kernel
theorem dL_panels__206 : decode cL_panels_ 206 = .ok (.if_icmp .ne 38, 3) := by decide +kernel
theorem dL_panels__209 : decode cL_panels_ 209 = .ok (.aload_n 0, 1) := by decide +kernel
theorem dL_panels__210 : decode cL_panels_ 210 = .ok (.iload_n 2, 1) := by decide +kernel
theorem dL_panels__211 : decode cL_panels_ 211 = .ok (.iconst 1, 1) := by decide +kernel
theorem dL_panels__212 : decode cL_panels_ 212 = .ok (.invokestatic 278, 3) := by decide +kernel
theorem dL_panels__215 : decode cL_panels_ 215 = .ok (.iload 4, 2) := by decide +kernel
theorem dL_panels__217 : decode cL_panels_ 217 = .ok (.bipush 6, 2) := by decide +kernel
theorem dL_panels__219 : decode cL_panels_ 219 = .ok (.idiv, 1) := by decide +kernel
theorem dL_panels__220 : decode cL_panels_ 220 = .ok (.bipush 6, 2) := by decide +kernel
theorem dL_panels__222 : decode cL_panels_ 222 = .ok (.irem, 1) := by decide +kernel
theorem dL_panels__223 : decode cL_panels_ 223 = .ok (.if_icmp .ne 21, 3) := by decide +kernel
theorem dL_panels__226 : decode cL_panels_ 226 = .ok (.aload_n 0, 1) := by decide +kernel
theorem dL_panels__227 : decode cL_panels_ 227 = .ok (.iload_n 2, 1) := by decide +kernel
theorem dL_panels__228 : decode cL_panels_ 228 = .ok (.iconst 2, 1) := by decide +kernel
theorem dL_panels__229 : decode cL_panels_ 229 = .ok (.invokestatic 278, 3) := by decide +kernel
theorem dL_panels__232 : decode cL_panels_ 232 = .ok (.iload 4, 2) := by decide +kernel
theorem dL_panels__234 : decode cL_panels_ 234 = .ok (.bipush 6, 2) := by decide +kernel
theorem dL_panels__236 : decode cL_panels_ 236 = .ok (.irem, 1) := by decide +kernel
theorem dL_panels__237 : decode cL_panels_ 237 = .ok (.if_icmp .ne 7, 3) := by decide +kernel
theorem dL_panels__240 : decode cL_panels_ 240 = .ok (.iconst 1, 1) := by decide +kernel
theorem dL_panels__241 : decode cL_panels_ 241 = .ok (.goto 4, 3) := by decide +kernel
theorem dL_panels__244 : decode cL_panels_ 244 = .ok (.iconst 0, 1) := by decide +kernel
theorem dL_panels__245 : decode cL_panels_ 245 = .ok (.istore 5, 2) := by decide +kernel
theorem dL_panels__247 : decode cL_panels_ 247 = .ok (.iload 5, 2) := by decide +kernel
theorem dL_panels__249 : decode cL_panels_ 249 = .ok (.ifCond .eq 43, 3) := by decide +kernel
theorem dL_panels__252 : decode cL_panels_ 252 = .ok (.aload_n 0, 1) := by decide +kernel
theorem dL_panels__253 : decode cL_panels_ 253 = .ok (.iload_n 2, 1) := by decide +kernel
theorem dL_panels__254 : decode cL_panels_ 254 = .ok (.invokestatic 281, 3) := by decide +kernel
theorem dL_panels__257 : decode cL_panels_ 257 = .ok (.iload_n 3, 1) := by decide +kernel
theorem dL_panels__258 : decode cL_panels_ 258 = .ok (.if_icmp .ne 34, 3) := by decide +kernel
theorem dL_panels__261 : decode cL_panels_ 261 = .ok (.aload_n 0, 1) := by decide +kernel
theorem dL_panels__262 : decode cL_panels_ 262 = .ok (.iload_n 2, 1) := by decide +kernel
theorem dL_panels__263 : decode cL_panels_ 263 = .ok (.invokestatic 283, 3) := by decide +kernel
theorem dL_panels__266 : decode cL_panels_ 266 = .ok (.iload_n 3, 1) := by decide +kernel
theorem dL_panels__267 : decode cL_panels_ 267 = .ok (.if_icmp .ne 25, 3) := by decide +kernel
theorem dL_panels__270 : decode cL_panels_ 270 = .ok (.aload_n 0, 1) := by decide +kernel
theorem dL_panels__271 : decode cL_panels_ 271 = .ok (.iload_n 2, 1) := by decide +kernel
theorem dL_panels__272 : decode cL_panels_ 272 = .ok (.iconst 3, 1) := by decide +kernel
theorem dL_panels__273 : decode cL_panels_ 273 = .ok (.invokestatic 278, 3) := by decide +kernel
theorem dL_panels__276 : decode cL_panels_ 276 = .ok (.bipush (-12), 2) := by decide +kernel
theorem dL_panels__278 : decode cL_panels_ 278 = .ok (.if_icmp .ne 14, 3) := by decide +kernel
theorem dL_panels__281 : decode cL_panels_ 281 = .ok (.aload_n 0, 1) := by decide +kernel
theorem dL_panels__282 : decode cL_panels_ 282 = .ok (.iload_n 2, 1) := by decide +kernel
theorem dL_panels__283 : decode cL_panels_ 283 = .ok (.iconst (-1), 1) := by decide +kernel
theorem dL_panels__284 : decode cL_panels_ 284 = .ok (.invokestatic 278, 3) := by decide +kernel
theorem dL_panels__287 : decode cL_panels_ 287 = .ok (.bipush (-12), 2) := by decide +kernel
theorem dL_panels__289 : decode cL_panels_ 289 = .ok (.if_icmp .eq 5, 3) := by decide +kernel
theorem dL_panels__292 : decode cL_panels_ 292 = .ok (.iconst 0, 1) := by decide +kernel
theorem dL_panels__293 : decode cL_panels_ 293 = .ok (.ireturn, 1) := by decide +kernel
theorem dL_panels__294 : decode cL_panels_ 294 = .ok (.iinc 2 1, 3) := by decide +kernel
theorem dL_panels__297 : decode cL_panels_ 297 = .ok (.goto (-290), 3) := by decide +kernel
theorem dL_panels__300 : decode cL_panels_ 300 = .ok (.aload_n 0, 1) := by decide +kernel
theorem dL_panels__301 : decode cL_panels_ 301 = .ok (.aload_n 0, 1) := by decide +kernel
theorem dL_panels__302 : decode cL_panels_ 302 = .ok (.invokevirtual 224, 3) := by decide +kernel
theorem dL_panels__305 : decode cL_panels_ 305 = .ok (.invokestatic 281, 3) := by decide +kernel
theorem dL_panels__308 : decode cL_panels_ 308 = .ok (.bipush (-11), 2) := by decide +kernel
theorem dL_panels__310 : decode cL_panels_ 310 = .ok (.if_icmp .ne 31, 3) := by decide +kernel
theorem dL_panels__313 : decode cL_panels_ 313 = .ok (.aload_n 0, 1) := by decide +kernel
theorem dL_panels__314 : decode cL_panels_ 314 = .ok (.iconst (-1), 1) := by decide +kernel
theorem dL_panels__315 : decode cL_panels_ 315 = .ok (.invokestatic 283, 3) := by decide +kernel
theorem dL_panels__318 : decode cL_panels_ 318 = .ok (.bipush (-11), 2) := by decide +kernel
theorem dL_panels__320 : decode cL_panels_ 320 = .ok (.if_icmp .ne 21, 3) := by decide +kernel
theorem dL_panels__323 : decode cL_panels_ 323 = .ok (.aload_n 0, 1) := by decide +kernel
theorem dL_panels__324 : decode cL_panels_ 324 = .ok (.aload_n 0, 1) := by decide +kernel
theorem dL_panels__325 : decode cL_panels_ 325 = .ok (.invokevirtual 224, 3) := by decide +kernel
theorem dL_panels__328 : decode cL_panels_ 328 = .ok (.iconst 3, 1) := by decide +kernel
theorem dL_panels__329 : decode cL_panels_ 329 = .ok (.invokestatic 278, 3) := by decide +kernel
theorem dL_panels__332 : decode cL_panels_ 332 = .ok (.bipush (-11), 2) := by decide +kernel
theorem dL_panels__334 : decode cL_panels_ 334 = .ok (.if_icmp .ne 7, 3) := by decide +kernel
theorem dL_panels__337 : decode cL_panels_ 337 = .ok (.iconst 1, 1) := by decide +kernel
theorem dL_panels__338 : decode cL_panels_ 338 = .ok (.goto 4, 3) := by decide +kernel
theorem dL_panels__341 : decode cL_panels_ 341 = .ok (.iconst 0, 1) := by decide +kernel
theorem dL_panels__342 : decode cL_panels_ 342 = .ok (.ireturn, 1) := by decide +kernel
theorem dL_totals_0 : decode cL_totals 0 = .ok (.iconst 0, 1) := by decide +kernel
theorem dL_totals_1 : decode cL_totals 1 = .ok (.istore_n 1, 1) := by decide +kernel
theorem dL_totals_2 : decode cL_totals 2 = .ok (.iconst 0, 1) := by decide +kernel
theorem dL_totals_3 : decode cL_totals 3 = .ok (.istore_n 2, 1) := by decide +kernel
theorem dL_totals_4 : decode cL_totals 4 = .ok (.lconst 0, 1) := by decide +kernel
theorem dL_totals_5 : decode cL_totals 5 = .ok (.lstore_n 3, 1) := by decide +kernel
theorem dL_totals_6 : decode cL_totals 6 = .ok (.iconst 0, 1) := by decide +kernel
theorem dL_totals_7 : decode cL_totals 7 = .ok (.istore 5, 2) := by decide +kernel
theorem dL_totals_9 : decode cL_totals 9 = .ok (.iconst 0, 1) := by decide +kernel
theorem dL_totals_10 : decode cL_totals 10 = .ok (.istore 6, 2) := by decide +kernel
theorem dL_totals_12 : decode cL_totals 12 = .ok (.iconst 0, 1) := by decide +kernel
theorem dL_totals_13 : decode cL_totals 13 = .ok (.istore 7, 2) := by decide +kernel
theorem dL_totals_15 : decode cL_totals 15 = .ok (.iload 7, 2) := by decide +kernel
theorem dL_totals_17 : decode cL_totals 17 = .ok (.aload_n 0, 1) := by decide +kernel
theorem dL_totals_18 : decode cL_totals 18 = .ok (.invokevirtual 224, 3) := by decide +kernel
theorem dL_totals_21 : decode cL_totals 21 = .ok (.if_icmp .ge 99, 3) := by decide +kernel
theorem dL_totals_24 : decode cL_totals 24 = .ok (.iload_n 1, 1) := by decide +kernel
theorem dL_totals_25 : decode cL_totals 25 = .ok (.aload_n 0, 1) := by decide +kernel
theorem dL_totals_26 : decode cL_totals 26 = .ok (.iload 7, 2) := by decide +kernel
theorem dL_totals_28 : decode cL_totals 28 = .ok (.invokevirtual 59, 3) := by decide +kernel
theorem dL_totals_31 : decode cL_totals 31 = .ok (.iadd, 1) := by decide +kernel
theorem dL_totals_32 : decode cL_totals 32 = .ok (.istore_n 1, 1) := by decide +kernel
theorem dL_totals_33 : decode cL_totals 33 = .ok (.iload_n 2, 1) := by decide +kernel
theorem dL_totals_34 : decode cL_totals 34 = .ok (.aload_n 0, 1) := by decide +kernel
theorem dL_totals_35 : decode cL_totals 35 = .ok (.iload 7, 2) := by decide +kernel
theorem dL_totals_37 : decode cL_totals 37 = .ok (.invokevirtual 62, 3) := by decide +kernel
theorem dL_totals_40 : decode cL_totals 40 = .ok (.iadd, 1) := by decide +kernel
theorem dL_totals_41 : decode cL_totals 41 = .ok (.istore_n 2, 1) := by decide +kernel
theorem dL_totals_42 : decode cL_totals 42 = .ok (.iload 5, 2) := by decide +kernel
theorem dL_totals_44 : decode cL_totals 44 = .ok (.aload_n 0, 1) := by decide +kernel
theorem dL_totals_45 : decode cL_totals 45 = .ok (.iload 7, 2) := by decide +kernel
theorem dL_totals_47 : decode cL_totals 47 = .ok (.invokestatic 229, 3) := by decide +kernel
theorem dL_totals_50 : decode cL_totals 50 = .ok (.ifCond .lt 7, 3) := by decide +kernel
theorem dL_totals_53 : decode cL_totals 53 = .ok (.iconst 1, 1) := by decide +kernel
theorem dL_totals_54 : decode cL_totals 54 = .ok (.goto 4, 3) := by decide +kernel
theorem dL_totals_57 : decode cL_totals 57 = .ok (.iconst 0, 1) := by decide +kernel
theorem dL_totals_58 : decode cL_totals 58 = .ok (.iadd, 1) := by decide +kernel
theorem dL_totals_59 : decode cL_totals 59 = .ok (.istore 5, 2) := by decide +kernel
theorem dL_totals_61 : decode cL_totals 61 = .ok (.iload 6, 2) := by decide +kernel
theorem dL_totals_63 : decode cL_totals 63 = .ok (.aload_n 0, 1) := by decide +kernel
theorem dL_totals_64 : decode cL_totals 64 = .ok (.iload 7, 2) := by decide +kernel
theorem dL_totals_66 : decode cL_totals 66 = .ok (.invokevirtual 68, 3) := by decide +kernel
theorem dL_totals_69 : decode cL_totals 69 = .ok (.ifCond .eq 7, 3) := by decide +kernel
theorem dL_totals_72 : decode cL_totals 72 = .ok (.iconst 1, 1) := by decide +kernel
theorem dL_totals_73 : decode cL_totals 73 = .ok (.goto 4, 3) := by decide +kernel
theorem dL_totals_76 : decode cL_totals 76 = .ok (.iconst 0, 1) := by decide +kernel
theorem dL_totals_77 : decode cL_totals 77 = .ok (.iadd, 1) := by decide +kernel
theorem dL_totals_78 : decode cL_totals 78 = .ok (.istore 6, 2) := by decide +kernel
theorem dL_totals_80 : decode cL_totals 80 = .ok (.iconst 0, 1) := by decide +kernel
theorem dL_totals_81 : decode cL_totals 81 = .ok (.istore 8, 2) := by decide +kernel
theorem dL_totals_83 : decode cL_totals 83 = .ok (.iload 8, 2) := by decide +kernel
theorem dL_totals_85 : decode cL_totals 85 = .ok (.aload_n 0, 1) := by decide +kernel
theorem dL_totals_86 : decode cL_totals 86 = .ok (.invokevirtual 191, 3) := by decide +kernel
theorem dL_totals_89 : decode cL_totals 89 = .ok (.if_icmp .ge 25, 3) := by decide +kernel
theorem dL_totals_92 : decode cL_totals 92 = .ok (.lload_n 3, 1) := by decide +kernel
theorem dL_totals_93 : decode cL_totals 93 = .ok (.iconst 0, 1) := by decide +kernel
theorem dL_totals_94 : decode cL_totals 94 = .ok (.aload_n 0, 1) := by decide +kernel
theorem dL_totals_95 : decode cL_totals 95 = .ok (.iload 8, 2) := by decide +kernel
theorem dL_totals_97 : decode cL_totals 97 = .ok (.iload 7, 2) := by decide +kernel
theorem dL_totals_99 : decode cL_totals 99 = .ok (.invokestatic 194, 3) := by decide +kernel
theorem dL_totals_102 : decode cL_totals 102 = .ok (.invokestatic 286, 3) := by decide +kernel
theorem dL_totals_105 : decode cL_totals 105 = .ok (.i2l, 1) := by decide +kernel
theorem dL_totals_106 : decode cL_totals 106 = .ok (.ladd, 1) := by decide +kernel
theorem dL_totals_107 : decode cL_totals 107 = .ok (.lstore_n 3, 1) := by decide +kernel
theorem dL_totals_108 : decode cL_totals 108 = .ok (.iinc 8 1, 3) := by decide +kernel
theorem dL_totals_111 : decode cL_totals 111 = .ok (.goto (-28), 3) := by decide +kernel
theorem dL_totals_114 : decode cL_totals 114 = .ok (.iinc 7 1, 3) := by decide +kernel
theorem dL_totals_117 : decode cL_totals 117 = .ok (.goto (-102), 3) := by decide +kernel
theorem dL_totals_120 : decode cL_totals 120 = .ok (.aload_n 0, 1) := by decide +kernel
theorem dL_totals_121 : decode cL_totals 121 = .ok (.invokevirtual 291, 3) := by decide +kernel
theorem dL_totals_124 : decode cL_totals 124 = .ok (.istore 7, 2) := by decide +kernel
theorem dL_totals_126 : decode cL_totals 126 = .ok (.iconst 1, 1) := by decide +kernel
theorem dL_totals_127 : decode cL_totals 127 = .ok (.istore 8, 2) := by decide +kernel
theorem dL_totals_129 : decode cL_totals 129 = .ok (.iload 8, 2) := by decide +kernel
theorem dL_totals_131 : decode cL_totals 131 = .ok (.iload 7, 2) := by decide +kernel
theorem dL_totals_133 : decode cL_totals 133 = .ok (.if_icmp .gt 62, 3) := by decide +kernel
theorem dL_totals_136 : decode cL_totals 136 = .ok (.iconst 1, 1) := by decide +kernel
theorem dL_totals_137 : decode cL_totals 137 = .ok (.istore 9, 2) := by decide +kernel
theorem dL_totals_139 : decode cL_totals 139 = .ok (.iload 9, 2) := by decide +kernel
theorem dL_totals_141 : decode cL_totals 141 = .ok (.iload 8, 2) := by decide +kernel
theorem dL_totals_143 : decode cL_totals 143 = .ok (.if_icmp .ge 26, 3) := by decide +kernel
theorem dL_totals_146 : decode cL_totals 146 = .ok (.aload_n 0, 1) := by decide +kernel
theorem dL_totals_147 : decode cL_totals 147 = .ok (.iload 9, 2) := by decide +kernel
theorem dL_totals_149 : decode cL_totals 149 = .ok (.invokestatic 294, 3) := by decide +kernel
theorem dL_totals_152 : decode cL_totals 152 = .ok (.aload_n 0, 1) := by decide +kernel
theorem dL_totals_153 : decode cL_totals 153 = .ok (.iload 8, 2) := by decide +kernel
theorem dL_totals_155 : decode cL_totals 155 = .ok (.invokestatic 294, 3) := by decide +kernel
theorem dL_totals_158 : decode cL_totals 158 = .ok (.if_icmp .ne 5, 3) := by decide +kernel
theorem dL_totals_161 : decode cL_totals 161 = .ok (.iconst 0, 1) := by decide +kernel
theorem dL_totals_162 : decode cL_totals 162 = .ok (.ireturn, 1) := by decide +kernel
theorem dL_totals_163 : decode cL_totals 163 = .ok (.iinc 9 1, 3) := by decide +kernel
theorem dL_totals_166 : decode cL_totals 166 = .ok (.goto (-27), 3) := by decide +kernel
theorem dL_totals_169 : decode cL_totals 169 = .ok (.aload_n 0, 1) := by decide +kernel
theorem dL_totals_170 : decode cL_totals 170 = .ok (.iload 8, 2) := by decide +kernel
theorem dL_totals_172 : decode cL_totals 172 = .ok (.invokestatic 294, 3) := by decide +kernel
theorem dL_totals_175 : decode cL_totals 175 = .ok (.ifCond .lt 12, 3) := by decide +kernel
theorem dL_totals_178 : decode cL_totals 178 = .ok (.aload_n 0, 1) := by decide +kernel
theorem dL_totals_179 : decode cL_totals 179 = .ok (.iload 8, 2) := by decide +kernel
theorem dL_totals_181 : decode cL_totals 181 = .ok (.invokestatic 296, 3) := by decide +kernel
theorem dL_totals_184 : decode cL_totals 184 = .ok (.ifCond .ge 5, 3) := by decide +kernel
theorem dL_totals_187 : decode cL_totals 187 = .ok (.iconst 0, 1) := by decide +kernel
theorem dL_totals_188 : decode cL_totals 188 = .ok (.ireturn, 1) := by decide +kernel
theorem dL_totals_189 : decode cL_totals 189 = .ok (.iinc 8 1, 3) := by decide +kernel
theorem dL_totals_192 : decode cL_totals 192 = .ok (.goto (-63), 3) := by decide +kernel
theorem dL_totals_195 : decode cL_totals 195 = .ok (.iload_n 2, 1) := by decide +kernel
theorem dL_totals_196 : decode cL_totals 196 = .ok (.ifCond .eq 16, 3) := by decide +kernel
theorem dL_totals_199 : decode cL_totals 199 = .ok (.aload_n 0, 1) := by decide +kernel
theorem dL_totals_200 : decode cL_totals 200 = .ok (.invokevirtual 298, 3) := by decide +kernel
theorem dL_totals_203 : decode cL_totals 203 = .ok (.lload_n 3, 1) := by decide +kernel
theorem dL_totals_204 : decode cL_totals 204 = .ok (.l2d, 1) := by decide +kernel
theorem dL_totals_205 : decode cL_totals 205 = .ok (.iload_n 2, 1) := by decide +kernel
theorem dL_totals_206 : decode cL_totals 206 = .ok (.i2d, 1) := by decide +kernel
theorem dL_totals_207 : decode cL_totals 207 = .ok (.ddiv, 1) := by decide +kernel
theorem dL_totals_208 : decode cL_totals 208 = .ok (.dcmp .l, 1) := by decide +kernel
theorem dL_totals_209 : decode cL_totals 209 = .ok (.ifCond .ne 7, 3) := by decide +kernel
theorem dL_totals_212 : decode cL_totals 212 = .ok (.iconst 1, 1) := by decide +kernel
theorem dL_totals_213 : decode cL_totals 213 = .ok (.goto 4, 3) := by decide +kernel
theorem dL_totals_216 : decode cL_totals 216 = .ok (.iconst 0, 1) := by decide +kernel
theorem dL_totals_217 : decode cL_totals 217 = .ok (.istore 8, 2) := by decide +kernel
theorem dL_totals_219 : decode cL_totals 219 = .ok (.iload 5, 2) := by decide +kernel
theorem dL_totals_221 : decode cL_totals 221 = .ok (.ifCond .eq 18, 3) := by decide +kernel
theorem dL_totals_224 : decode cL_totals 224 = .ok (.aload_n 0, 1) := by decide +kernel
theorem dL_totals_225 : decode cL_totals 225 = .ok (.invokevirtual 302, 3) := by decide +kernel
theorem dL_totals_228 : decode cL_totals 228 = .ok (.iload 6, 2) := by decide +kernel
theorem dL_totals_230 : decode cL_totals 230 = .ok (.i2f, 1) := by decide +kernel
theorem dL_totals_231 : decode cL_totals 231 = .ok (.iload 5, 2) := by decide +kernel
theorem dL_totals_233 : decode cL_totals 233 = .ok (.i2f, 1) := by decide +kernel
theorem dL_totals_234 : decode cL_totals 234 = .ok (.fdiv, 1) := by decide +kernel
theorem dL_totals_235 : decode cL_totals 235 = .ok (.fcmp .l, 1) := by decide +kernel
theorem dL_totals_236 : decode cL_totals 236 = .ok (.ifCond .ne 7, 3) := by decide +kernel
theorem dL_totals_239 : decode cL_totals 239 = .ok (.iconst 1, 1) := by decide +kernel
theorem dL_totals_240 : decode cL_totals 240 = .ok (.goto 4, 3) := by decide +kernel
theorem dL_totals_243 : decode cL_totals 243 = .ok (.iconst 0, 1) := by decide +kernel
theorem dL_totals_244 : decode cL_totals 244 = .ok (.istore 9, 2) := by decide +kernel
theorem dL_totals_246 : decode cL_totals 246 = .ok (.iload 8, 2) := by decide +kernel
theorem dL_totals_248 : decode cL_totals 248 = .ok (.ifCond .eq 90, 3) := by decide +kernel
theorem dL_totals_251 : decode cL_totals 251 = .ok (.iload 9, 2) := by decide +kernel
theorem dL_totals_253 : decode cL_totals 253 = .ok (.ifCond .eq 85, 3) := by decide +kernel
theorem dL_totals_256 : decode cL_totals 256 = .ok (.aload_n 0, 1) := by decide +kernel
theorem dL_totals_257 : decode cL_totals 257 = .ok (.invokevirtual 306, 3) := by decide +kernel
theorem dL_totals_260 : decode cL_totals 260 = .ok (.iload_n 1, 1) := by decide +kernel
theorem dL_totals_261 : decode cL_totals 261 = .ok (.if_icmp .ne 77, 3) := by decide +kernel
theorem dL_totals_264 : decode cL_totals 264 = .ok (.aload_n 0, 1) := by decide +kernel
theorem dL_totals_265 : decode cL_totals 265 = .ok (.invokevirtual 309, 3) := by decide +kernel
theorem dL_totals_268 : decode cL_totals 268 = .ok (.iload_n 1, 1) := by decide +kernel
theorem dL_totals_269 : decode cL_totals 269 = .ok (.if_icmp .ne 69, 3) := by decide +kernel
theorem dL_totals_272 : decode cL_totals 272 = .ok (.aload_n 0, 1) := by decide +kernel
theorem dL_totals_273 : decode cL_totals 273 = .ok (.invokevirtual 312, 3) := by decide +kernel
theorem dL_totals_276 : decode cL_totals 276 = .ok (.lload_n 3, 1) := by decide +kernel
theorem dL_totals_277 : decode cL_totals 277 = .ok (.lcmp, 1) := by decide +kernel
theorem dL_totals_278 : decode cL_totals 278 = .ok (.ifCond .ne 60, 3) := by decide +kernel
theorem dL_totals_281 : decode cL_totals 281 = .ok (.aload_n 0, 1) := by decide +kernel
theorem dL_totals_282 : decode cL_totals 282 = .ok (.invokevirtual 316, 3) := by decide +kernel
theorem dL_totals_285 : decode cL_totals 285 = .ok (.ifCond .eq 53, 3) := by decide +kernel
theorem dL_totals_288 : decode cL_totals 288 = .ok (.aload_n 0, 1) := by decide +kernel
theorem dL_totals_289 : decode cL_totals 289 = .ok (.iconst 0, 1) := by decide +kernel
theorem dL_totals_290 : decode cL_totals 290 = .ok (.invokestatic 294, 3) := by decide +kernel
theorem dL_totals_293 : decode cL_totals 293 = .ok (.bipush (-13), 2) := by decide +kernel
theorem dL_totals_295 : decode cL_totals 295 = .ok (.if_icmp .ne 43, 3) := by decide +kernel
theorem dL_totals_298 : decode cL_totals 298 = .ok (.aload_n 0, 1) := by decide +kernel
theorem dL_totals_299 : decode cL_totals 299 = .ok (.iload 7, 2) := by decide +kernel
theorem dL_totals_301 : decode cL_totals 301 = .ok (.iconst 1, 1) := by decide +kernel
theorem dL_totals_302 : decode cL_totals 302 = .ok (.iadd, 1) := by decide +kernel
theorem dL_totals_303 : decode cL_totals 303 = .ok (.invokestatic 294, 3) := by decide +kernel
theorem dL_totals_306 : decode cL_totals 306 = .ok (.bipush (-13), 2) := by decide +kernel
theorem dL_totals_308 : decode cL_totals 308 = .ok (.if_icmp .ne 30, 3) := by decide +kernel
theorem dL_totals_311 : decode cL_totals 311 = .ok (.aload_n 0, 1) := by decide +kernel
theorem dL_totals_312 : decode cL_totals 312 = .ok (.iconst 0, 1) := by decide +kernel
theorem dL_totals_313 : decode cL_totals 313 = .ok (.invokestatic 296, 3) := by decide +kernel
theorem dL_totals_316 : decode cL_totals 316 = .ok (.bipush (-13), 2) := by decide +kernel
theorem dL_totals_318 : decode cL_totals 318 = .ok (.if_icmp .ne 20, 3) := by decide +kernel
theorem dL_totals_321 : decode cL_totals 321 = .ok (.aload_n 0, 1) := by decide +kernel
theorem dL_totals_322 : decode cL_totals 322 = .ok (.iload 7, 2) := by decide +kernel
theorem dL_totals_324 : decode cL_totals 324 = .ok (.iconst 1, 1) := by decide +kernel
theorem dL_totals_325 : decode cL_totals 325 = .ok (.iadd, 1) := by decide +kernel
theorem dL_totals_326 : decode cL_totals 326 = .ok (.invokestatic 296, 3) := by decide +kernel
theorem dL_totals_329 : decode cL_totals 329 = .ok (.bipush (-13), 2) := by decide +kernel
theorem dL_totals_331 : decode cL_totals 331 = .ok (.if_icmp .ne 7, 3) := by decide +kernel
theorem dL_totals_334 : decode cL_totals 334 = .ok (.iconst 1, 1) := by decide +kernel
theorem dL_totals_335 : decode cL_totals 335 = .ok (.goto 4, 3) := by decide +kernel
theorem dL_totals_338 : decode cL_totals 338 = .ok (.iconst 0, 1) := by decide +kernel
theorem dL_totals_339 : decode cL_totals 339 = .ok (.ireturn, 1) := by decide +kernel
theorem dL_spells_0 : decode cL_spells 0 = .ok (.iload_n 1, 1) := by decide +kernel
theorem dL_spells_1 : decode cL_spells 1 = .ok (.aload_n 2, 1) := by decide +kernel
theorem dL_spells_2 : decode cL_spells 2 = .ok (.invokevirtual 144, 3) := by decide +kernel
theorem dL_spells_5 : decode cL_spells 5 = .ok (.if_icmp .ne 7, 3) := by decide +kernel
theorem dL_spells_8 : decode cL_spells 8 = .ok (.iconst 1, 1) := by decide +kernel
theorem dL_spells_9 : decode cL_spells 9 = .ok (.goto 4, 3) := by decide +kernel
theorem dL_spells_12 : decode cL_spells 12 = .ok (.iconst 0, 1) := by decide +kernel
theorem dL_spells_13 : decode cL_spells 13 = .ok (.istore_n 3, 1) := by decide +kernel
theorem dL_spells_14 : decode cL_spells 14 = .ok (.iconst 0, 1) := by decide +kernel
theorem dL_spells_15 : decode cL_spells 15 = .ok (.istore 4, 2) := by decide +kernel
theorem dL_spells_17 : decode cL_spells 17 = .ok (.iload 4, 2) := by decide +kernel
theorem dL_spells_19 : decode cL_spells 19 = .ok (.aload_n 2, 1) := by decide +kernel
theorem dL_spells_20 : decode cL_spells 20 = .ok (.invokevirtual 144, 3) := by decide +kernel
theorem dL_spells_23 : decode cL_spells 23 = .ok (.if_icmp .ge 34, 3) := by decide +kernel
theorem dL_spells_26 : decode cL_spells 26 = .ok (.iload_n 3, 1) := by decide +kernel
theorem dL_spells_27 : decode cL_spells 27 = .ok (.ifCond .eq 30, 3) := by decide +kernel
theorem dL_spells_30 : decode cL_spells 30 = .ok (.aload_n 0, 1) := by decide +kernel
theorem dL_spells_31 : decode cL_spells 31 = .ok (.iload 4, 2) := by decide +kernel
theorem dL_spells_33 : decode cL_spells 33 = .ok (.invokestatic 320, 3) := by decide +kernel
theorem dL_spells_36 : decode cL_spells 36 = .ok (.aload_n 2, 1) := by decide +kernel
theorem dL_spells_37 : decode cL_spells 37 = .ok (.iload 4, 2) := by decide +kernel
theorem dL_spells_39 : decode cL_spells 39 = .ok (.invokevirtual 149, 3) := by decide +kernel
theorem dL_spells_42 : decode cL_spells 42 = .ok (.if_icmp .ne 7, 3) := by decide +kernel
theorem dL_spells_45 : decode cL_spells 45 = .ok (.iconst 1, 1) := by decide +kernel
theorem dL_spells_46 : decode cL_spells 46 = .ok (.goto 4, 3) := by decide +kernel
theorem dL_spells_49 : decode cL_spells 49 = .ok (.iconst 0, 1) := by decide +kernel
theorem dL_spells_50 : decode cL_spells 50 = .ok (.istore_n 3, 1) := by decide +kernel
theorem dL_spells_51 : decode cL_spells 51 = .ok (.iinc 4 1, 3) := by decide +kernel
theorem dL_spells_54 : decode cL_spells 54 = .ok (.goto (-37), 3) := by decide +kernel
theorem dL_spells_57 : decode cL_spells 57 = .ok (.iload_n 3, 1) := by decide +kernel
theorem dL_spells_58 : decode cL_spells 58 = .ok (.ifCond .eq 17, 3) := by decide +kernel
theorem dL_spells_61 : decode cL_spells 61 = .ok (.aload_n 0, 1) := by decide +kernel
theorem dL_spells_62 : decode cL_spells 62 = .ok (.iload_n 1, 1) := by decide +kernel
theorem dL_spells_63 : decode cL_spells 63 = .ok (.invokestatic 320, 3) := by decide +kernel
theorem dL_spells_66 : decode cL_spells 66 = .ok (.bipush (-11), 2) := by decide +kernel
theorem dL_spells_68 : decode cL_spells 68 = .ok (.if_icmp .ne 7, 3) := by decide +kernel
theorem dL_spells_71 : decode cL_spells 71 = .ok (.iconst 1, 1) := by decide +kernel
theorem dL_spells_72 : decode cL_spells 72 = .ok (.goto 4, 3) := by decide +kernel
theorem dL_spells_75 : decode cL_spells 75 = .ok (.iconst 0, 1) := by decide +kernel
theorem dL_spells_76 : decode cL_spells 76 = .ok (.ireturn, 1) := by decide +kernel
theorem dL_lines_0 : decode cL_lines 0 = .ok (.iconst 0, 1) := by decide +kernel
theorem dL_lines_1 : decode cL_lines 1 = .ok (.istore_n 1, 1) := by decide +kernel
theorem dL_lines_2 : decode cL_lines 2 = .ok (.iload_n 1, 1) := by decide +kernel
theorem dL_lines_3 : decode cL_lines 3 = .ok (.aload_n 0, 1) := by decide +kernel
theorem dL_lines_4 : decode cL_lines 4 = .ok (.invokevirtual 224, 3) := by decide +kernel
theorem dL_lines_7 : decode cL_lines 7 = .ok (.if_icmp .ge 285, 3) := by decide +kernel
theorem dL_lines_10 : decode cL_lines 10 = .ok (.new 322, 3) := by decide +kernel
theorem dL_lines_13 : decode cL_lines 13 = .ok (.dup, 1) := by decide +kernel
theorem dL_lines_14 : decode cL_lines 14 = .ok (.invokespecial 324, 3) := by decide +kernel
theorem dL_lines_17 : decode cL_lines 17 = .ok (.ldc_w 325, 3) := by decide +kernel
theorem dL_lines_20 : decode cL_lines 20 = .ok (.invokevirtual 327, 3) := by decide +kernel
theorem dL_lines_23 : decode cL_lines 23 = .ok (.aload_n 0, 1) := by decide +kernel
theorem dL_lines_24 : decode cL_lines 24 = .ok (.iload_n 1, 1) := by decide +kernel
theorem dL_lines_25 : decode cL_lines 25 = .ok (.invokevirtual 52, 3) := by decide +kernel
theorem dL_lines_28 : decode cL_lines 28 = .ok (.invokevirtual 330, 3) := by decide +kernel
theorem dL_lines_31 : decode cL_lines 31 = .ok (.aload_n 0, 1) := by decide +kernel
theorem dL_lines_32 : decode cL_lines 32 = .ok (.iload_n 1, 1) := by decide +kernel
theorem dL_lines_33 : decode cL_lines 33 = .ok (.invokevirtual 56, 3) := by decide +kernel
theorem dL_lines_36 : decode cL_lines 36 = .ok (.invokevirtual 333, 3) := by decide +kernel
theorem dL_lines_39 : decode cL_lines 39 = .ok (.invokevirtual 336, 3) := by decide +kernel
theorem dL_lines_42 : decode cL_lines 42 = .ok (.astore_n 2, 1) := by decide +kernel
theorem dL_lines_43 : decode cL_lines 43 = .ok (.iconst 0, 1) := by decide +kernel
theorem dL_lines_44 : decode cL_lines 44 = .ok (.istore_n 3, 1) := by decide +kernel
theorem dL_lines_45 : decode cL_lines 45 = .ok (.iload_n 3, 1) := by decide +kernel
theorem dL_lines_46 : decode cL_lines 46 = .ok (.aload_n 0, 1) := by decide +kernel
theorem dL_lines_47 : decode cL_lines 47 = .ok (.invokevirtual 191, 3) := by decide +kernel
theorem dL_lines_50 : decode cL_lines 50 = .ok (.if_icmp .ge 105, 3) := by decide +kernel
theorem dL_lines_53 : decode cL_lines 53 = .ok (.aload_n 0, 1) := by decide +kernel
theorem dL_lines_54 : decode cL_lines 54 = .ok (.iload_n 3, 1) := by decide +kernel
theorem dL_lines_55 : decode cL_lines 55 = .ok (.iload_n 1, 1) := by decide +kernel
theorem dL_lines_56 : decode cL_lines 56 = .ok (.invokestatic 194, 3) := by decide +kernel
theorem dL_lines_59 : decode cL_lines 59 = .ok (.istore 4, 2) := by decide +kernel
theorem dL_lines_61 : decode cL_lines 61 = .ok (.new 322, 3) := by decide +kernel
theorem dL_lines_64 : decode cL_lines 64 = .ok (.dup, 1) := by decide +kernel
theorem dL_lines_65 : decode cL_lines 65 = .ok (.invokespecial 324, 3) := by decide +kernel
theorem dL_lines_68 : decode cL_lines 68 = .ok (.aload_n 2, 1) := by decide +kernel
theorem dL_lines_69 : decode cL_lines 69 = .ok (.invokevirtual 327, 3) := by decide +kernel
theorem dL_lines_72 : decode cL_lines 72 = .ok (.aload_n 0, 1) := by decide +kernel
theorem dL_lines_73 : decode cL_lines 73 = .ok (.iload_n 3, 1) := by decide +kernel
theorem dL_lines_74 : decode cL_lines 74 = .ok (.iload_n 1, 1) := by decide +kernel
theorem dL_lines_75 : decode cL_lines 75 = .ok (.invokevirtual 94, 3) := by decide +kernel
theorem dL_lines_78 : decode cL_lines 78 = .ok (.ifCond .eq 26, 3) := by decide +kernel
theorem dL_lines_81 : decode cL_lines 81 = .ok (.new 322, 3) := by decide +kernel
theorem dL_lines_84 : decode cL_lines 84 = .ok (.dup, 1) := by decide +kernel
theorem dL_lines_85 : decode cL_lines 85 = .ok (.invokespecial 324, 3) := by decide +kernel
theorem dL_lines_88 : decode cL_lines 88 = .ok (.ldc_w 340, 3) := by decide +kernel
theorem dL_lines_91 : decode cL_lines 91 = .ok (.invokevirtual 327, 3) := by decide +kernel
theorem dL_lines_94 : decode cL_lines 94 = .ok (.iload_n 3, 1) := by decide +kernel
theorem dL_lines_95 : decode cL_lines 95 = .ok (.invokevirtual 333, 3) := by decide +kernel
theorem dL_lines_98 : decode cL_lines 98 = .ok (.invokevirtual 336, 3) := by decide +kernel
theorem dL_lines_101 : decode cL_lines 101 = .ok (.goto 6, 3) := by decide +kernel
theorem dL_lines_104 : decode cL_lines 104 = .ok (.ldc_w 325, 3) := by decide +kernel
theorem dL_lines_107 : decode cL_lines 107 = .ok (.invokevirtual 327, 3) := by decide +kernel
theorem dL_lines_110 : decode cL_lines 110 = .ok (.iload 4, 2) := by decide +kernel
theorem dL_lines_112 : decode cL_lines 112 = .ok (.ifCond .lt 27, 3) := by decide +kernel
theorem dL_lines_115 : decode cL_lines 115 = .ok (.new 322, 3) := by decide +kernel
theorem dL_lines_118 : decode cL_lines 118 = .ok (.dup, 1) := by decide +kernel
theorem dL_lines_119 : decode cL_lines 119 = .ok (.invokespecial 324, 3) := by decide +kernel
theorem dL_lines_122 : decode cL_lines 122 = .ok (.ldc_w 342, 3) := by decide +kernel
theorem dL_lines_125 : decode cL_lines 125 = .ok (.invokevirtual 327, 3) := by decide +kernel
theorem dL_lines_128 : decode cL_lines 128 = .ok (.iload 4, 2) := by decide +kernel
theorem dL_lines_130 : decode cL_lines 130 = .ok (.invokevirtual 333, 3) := by decide +kernel
theorem dL_lines_133 : decode cL_lines 133 = .ok (.invokevirtual 336, 3) := by decide +kernel
theorem dL_lines_136 : decode cL_lines 136 = .ok (.goto 6, 3) := by decide +kernel
theorem dL_lines_139 : decode cL_lines 139 = .ok (.ldc_w 325, 3) := by decide +kernel
theorem dL_lines_142 : decode cL_lines 142 = .ok (.invokevirtual 327, 3) := by decide +kernel
theorem dL_lines_145 : decode cL_lines 145 = .ok (.invokevirtual 336, 3) := by decide +kernel
theorem dL_lines_148 : decode cL_lines 148 = .ok (.astore_n 2, 1) := by decide +kernel
theorem dL_lines_149 : decode cL_lines 149 = .ok (.iinc 3 1, 3) := by decide +kernel
theorem dL_lines_152 : decode cL_lines 152 = .ok (.goto (-107), 3) := by decide +kernel
theorem dL_lines_155 : decode cL_lines 155 = .ok (.new 322, 3) := by decide +kernel
theorem dL_lines_158 : decode cL_lines 158 = .ok (.dup, 1) := by decide +kernel
theorem dL_lines_159 : decode cL_lines 159 = .ok (.invokespecial 324, 3) := by decide +kernel
theorem dL_lines_162 : decode cL_lines 162 = .ok (.aload_n 2, 1) := by decide +kernel
theorem dL_lines_163 : decode cL_lines 163 = .ok (.invokevirtual 327, 3) := by decide +kernel
theorem dL_lines_166 : decode cL_lines 166 = .ok (.aload_n 0, 1) := by decide +kernel
theorem dL_lines_167 : decode cL_lines 167 = .ok (.iload_n 1, 1) := by decide +kernel
theorem dL_lines_168 : decode cL_lines 168 = .ok (.invokestatic 229, 3) := by decide +kernel
theorem dL_lines_171 : decode cL_lines 171 = .ok (.ifCond .lt 30, 3) := by decide +kernel
theorem dL_lines_174 : decode cL_lines 174 = .ok (.new 322, 3) := by decide +kernel
theorem dL_lines_177 : decode cL_lines 177 = .ok (.dup, 1) := by decide +kernel
theorem dL_lines_178 : decode cL_lines 178 = .ok (.invokespecial 324, 3) := by decide +kernel
theorem dL_lines_181 : decode cL_lines 181 = .ok (.ldc_w 344, 3) := by decide +kernel
theorem dL_lines_184 : decode cL_lines 184 = .ok (.invokevirtual 327, 3) := by decide +kernel
theorem dL_lines_187 : decode cL_lines 187 = .ok (.aload_n 0, 1) := by decide +kernel
theorem dL_lines_188 : decode cL_lines 188 = .ok (.iload_n 1, 1) := by decide +kernel
theorem dL_lines_189 : decode cL_lines 189 = .ok (.invokestatic 229, 3) := by decide +kernel
theorem dL_lines_192 : decode cL_lines 192 = .ok (.invokevirtual 333, 3) := by decide +kernel
theorem dL_lines_195 : decode cL_lines 195 = .ok (.invokevirtual 336, 3) := by decide +kernel
theorem dL_lines_198 : decode cL_lines 198 = .ok (.goto 6, 3) := by decide +kernel
theorem dL_lines_201 : decode cL_lines 201 = .ok (.ldc_w 325, 3) := by decide +kernel
theorem dL_lines_204 : decode cL_lines 204 = .ok (.invokevirtual 327, 3) := by decide +kernel
theorem dL_lines_207 : decode cL_lines 207 = .ok (.invokevirtual 336, 3) := by decide +kernel
theorem dL_lines_210 : decode cL_lines 210 = .ok (.astore_n 2, 1) := by decide +kernel
theorem dL_lines_211 : decode cL_lines 211 = .ok (.iconst 1, 1) := by decide +kernel
theorem dL_lines_212 : decode cL_lines 212 = .ok (.istore_n 3, 1) := by decide +kernel
theorem dL_lines_213 : decode cL_lines 213 = .ok (.iload_n 3, 1) := by decide +kernel
theorem dL_lines_214 : decode cL_lines 214 = .ok (.aload_n 0, 1) := by decide +kernel
theorem dL_lines_215 : decode cL_lines 215 = .ok (.invokevirtual 291, 3) := by decide +kernel
theorem dL_lines_218 : decode cL_lines 218 = .ok (.if_icmp .gt 53, 3) := by decide +kernel
theorem dL_lines_221 : decode cL_lines 221 = .ok (.new 322, 3) := by decide +kernel
theorem dL_lines_224 : decode cL_lines 224 = .ok (.dup, 1) := by decide +kernel
theorem dL_lines_225 : decode cL_lines 225 = .ok (.invokespecial 324, 3) := by decide +kernel
theorem dL_lines_228 : decode cL_lines 228 = .ok (.aload_n 2, 1) := by decide +kernel
theorem dL_lines_229 : decode cL_lines 229 = .ok (.invokevirtual 327, 3) := by decide +kernel
theorem dL_lines_232 : decode cL_lines 232 = .ok (.aload_n 0, 1) := by decide +kernel
theorem dL_lines_233 : decode cL_lines 233 = .ok (.iload_n 3, 1) := by decide +kernel
theorem dL_lines_234 : decode cL_lines 234 = .ok (.invokevirtual 112, 3) := by decide +kernel
theorem dL_lines_237 : decode cL_lines 237 = .ok (.iload_n 1, 1) := by decide +kernel
theorem dL_lines_238 : decode cL_lines 238 = .ok (.if_icmp .ne 17, 3) := by decide +kernel
theorem dL_lines_241 : decode cL_lines 241 = .ok (.aload_n 0, 1) := by decide +kernel
theorem dL_lines_242 : decode cL_lines 242 = .ok (.iload_n 3, 1) := by decide +kernel
theorem dL_lines_243 : decode cL_lines 243 = .ok (.invokevirtual 115, 3) := by decide +kernel
theorem dL_lines_246 : decode cL_lines 246 = .ok (.ifCond .ne 9, 3) := by decide +kernel
theorem dL_lines_249 : decode cL_lines 249 = .ok (.ldc_w 346, 3) := by decide +kernel
theorem dL_lines_252 : decode cL_lines 252 = .ok (.goto 6, 3) := by decide +kernel
theorem dL_lines_255 : decode cL_lines 255 = .ok (.ldc_w 325, 3) := by decide +kernel
theorem dL_lines_258 : decode cL_lines 258 = .ok (.invokevirtual 327, 3) := by decide +kernel
theorem dL_lines_261 : decode cL_lines 261 = .ok (.invokevirtual 336, 3) := by decide +kernel
theorem dL_lines_264 : decode cL_lines 264 = .ok (.astore_n 2, 1) := by decide +kernel
theorem dL_lines_265 : decode cL_lines 265 = .ok (.iinc 3 1, 3) := by decide +kernel
theorem dL_lines_268 : decode cL_lines 268 = .ok (.goto (-55), 3) := by decide +kernel
theorem dL_lines_271 : decode cL_lines 271 = .ok (.aload_n 0, 1) := by decide +kernel
theorem dL_lines_272 : decode cL_lines 272 = .ok (.aload_n 0, 1) := by decide +kernel
theorem dL_lines_273 : decode cL_lines 273 = .ok (.iload_n 1, 1) := by decide +kernel
theorem dL_lines_274 : decode cL_lines 274 = .ok (.invokestatic 348, 3) := by decide +kernel
theorem dL_lines_277 : decode cL_lines 277 = .ok (.aload_n 2, 1) := by decide +kernel
theorem dL_lines_278 : decode cL_lines 278 = .ok (.invokestatic 350, 3) := by decide +kernel
theorem dL_lines_281 : decode cL_lines 281 = .ok (.ifCond .ne 5, 3) := by decide +kernel
theorem dL_lines_284 : decode cL_lines 284 = .ok (.iconst 0, 1) := by decide +kernel
theorem dL_lines_285 : decode cL_lines 285 = .ok (.ireturn, 1) := by decide +kernel
theorem dL_lines_286 : decode cL_lines 286 = .ok (.iinc 1 1, 3) := by decide +kernel
theorem dL_lines_289 : decode cL_lines 289 = .ok (.goto (-287), 3) := by decide +kernel
theorem dL_lines_292 : decode cL_lines 292 = .ok (.aload_n 0, 1) := by decide +kernel
theorem dL_lines_293 : decode cL_lines 293 = .ok (.aload_n 0, 1) := by decide +kernel
theorem dL_lines_294 : decode cL_lines 294 = .ok (.invokevirtual 224, 3) := by decide +kernel
theorem dL_lines_297 : decode cL_lines 297 = .ok (.invokestatic 348, 3) := by decide +kernel
theorem dL_lines_300 : decode cL_lines 300 = .ok (.bipush (-11), 2) := by decide +kernel
theorem dL_lines_302 : decode cL_lines 302 = .ok (.if_icmp .ne 30, 3) := by decide +kernel
theorem dL_lines_305 : decode cL_lines 305 = .ok (.aload_n 0, 1) := by decide +kernel
theorem dL_lines_306 : decode cL_lines 306 = .ok (.iconst (-1), 1) := by decide +kernel
theorem dL_lines_307 : decode cL_lines 307 = .ok (.invokestatic 348, 3) := by decide +kernel
theorem dL_lines_310 : decode cL_lines 310 = .ok (.bipush (-11), 2) := by decide +kernel
theorem dL_lines_312 : decode cL_lines 312 = .ok (.if_icmp .ne 20, 3) := by decide +kernel
theorem dL_lines_315 : decode cL_lines 315 = .ok (.aload_n 0, 1) := by decide +kernel
theorem dL_lines_316 : decode cL_lines 316 = .ok (.aload_n 0, 1) := by decide +kernel
theorem dL_lines_317 : decode cL_lines 317 = .ok (.invokevirtual 191, 3) := by decide +kernel
theorem dL_lines_320 : decode cL_lines 320 = .ok (.invokestatic 354, 3) := by decide +kernel
theorem dL_lines_323 : decode cL_lines 323 = .ok (.bipush (-11), 2) := by decide +kernel
theorem dL_lines_325 : decode cL_lines 325 = .ok (.if_icmp .ne 7, 3) := by decide +kernel
theorem dL_lines_328 : decode cL_lines 328 = .ok (.iconst 1, 1) := by decide +kernel
theorem dL_lines_329 : decode cL_lines 329 = .ok (.goto 4, 3) := by decide +kernel
theorem dL_lines_332 : decode cL_lines 332 = .ok (.iconst 0, 1) := by decide +kernel
theorem dL_lines_333 : decode cL_lines 333 = .ok (.ireturn, 1) := by decide +kernel
theorem dL_sum_0 : decode cL_sum 0 = .ok (.ldc2_w 356, 3) := by decide +kernel
theorem dL_sum_3 : decode cL_sum 3 = .ok (.bipush 100, 2) := by decide +kernel
theorem dL_sum_5 : decode cL_sum 5 = .ok (.aload_n 0, 1) := by decide +kernel
theorem dL_sum_6 : decode cL_sum 6 = .ok (.invokevirtual 232, 3) := by decide +kernel
theorem dL_sum_9 : decode cL_sum 9 = .ok (.imul, 1) := by decide +kernel
theorem dL_sum_10 : decode cL_sum 10 = .ok (.i2l, 1) := by decide +kernel
theorem dL_sum_11 : decode cL_sum 11 = .ok (.ladd, 1) := by decide +kernel
theorem dL_sum_12 : decode cL_sum 12 = .ok (.aload_n 0, 1) := by decide +kernel
theorem dL_sum_13 : decode cL_sum 13 = .ok (.invokevirtual 291, 3) := by decide +kernel
theorem dL_sum_16 : decode cL_sum 16 = .ok (.i2l, 1) := by decide +kernel
theorem dL_sum_17 : decode cL_sum 17 = .ok (.ladd, 1) := by decide +kernel
theorem dL_sum_18 : decode cL_sum 18 = .ok (.lstore_n 1, 1) := by decide +kernel
theorem dL_sum_19 : decode cL_sum 19 = .ok (.iconst 0, 1) := by decide +kernel
theorem dL_sum_20 : decode cL_sum 20 = .ok (.istore_n 3, 1) := by decide +kernel
theorem dL_sum_21 : decode cL_sum 21 = .ok (.iload_n 3, 1) := by decide +kernel
theorem dL_sum_22 : decode cL_sum 22 = .ok (.aload_n 0, 1) := by decide +kernel
theorem dL_sum_23 : decode cL_sum 23 = .ok (.invokevirtual 224, 3) := by decide +kernel
theorem dL_sum_26 : decode cL_sum 26 = .ok (.if_icmp .ge 120, 3) := by decide +kernel
theorem dL_sum_29 : decode cL_sum 29 = .ok (.ldc2_w 358, 3) := by decide +kernel
theorem dL_sum_32 : decode cL_sum 32 = .ok (.lload_n 1, 1) := by decide +kernel
theorem dL_sum_33 : decode cL_sum 33 = .ok (.lmul, 1) := by decide +kernel
theorem dL_sum_34 : decode cL_sum 34 = .ok (.bipush 100, 2) := by decide +kernel
theorem dL_sum_36 : decode cL_sum 36 = .ok (.aload_n 0, 1) := by decide +kernel
theorem dL_sum_37 : decode cL_sum 37 = .ok (.iload_n 3, 1) := by decide +kernel
theorem dL_sum_38 : decode cL_sum 38 = .ok (.invokevirtual 52, 3) := by decide +kernel
theorem dL_sum_41 : decode cL_sum 41 = .ok (.imul, 1) := by decide +kernel
theorem dL_sum_42 : decode cL_sum 42 = .ok (.i2l, 1) := by decide +kernel
theorem dL_sum_43 : decode cL_sum 43 = .ok (.ladd, 1) := by decide +kernel
theorem dL_sum_44 : decode cL_sum 44 = .ok (.bipush 10, 2) := by decide +kernel
theorem dL_sum_46 : decode cL_sum 46 = .ok (.aload_n 0, 1) := by decide +kernel
theorem dL_sum_47 : decode cL_sum 47 = .ok (.iload_n 3, 1) := by decide +kernel
theorem dL_sum_48 : decode cL_sum 48 = .ok (.invokevirtual 56, 3) := by decide +kernel
theorem dL_sum_51 : decode cL_sum 51 = .ok (.imul, 1) := by decide +kernel
theorem dL_sum_52 : decode cL_sum 52 = .ok (.i2l, 1) := by decide +kernel
theorem dL_sum_53 : decode cL_sum 53 = .ok (.ladd, 1) := by decide +kernel
theorem dL_sum_54 : decode cL_sum 54 = .ok (.aload_n 0, 1) := by decide +kernel
theorem dL_sum_55 : decode cL_sum 55 = .ok (.iload_n 3, 1) := by decide +kernel
theorem dL_sum_56 : decode cL_sum 56 = .ok (.invokevirtual 72, 3) := by decide +kernel
theorem dL_sum_59 : decode cL_sum 59 = .ok (.ifCond .eq 7, 3) := by decide +kernel
theorem dL_sum_62 : decode cL_sum 62 = .ok (.iconst 1, 1) := by decide +kernel
theorem dL_sum_63 : decode cL_sum 63 = .ok (.goto 4, 3) := by decide +kernel
theorem dL_sum_66 : decode cL_sum 66 = .ok (.iconst 0, 1) := by decide +kernel
theorem dL_sum_67 : decode cL_sum 67 = .ok (.i2l, 1) := by decide +kernel
theorem dL_sum_68 : decode cL_sum 68 = .ok (.ladd, 1) := by decide +kernel
theorem dL_sum_69 : decode cL_sum 69 = .ok (.lstore_n 1, 1) := by decide +kernel
theorem dL_sum_70 : decode cL_sum 70 = .ok (.iconst 0, 1) := by decide +kernel
theorem dL_sum_71 : decode cL_sum 71 = .ok (.istore 4, 2) := by decide +kernel
theorem dL_sum_73 : decode cL_sum 73 = .ok (.iload 4, 2) := by decide +kernel
theorem dL_sum_75 : decode cL_sum 75 = .ok (.aload_n 0, 1) := by decide +kernel
theorem dL_sum_76 : decode cL_sum 76 = .ok (.invokevirtual 191, 3) := by decide +kernel
theorem dL_sum_79 : decode cL_sum 79 = .ok (.if_icmp .ge 61, 3) := by decide +kernel
theorem dL_sum_82 : decode cL_sum 82 = .ok (.ldc2_w 360, 3) := by decide +kernel
theorem dL_sum_85 : decode cL_sum 85 = .ok (.lload_n 1, 1) := by decide +kernel
theorem dL_sum_86 : decode cL_sum 86 = .ok (.lmul, 1) := by decide +kernel
theorem dL_sum_87 : decode cL_sum 87 = .ok (.bipush 40, 2) := by decide +kernel
theorem dL_sum_89 : decode cL_sum 89 = .ok (.aload_n 0, 1) := by decide +kernel
theorem dL_sum_90 : decode cL_sum 90 = .ok (.iload 4, 2) := by decide +kernel
theorem dL_sum_92 : decode cL_sum 92 = .ok (.iload_n 3, 1) := by decide +kernel
theorem dL_sum_93 : decode cL_sum 93 = .ok (.invokestatic 194, 3) := by decide +kernel
theorem dL_sum_96 : decode cL_sum 96 = .ok (.imul, 1) := by decide +kernel
theorem dL_sum_97 : decode cL_sum 97 = .ok (.i2l, 1) := by decide +kernel
theorem dL_sum_98 : decode cL_sum 98 = .ok (.ladd, 1) := by decide +kernel
theorem dL_sum_99 : decode cL_sum 99 = .ok (.aload_n 0, 1) := by decide +kernel
theorem dL_sum_100 : decode cL_sum 100 = .ok (.iload 4, 2) := by decide +kernel
theorem dL_sum_102 : decode cL_sum 102 = .ok (.iload_n 3, 1) := by decide +kernel
theorem dL_sum_103 : decode cL_sum 103 = .ok (.invokevirtual 94, 3) := by decide +kernel
theorem dL_sum_106 : decode cL_sum 106 = .ok (.ifCond .eq 7, 3) := by decide +kernel
theorem dL_sum_109 : decode cL_sum 109 = .ok (.iconst 2, 1) := by decide +kernel
theorem dL_sum_110 : decode cL_sum 110 = .ok (.goto 4, 3) := by decide +kernel
theorem dL_sum_113 : decode cL_sum 113 = .ok (.iconst 0, 1) := by decide +kernel
theorem dL_sum_114 : decode cL_sum 114 = .ok (.i2l, 1) := by decide +kernel
theorem dL_sum_115 : decode cL_sum 115 = .ok (.ladd, 1) := by decide +kernel
theorem dL_sum_116 : decode cL_sum 116 = .ok (.aload_n 0, 1) := by decide +kernel
theorem dL_sum_117 : decode cL_sum 117 = .ok (.iload 4, 2) := by decide +kernel
theorem dL_sum_119 : decode cL_sum 119 = .ok (.iload_n 3, 1) := by decide +kernel
theorem dL_sum_120 : decode cL_sum 120 = .ok (.invokevirtual 87, 3) := by decide +kernel
theorem dL_sum_123 : decode cL_sum 123 = .ok (.ifCond .eq 7, 3) := by decide +kernel
theorem dL_sum_126 : decode cL_sum 126 = .ok (.iconst 1, 1) := by decide +kernel
theorem dL_sum_127 : decode cL_sum 127 = .ok (.goto 4, 3) := by decide +kernel
theorem dL_sum_130 : decode cL_sum 130 = .ok (.iconst 0, 1) := by decide +kernel
theorem dL_sum_131 : decode cL_sum 131 = .ok (.i2l, 1) := by decide +kernel
theorem dL_sum_132 : decode cL_sum 132 = .ok (.ladd, 1) := by decide +kernel
theorem dL_sum_133 : decode cL_sum 133 = .ok (.lstore_n 1, 1) := by decide +kernel
theorem dL_sum_134 : decode cL_sum 134 = .ok (.iinc 4 1, 3) := by decide +kernel
theorem dL_sum_137 : decode cL_sum 137 = .ok (.goto (-64), 3) := by decide +kernel
theorem dL_sum_140 : decode cL_sum 140 = .ok (.iinc 3 1, 3) := by decide +kernel
theorem dL_sum_143 : decode cL_sum 143 = .ok (.goto (-122), 3) := by decide +kernel
theorem dL_sum_146 : decode cL_sum 146 = .ok (.iconst 1, 1) := by decide +kernel
theorem dL_sum_147 : decode cL_sum 147 = .ok (.istore_n 3, 1) := by decide +kernel
theorem dL_sum_148 : decode cL_sum 148 = .ok (.iload_n 3, 1) := by decide +kernel
theorem dL_sum_149 : decode cL_sum 149 = .ok (.aload_n 0, 1) := by decide +kernel
theorem dL_sum_150 : decode cL_sum 150 = .ok (.invokevirtual 291, 3) := by decide +kernel
theorem dL_sum_153 : decode cL_sum 153 = .ok (.if_icmp .gt 39, 3) := by decide +kernel
theorem dL_sum_156 : decode cL_sum 156 = .ok (.ldc2_w 362, 3) := by decide +kernel
theorem dL_sum_159 : decode cL_sum 159 = .ok (.lload_n 1, 1) := by decide +kernel
theorem dL_sum_160 : decode cL_sum 160 = .ok (.lmul, 1) := by decide +kernel
theorem dL_sum_161 : decode cL_sum 161 = .ok (.iconst 2, 1) := by decide +kernel
theorem dL_sum_162 : decode cL_sum 162 = .ok (.aload_n 0, 1) := by decide +kernel
theorem dL_sum_163 : decode cL_sum 163 = .ok (.iload_n 3, 1) := by decide +kernel
theorem dL_sum_164 : decode cL_sum 164 = .ok (.invokevirtual 112, 3) := by decide +kernel
theorem dL_sum_167 : decode cL_sum 167 = .ok (.imul, 1) := by decide +kernel
theorem dL_sum_168 : decode cL_sum 168 = .ok (.i2l, 1) := by decide +kernel
theorem dL_sum_169 : decode cL_sum 169 = .ok (.ladd, 1) := by decide +kernel
theorem dL_sum_170 : decode cL_sum 170 = .ok (.aload_n 0, 1) := by decide +kernel
theorem dL_sum_171 : decode cL_sum 171 = .ok (.iload_n 3, 1) := by decide +kernel
theorem dL_sum_172 : decode cL_sum 172 = .ok (.invokevirtual 115, 3) := by decide +kernel
theorem dL_sum_175 : decode cL_sum 175 = .ok (.ifCond .eq 7, 3) := by decide +kernel
theorem dL_sum_178 : decode cL_sum 178 = .ok (.iconst 1, 1) := by decide +kernel
theorem dL_sum_179 : decode cL_sum 179 = .ok (.goto 4, 3) := by decide +kernel
theorem dL_sum_182 : decode cL_sum 182 = .ok (.iconst 0, 1) := by decide +kernel
theorem dL_sum_183 : decode cL_sum 183 = .ok (.i2l, 1) := by decide +kernel
theorem dL_sum_184 : decode cL_sum 184 = .ok (.ladd, 1) := by decide +kernel
theorem dL_sum_185 : decode cL_sum 185 = .ok (.lstore_n 1, 1) := by decide +kernel
theorem dL_sum_186 : decode cL_sum 186 = .ok (.iinc 3 1, 3) := by decide +kernel
theorem dL_sum_189 : decode cL_sum 189 = .ok (.goto (-41), 3) := by decide +kernel
theorem dL_sum_192 : decode cL_sum 192 = .ok (.ldc2_w 364, 3) := by decide +kernel
theorem dL_sum_195 : decode cL_sum 195 = .ok (.lload_n 1, 1) := by decide +kernel
theorem dL_sum_196 : decode cL_sum 196 = .ok (.lmul, 1) := by decide +kernel
theorem dL_sum_197 : decode cL_sum 197 = .ok (.bipush 10, 2) := by decide +kernel
theorem dL_sum_199 : decode cL_sum 199 = .ok (.aload_n 0, 1) := by decide +kernel
theorem dL_sum_200 : decode cL_sum 200 = .ok (.invokevirtual 224, 3) := by decide +kernel
theorem dL_sum_203 : decode cL_sum 203 = .ok (.imul, 1) := by decide +kernel
theorem dL_sum_204 : decode cL_sum 204 = .ok (.i2l, 1) := by decide +kernel
theorem dL_sum_205 : decode cL_sum 205 = .ok (.ladd, 1) := by decide +kernel
theorem dL_sum_206 : decode cL_sum 206 = .ok (.aload_n 0, 1) := by decide +kernel
theorem dL_sum_207 : decode cL_sum 207 = .ok (.invokevirtual 191, 3) := by decide +kernel
theorem dL_sum_210 : decode cL_sum 210 = .ok (.i2l, 1) := by decide +kernel
theorem dL_sum_211 : decode cL_sum 211 = .ok (.ladd, 1) := by decide +kernel
theorem dL_sum_212 : decode cL_sum 212 = .ok (.lreturn, 1) := by decide +kernel
theorem dL_undone_0 : decode cL_undone 0 = .ok (.bipush 9, 2) := by decide +kernel
theorem dL_undone_2 : decode cL_undone 2 = .ok (.newarray .long, 2) := by decide +kernel
theorem dL_undone_4 : decode cL_undone 4 = .ok (.astore_n 2, 1) := by decide +kernel
theorem dL_undone_5 : decode cL_undone 5 = .ok (.iconst 0, 1) := by decide +kernel
theorem dL_undone_6 : decode cL_undone 6 = .ok (.istore_n 3, 1) := by decide +kernel
theorem dL_undone_7 : decode cL_undone 7 = .ok (.iconst 0, 1) := by decide +kernel
theorem dL_undone_8 : decode cL_undone 8 = .ok (.istore 4, 2) := by decide +kernel
theorem dL_undone_10 : decode cL_undone 10 = .ok (.iload 4, 2) := by decide +kernel
theorem dL_undone_12 : decode cL_undone 12 = .ok (.bipush 7, 2) := by decide +kernel
theorem dL_undone_14 : decode cL_undone 14 = .ok (.if_icmp .ge 426, 3) := by decide +kernel
theorem dL_undone_17 : decode cL_undone 17 = .ok (.aload_n 0, 1) := by decide +kernel
theorem dL_undone_18 : decode cL_undone 18 = .ok (.bipush 33, 2) := by decide +kernel
theorem dL_undone_20 : decode cL_undone 20 = .ok (.iload 4, 2) := by decide +kernel
theorem dL_undone_22 : decode cL_undone 22 = .ok (.iadd, 1) := by decide +kernel
theorem dL_undone_23 : decode cL_undone 23 = .ok (.invokestatic 162, 3) := by decide +kernel
theorem dL_undone_26 : decode cL_undone 26 = .ok (.iconst 1, 1) := by decide +kernel
theorem dL_undone_27 : decode cL_undone 27 = .ok (.iushr, 1) := by decide +kernel
theorem dL_undone_28 : decode cL_undone 28 = .ok (.istore 5, 2) := by decide +kernel
theorem dL_undone_30 : decode cL_undone 30 = .ok (.iload 5, 2) := by decide +kernel
theorem dL_undone_32 : decode cL_undone 32 = .ok (.iconst 4, 1) := by decide +kernel
theorem dL_undone_33 : decode cL_undone 33 = .ok (.iushr, 1) := by decide +kernel
theorem dL_undone_34 : decode cL_undone 34 = .ok (.istore 6, 2) := by decide +kernel
theorem dL_undone_36 : decode cL_undone 36 = .ok (.aload_n 2, 1) := by decide +kernel
theorem dL_undone_37 : decode cL_undone 37 = .ok (.iload_n 3, 1) := by decide +kernel
theorem dL_undone_38 : decode cL_undone 38 = .ok (.aload_n 1, 1) := by decide +kernel
theorem dL_undone_39 : decode cL_undone 39 = .ok (.invokestatic 366, 3) := by decide +kernel
theorem dL_undone_42 : decode cL_undone 42 = .ok (.lastore, 1) := by decide +kernel
theorem dL_undone_43 : decode cL_undone 43 = .ok (.iload 5, 2) := by decide +kernel
theorem dL_undone_45 : decode cL_undone 45 = .ok (.bipush 11, 2) := by decide +kernel
theorem dL_undone_47 : decode cL_undone 47 = .ok (.irem, 1) := by decide +kernel
theorem dL_undone_48 : decode cL_undone 48 = .ok (.tableswitch 275 0 9 #[56, 131, 152, 152, 173, 182, 182, 211, 225, 239], 56) := by decide +kernel
theorem dL_undone_104 : decode cL_undone 104 = .ok (.iload 6, 2) := by decide +kernel
theorem dL_undone_106 : decode cL_undone 106 = .ok (.iconst 2, 1) := by decide +kernel
theorem dL_undone_107 : decode cL_undone 107 = .ok (.irem, 1) := by decide +kernel
theorem dL_undone_108 : decode cL_undone 108 = .ok (.ifCond .ne 28, 3) := by decide +kernel
theorem dL_undone_111 : decode cL_undone 111 = .ok (.aload_n 1, 1) := by decide +kernel
theorem dL_undone_112 : decode cL_undone 112 = .ok (.bipush 97, 2) := by decide +kernel
theorem dL_undone_114 : decode cL_undone 114 = .ok (.iload 6, 2) := by decide +kernel
theorem dL_undone_116 : decode cL_undone 116 = .ok (.iconst 1, 1) := by decide +kernel
theorem dL_undone_117 : decode cL_undone 117 = .ok (.iushr, 1) := by decide +kernel
theorem dL_undone_118 : decode cL_undone 118 = .ok (.bipush 7, 2) := by decide +kernel
theorem dL_undone_120 : decode cL_undone 120 = .ok (.irem, 1) := by decide +kernel
theorem dL_undone_121 : decode cL_undone 121 = .ok (.iadd, 1) := by decide +kernel
theorem dL_undone_122 : decode cL_undone 122 = .ok (.i2c, 1) := by decide +kernel
theorem dL_undone_123 : decode cL_undone 123 = .ok (.iload 6, 2) := by decide +kernel
theorem dL_undone_125 : decode cL_undone 125 = .ok (.iconst 4, 1) := by decide +kernel
theorem dL_undone_126 : decode cL_undone 126 = .ok (.iushr, 1) := by decide +kernel
theorem dL_undone_127 : decode cL_undone 127 = .ok (.bipush 7, 2) := by decide +kernel
theorem dL_undone_129 : decode cL_undone 129 = .ok (.irem, 1) := by decide +kernel
theorem dL_undone_130 : decode cL_undone 130 = .ok (.invokestatic 166, 3) := by decide +kernel
theorem dL_undone_133 : decode cL_undone 133 = .ok (.goto 41, 3) := by decide +kernel
theorem dL_undone_136 : decode cL_undone 136 = .ok (.aload_n 1, 1) := by decide +kernel
theorem dL_undone_137 : decode cL_undone 137 = .ok (.bipush 97, 2) := by decide +kernel
theorem dL_undone_139 : decode cL_undone 139 = .ok (.iload 6, 2) := by decide +kernel
theorem dL_undone_141 : decode cL_undone 141 = .ok (.iconst 1, 1) := by decide +kernel
theorem dL_undone_142 : decode cL_undone 142 = .ok (.iushr, 1) := by decide +kernel
theorem dL_undone_143 : decode cL_undone 143 = .ok (.bipush 7, 2) := by decide +kernel
theorem dL_undone_145 : decode cL_undone 145 = .ok (.irem, 1) := by decide +kernel
theorem dL_undone_146 : decode cL_undone 146 = .ok (.iadd, 1) := by decide +kernel
theorem dL_undone_147 : decode cL_undone 147 = .ok (.i2c, 1) := by decide +kernel
theorem dL_undone_148 : decode cL_undone 148 = .ok (.iload 6, 2) := by decide +kernel
theorem dL_undone_150 : decode cL_undone 150 = .ok (.iconst 4, 1) := by decide +kernel
theorem dL_undone_151 : decode cL_undone 151 = .ok (.iushr, 1) := by decide +kernel
theorem dL_undone_152 : decode cL_undone 152 = .ok (.bipush 65, 2) := by decide +kernel
theorem dL_undone_154 : decode cL_undone 154 = .ok (.irem, 1) := by decide +kernel
theorem dL_undone_155 : decode cL_undone 155 = .ok (.iload 6, 2) := by decide +kernel
theorem dL_undone_157 : decode cL_undone 157 = .ok (.bipush 11, 2) := by decide +kernel
theorem dL_undone_159 : decode cL_undone 159 = .ok (.iushr, 1) := by decide +kernel
theorem dL_undone_160 : decode cL_undone 160 = .ok (.bipush 6, 2) := by decide +kernel
theorem dL_undone_162 : decode cL_undone 162 = .ok (.irem, 1) := by decide +kernel
theorem dL_undone_163 : decode cL_undone 163 = .ok (.iload 6, 2) := by decide +kernel
theorem dL_undone_165 : decode cL_undone 165 = .ok (.bipush 14, 2) := by decide +kernel
theorem dL_undone_167 : decode cL_undone 167 = .ok (.iushr, 1) := by decide +kernel
theorem dL_undone_168 : decode cL_undone 168 = .ok (.bipush 11, 2) := by decide +kernel
theorem dL_undone_170 : decode cL_undone 170 = .ok (.irem, 1) := by decide +kernel
theorem dL_undone_171 : decode cL_undone 171 = .ok (.invokestatic 169, 3) := by decide +kernel
theorem dL_undone_174 : decode cL_undone 174 = .ok (.istore 7, 2) := by decide +kernel
theorem dL_undone_176 : decode cL_undone 176 = .ok (.goto 227, 3) := by decide +kernel
theorem dL_undone_179 : decode cL_undone 179 = .ok (.aload_n 1, 1) := by decide +kernel
theorem dL_undone_180 : decode cL_undone 180 = .ok (.iload 6, 2) := by decide +kernel
theorem dL_undone_182 : decode cL_undone 182 = .ok (.bipush 7, 2) := by decide +kernel
theorem dL_undone_184 : decode cL_undone 184 = .ok (.irem, 1) := by decide +kernel
theorem dL_undone_185 : decode cL_undone 185 = .ok (.iload 6, 2) := by decide +kernel
theorem dL_undone_187 : decode cL_undone 187 = .ok (.iconst 3, 1) := by decide +kernel
theorem dL_undone_188 : decode cL_undone 188 = .ok (.iushr, 1) := by decide +kernel
theorem dL_undone_189 : decode cL_undone 189 = .ok (.bipush 9, 2) := by decide +kernel
theorem dL_undone_191 : decode cL_undone 191 = .ok (.irem, 1) := by decide +kernel
theorem dL_undone_192 : decode cL_undone 192 = .ok (.invokestatic 178, 3) := by decide +kernel
theorem dL_undone_195 : decode cL_undone 195 = .ok (.istore 7, 2) := by decide +kernel
theorem dL_undone_197 : decode cL_undone 197 = .ok (.goto 206, 3) := by decide +kernel
theorem dL_undone_200 : decode cL_undone 200 = .ok (.aload_n 1, 1) := by decide +kernel
theorem dL_undone_201 : decode cL_undone 201 = .ok (.iload 6, 2) := by decide +kernel
theorem dL_undone_203 : decode cL_undone 203 = .ok (.bipush 7, 2) := by decide +kernel
theorem dL_undone_205 : decode cL_undone 205 = .ok (.irem, 1) := by decide +kernel
theorem dL_undone_206 : decode cL_undone 206 = .ok (.iload 6, 2) := by decide +kernel
theorem dL_undone_208 : decode cL_undone 208 = .ok (.iconst 3, 1) := by decide +kernel
theorem dL_undone_209 : decode cL_undone 209 = .ok (.iushr, 1) := by decide +kernel
theorem dL_undone_210 : decode cL_undone 210 = .ok (.bipush 9, 2) := by decide +kernel
theorem dL_undone_212 : decode cL_undone 212 = .ok (.irem, 1) := by decide +kernel
theorem dL_undone_213 : decode cL_undone 213 = .ok (.invokestatic 172, 3) := by decide +kernel
theorem dL_undone_216 : decode cL_undone 216 = .ok (.istore 7, 2) := by decide +kernel
theorem dL_undone_218 : decode cL_undone 218 = .ok (.goto 185, 3) := by decide +kernel
theorem dL_undone_221 : decode cL_undone 221 = .ok (.aload_n 1, 1) := by decide +kernel
theorem dL_undone_222 : decode cL_undone 222 = .ok (.invokevirtual 175, 3) := by decide +kernel
theorem dL_undone_225 : decode cL_undone 225 = .ok (.istore 7, 2) := by decide +kernel
theorem dL_undone_227 : decode cL_undone 227 = .ok (.goto 176, 3) := by decide +kernel
theorem dL_undone_230 : decode cL_undone 230 = .ok (.aload_n 1, 1) := by decide +kernel
theorem dL_undone_231 : decode cL_undone 231 = .ok (.iload 6, 2) := by decide +kernel
theorem dL_undone_233 : decode cL_undone 233 = .ok (.bipush 7, 2) := by decide +kernel
theorem dL_undone_235 : decode cL_undone 235 = .ok (.irem, 1) := by decide +kernel
theorem dL_undone_236 : decode cL_undone 236 = .ok (.iload 6, 2) := by decide +kernel
theorem dL_undone_238 : decode cL_undone 238 = .ok (.iconst 3, 1) := by decide +kernel
theorem dL_undone_239 : decode cL_undone 239 = .ok (.iushr, 1) := by decide +kernel
theorem dL_undone_240 : decode cL_undone 240 = .ok (.bipush 9, 2) := by decide +kernel
theorem dL_undone_242 : decode cL_undone 242 = .ok (.irem, 1) := by decide +kernel
theorem dL_undone_243 : decode cL_undone 243 = .ok (.iload 6, 2) := by decide +kernel
theorem dL_undone_245 : decode cL_undone 245 = .ok (.bipush 7, 2) := by decide +kernel
theorem dL_undone_247 : decode cL_undone 247 = .ok (.iushr, 1) := by decide +kernel
theorem dL_undone_248 : decode cL_undone 248 = .ok (.bipush 22, 2) := by decide +kernel
theorem dL_undone_250 : decode cL_undone 250 = .ok (.irem, 1) := by decide +kernel
theorem dL_undone_251 : decode cL_undone 251 = .ok (.invokestatic 181, 3) := by decide +kernel
theorem dL_undone_254 : decode cL_undone 254 = .ok (.istore 7, 2) := by decide +kernel
theorem dL_undone_256 : decode cL_undone 256 = .ok (.goto 147, 3) := by decide +kernel
theorem dL_undone_259 : decode cL_undone 259 = .ok (.aload_n 1, 1) := by decide +kernel
theorem dL_undone_260 : decode cL_undone 260 = .ok (.iload 6, 2) := by decide +kernel
theorem dL_undone_262 : decode cL_undone 262 = .ok (.bipush 22, 2) := by decide +kernel
theorem dL_undone_264 : decode cL_undone 264 = .ok (.irem, 1) := by decide +kernel
theorem dL_undone_265 : decode cL_undone 265 = .ok (.invokestatic 184, 3) := by decide +kernel
theorem dL_undone_268 : decode cL_undone 268 = .ok (.istore 7, 2) := by decide +kernel
theorem dL_undone_270 : decode cL_undone 270 = .ok (.goto 133, 3) := by decide +kernel
theorem dL_undone_273 : decode cL_undone 273 = .ok (.aload_n 1, 1) := by decide +kernel
theorem dL_undone_274 : decode cL_undone 274 = .ok (.iload 6, 2) := by decide +kernel
theorem dL_undone_276 : decode cL_undone 276 = .ok (.bipush 9, 2) := by decide +kernel
theorem dL_undone_278 : decode cL_undone 278 = .ok (.irem, 1) := by decide +kernel
theorem dL_undone_279 : decode cL_undone 279 = .ok (.invokestatic 187, 3) := by decide +kernel
theorem dL_undone_282 : decode cL_undone 282 = .ok (.istore 7, 2) := by decide +kernel
theorem dL_undone_284 : decode cL_undone 284 = .ok (.goto 119, 3) := by decide +kernel
theorem dL_undone_287 : decode cL_undone 287 = .ok (.iload 6, 2) := by decide +kernel
theorem dL_undone_289 : decode cL_undone 289 = .ok (.iconst 2, 1) := by decide +kernel
theorem dL_undone_290 : decode cL_undone 290 = .ok (.irem, 1) := by decide +kernel
theorem dL_undone_291 : decode cL_undone 291 = .ok (.ifCond .ne 17, 3) := by decide +kernel
theorem dL_undone_294 : decode cL_undone 294 = .ok (.aload_n 1, 1) := by decide +kernel
theorem dL_undone_295 : decode cL_undone 295 = .ok (.iload 6, 2) := by decide +kernel
theorem dL_undone_297 : decode cL_undone 297 = .ok (.iconst 1, 1) := by decide +kernel
theorem dL_undone_298 : decode cL_undone 298 = .ok (.iushr, 1) := by decide +kernel
theorem dL_undone_299 : decode cL_undone 299 = .ok (.bipush 9, 2) := by decide +kernel
theorem dL_undone_301 : decode cL_undone 301 = .ok (.irem, 1) := by decide +kernel
theorem dL_undone_302 : decode cL_undone 302 = .ok (.invokestatic 189, 3) := by decide +kernel
theorem dL_undone_305 : decode cL_undone 305 = .ok (.goto 13, 3) := by decide +kernel
theorem dL_undone_308 : decode cL_undone 308 = .ok (.aload_n 1, 1) := by decide +kernel
theorem dL_undone_309 : decode cL_undone 309 = .ok (.iload 6, 2) := by decide +kernel
theorem dL_undone_311 : decode cL_undone 311 = .ok (.iconst 1, 1) := by decide +kernel
theorem dL_undone_312 : decode cL_undone 312 = .ok (.iushr, 1) := by decide +kernel
theorem dL_undone_313 : decode cL_undone 313 = .ok (.iconst 4, 1) := by decide +kernel
theorem dL_undone_314 : decode cL_undone 314 = .ok (.irem, 1) := by decide +kernel
theorem dL_undone_315 : decode cL_undone 315 = .ok (.invokestatic 370, 3) := by decide +kernel
theorem dL_undone_318 : decode cL_undone 318 = .ok (.istore 7, 2) := by decide +kernel
theorem dL_undone_320 : decode cL_undone 320 = .ok (.goto 83, 3) := by decide +kernel
theorem dL_undone_323 : decode cL_undone 323 = .ok (.aload_n 1, 1) := by decide +kernel
theorem dL_undone_324 : decode cL_undone 324 = .ok (.new 322, 3) := by decide +kernel
theorem dL_undone_327 : decode cL_undone 327 = .ok (.dup, 1) := by decide +kernel
theorem dL_undone_328 : decode cL_undone 328 = .ok (.invokespecial 324, 3) := by decide +kernel
theorem dL_undone_331 : decode cL_undone 331 = .ok (.ldc_w 372, 3) := by decide +kernel
theorem dL_undone_334 : decode cL_undone 334 = .ok (.invokevirtual 327, 3) := by decide +kernel
theorem dL_undone_337 : decode cL_undone 337 = .ok (.iload 6, 2) := by decide +kernel
theorem dL_undone_339 : decode cL_undone 339 = .ok (.bipush 21, 2) := by decide +kernel
theorem dL_undone_341 : decode cL_undone 341 = .ok (.irem, 1) := by decide +kernel
theorem dL_undone_342 : decode cL_undone 342 = .ok (.invokevirtual 333, 3) := by decide +kernel
theorem dL_undone_345 : decode cL_undone 345 = .ok (.ldc_w 374, 3) := by decide +kernel
theorem dL_undone_348 : decode cL_undone 348 = .ok (.invokevirtual 327, 3) := by decide +kernel
theorem dL_undone_351 : decode cL_undone 351 = .ok (.iload 6, 2) := by decide +kernel
theorem dL_undone_353 : decode cL_undone 353 = .ok (.iconst 5, 1) := by decide +kernel
theorem dL_undone_354 : decode cL_undone 354 = .ok (.iushr, 1) := by decide +kernel
theorem dL_undone_355 : decode cL_undone 355 = .ok (.bipush 6, 2) := by decide +kernel
theorem dL_undone_357 : decode cL_undone 357 = .ok (.irem, 1) := by decide +kernel
theorem dL_undone_358 : decode cL_undone 358 = .ok (.invokevirtual 333, 3) := by decide +kernel
theorem dL_undone_361 : decode cL_undone 361 = .ok (.ldc_w 340, 3) := by decide +kernel
theorem dL_undone_364 : decode cL_undone 364 = .ok (.invokevirtual 327, 3) := by decide +kernel
theorem dL_undone_367 : decode cL_undone 367 = .ok (.iload 6, 2) := by decide +kernel
theorem dL_undone_369 : decode cL_undone 369 = .ok (.bipush 8, 2) := by decide +kernel
theorem dL_undone_371 : decode cL_undone 371 = .ok (.iushr, 1) := by decide +kernel
theorem dL_undone_372 : decode cL_undone 372 = .ok (.bipush 8, 2) := by decide +kernel
theorem dL_undone_374 : decode cL_undone 374 = .ok (.irem, 1) := by decide +kernel
theorem dL_undone_375 : decode cL_undone 375 = .ok (.invokevirtual 333, 3) := by decide +kernel
theorem dL_undone_378 : decode cL_undone 378 = .ok (.ldc_w 376, 3) := by decide +kernel
theorem dL_undone_381 : decode cL_undone 381 = .ok (.invokevirtual 327, 3) := by decide +kernel
theorem dL_undone_384 : decode cL_undone 384 = .ok (.iload 6, 2) := by decide +kernel
theorem dL_undone_386 : decode cL_undone 386 = .ok (.bipush 12, 2) := by decide +kernel
theorem dL_undone_388 : decode cL_undone 388 = .ok (.iushr, 1) := by decide +kernel
theorem dL_undone_389 : decode cL_undone 389 = .ok (.bipush 8, 2) := by decide +kernel
theorem dL_undone_391 : decode cL_undone 391 = .ok (.irem, 1) := by decide +kernel
theorem dL_undone_392 : decode cL_undone 392 = .ok (.invokevirtual 333, 3) := by decide +kernel
theorem dL_undone_395 : decode cL_undone 395 = .ok (.invokevirtual 336, 3) := by decide +kernel
theorem dL_undone_398 : decode cL_undone 398 = .ok (.invokestatic 378, 3) := by decide +kernel
theorem dL_undone_401 : decode cL_undone 401 = .ok (.istore 7, 2) := by decide +kernel
theorem dL_undone_403 : decode cL_undone 403 = .ok (.iload 7, 2) := by decide +kernel
theorem dL_undone_405 : decode cL_undone 405 = .ok (.ifCond .ge 16, 3) := by decide +kernel
theorem dL_undone_408 : decode cL_undone 408 = .ok (.aload_n 1, 1) := by decide +kernel
theorem dL_undone_409 : decode cL_undone 409 = .ok (.invokestatic 366, 3) := by decide +kernel
theorem dL_undone_412 : decode cL_undone 412 = .ok (.aload_n 2, 1) := by decide +kernel
theorem dL_undone_413 : decode cL_undone 413 = .ok (.iload_n 3, 1) := by decide +kernel
theorem dL_undone_414 : decode cL_undone 414 = .ok (.laload, 1) := by decide +kernel
theorem dL_undone_415 : decode cL_undone 415 = .ok (.lcmp, 1) := by decide +kernel
theorem dL_undone_416 : decode cL_undone 416 = .ok (.ifCond .eq 5, 3) := by decide +kernel
theorem dL_undone_419 : decode cL_undone 419 = .ok (.iconst 0, 1) := by decide +kernel
theorem dL_undone_420 : decode cL_undone 420 = .ok (.ireturn, 1) := by decide +kernel
theorem dL_undone_421 : decode cL_undone 421 = .ok (.iload_n 3, 1) := by decide +kernel
theorem dL_undone_422 : decode cL_undone 422 = .ok (.iload 7, 2) := by decide +kernel
theorem dL_undone_424 : decode cL_undone 424 = .ok (.ifCond .ge 7, 3) := by decide +kernel
theorem dL_undone_427 : decode cL_undone 427 = .ok (.iconst 0, 1) := by decide +kernel
theorem dL_undone_428 : decode cL_undone 428 = .ok (.goto 4, 3) := by decide +kernel
theorem dL_undone_431 : decode cL_undone 431 = .ok (.iconst 1, 1) := by decide +kernel
theorem dL_undone_432 : decode cL_undone 432 = .ok (.iadd, 1) := by decide +kernel
theorem dL_undone_433 : decode cL_undone 433 = .ok (.istore_n 3, 1) := by decide +kernel
theorem dL_undone_434 : decode cL_undone 434 = .ok (.iinc 4 1, 3) := by decide +kernel
theorem dL_undone_437 : decode cL_undone 437 = .ok (.goto (-427), 3) := by decide +kernel
theorem dL_undone_440 : decode cL_undone 440 = .ok (.iload_n 3, 1) := by decide +kernel
theorem dL_undone_441 : decode cL_undone 441 = .ok (.iconst 1, 1) := by decide +kernel
theorem dL_undone_442 : decode cL_undone 442 = .ok (.isub, 1) := by decide +kernel
theorem dL_undone_443 : decode cL_undone 443 = .ok (.istore 4, 2) := by decide +kernel
theorem dL_undone_445 : decode cL_undone 445 = .ok (.iload 4, 2) := by decide +kernel
theorem dL_undone_447 : decode cL_undone 447 = .ok (.ifCond .lt 30, 3) := by decide +kernel
theorem dL_undone_450 : decode cL_undone 450 = .ok (.aload_n 1, 1) := by decide +kernel
theorem dL_undone_451 : decode cL_undone 451 = .ok (.invokestatic 381, 3) := by decide +kernel
theorem dL_undone_454 : decode cL_undone 454 = .ok (.ifCond .lt 15, 3) := by decide +kernel
theorem dL_undone_457 : decode cL_undone 457 = .ok (.aload_n 1, 1) := by decide +kernel
theorem dL_undone_458 : decode cL_undone 458 = .ok (.invokestatic 366, 3) := by decide +kernel
theorem dL_undone_461 : decode cL_undone 461 = .ok (.aload_n 2, 1) := by decide +kernel
theorem dL_undone_462 : decode cL_undone 462 = .ok (.iload 4, 2) := by decide +kernel
theorem dL_undone_464 : decode cL_undone 464 = .ok (.laload, 1) := by decide +kernel
theorem dL_undone_465 : decode cL_undone 465 = .ok (.lcmp, 1) := by decide +kernel
theorem dL_undone_466 : decode cL_undone 466 = .ok (.ifCond .eq 5, 3) := by decide +kernel
theorem dL_undone_469 : decode cL_undone 469 = .ok (.iconst 0, 1) := by decide +kernel
theorem dL_undone_470 : decode cL_undone 470 = .ok (.ireturn, 1) := by decide +kernel
theorem dL_undone_471 : decode cL_undone 471 = .ok (.iinc 4 (-1), 3) := by decide +kernel
theorem dL_undone_474 : decode cL_undone 474 = .ok (.goto (-29), 3) := by decide +kernel
theorem dL_undone_477 : decode cL_undone 477 = .ok (.iconst 1, 1) := by decide +kernel
theorem dL_undone_478 : decode cL_undone 478 = .ok (.ireturn, 1) := by decide +kernel
theorem dL_law_0 : decode cL_law 0 = .ok (.aload_n 0, 1) := by decide +kernel
theorem dL_law_1 : decode cL_law 1 = .ok (.invokestatic 200, 3) := by decide +kernel
theorem dL_law_4 : decode cL_law 4 = .ok (.astore_n 1, 1) := by decide +kernel
theorem dL_law_5 : decode cL_law 5 = .ok (.aload_n 1, 1) := by decide +kernel
theorem dL_law_6 : decode cL_law 6 = .ok (.ifnull 50, 3) := by decide +kernel
theorem dL_law_9 : decode cL_law 9 = .ok (.aload_n 1, 1) := by decide +kernel
theorem dL_law_10 : decode cL_law 10 = .ok (.invokestatic 204, 3) := by decide +kernel
theorem dL_law_13 : decode cL_law 13 = .ok (.ifCond .eq 43, 3) := by decide +kernel
theorem dL_law_16 : decode cL_law 16 = .ok (.aload_n 1, 1) := by decide +kernel
theorem dL_law_17 : decode cL_law 17 = .ok (.invokestatic 208, 3) := by decide +kernel
theorem dL_law_20 : decode cL_law 20 = .ok (.ifCond .eq 36, 3) := by decide +kernel
theorem dL_law_23 : decode cL_law 23 = .ok (.aload_n 1, 1) := by decide +kernel
theorem dL_law_24 : decode cL_law 24 = .ok (.invokestatic 211, 3) := by decide +kernel
theorem dL_law_27 : decode cL_law 27 = .ok (.ifCond .eq 29, 3) := by decide +kernel
theorem dL_law_30 : decode cL_law 30 = .ok (.aload_n 1, 1) := by decide +kernel
theorem dL_law_31 : decode cL_law 31 = .ok (.invokestatic 214, 3) := by decide +kernel
theorem dL_law_34 : decode cL_law 34 = .ok (.ifCond .eq 22, 3) := by decide +kernel
theorem dL_law_37 : decode cL_law 37 = .ok (.aload_n 1, 1) := by decide +kernel
theorem dL_law_38 : decode cL_law 38 = .ok (.invokestatic 217, 3) := by decide +kernel
theorem dL_law_41 : decode cL_law 41 = .ok (.ifCond .eq 15, 3) := by decide +kernel
theorem dL_law_44 : decode cL_law 44 = .ok (.aload_n 0, 1) := by decide +kernel
theorem dL_law_45 : decode cL_law 45 = .ok (.aload_n 1, 1) := by decide +kernel
theorem dL_law_46 : decode cL_law 46 = .ok (.invokestatic 220, 3) := by decide +kernel
