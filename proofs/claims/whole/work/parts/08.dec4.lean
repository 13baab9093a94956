theorem dX7_goesOn_62 : decode cX7_goesOn 62 = .ok (.iaload, 1) := by decide +kernel
theorem dX7_goesOn_63 : decode cX7_goesOn 63 = .ok (.imul, 1) := by decide +kernel
theorem dX7_goesOn_64 : decode cX7_goesOn 64 = .ok (.invokevirtual 182, 3) := by decide +kernel
theorem dX7_goesOn_67 : decode cX7_goesOn 67 = .ok (.istore 7, 2) := by decide +kernel
theorem dX7_goesOn_69 : decode cX7_goesOn 69 = .ok (.aload_n 0, 1) := by decide +kernel
theorem dX7_goesOn_70 : decode cX7_goesOn 70 = .ok (.iload 4, 2) := by decide +kernel
theorem dX7_goesOn_72 : decode cX7_goesOn 72 = .ok (.invokevirtual 123, 3) := by decide +kernel
theorem dX7_goesOn_75 : decode cX7_goesOn 75 = .ok (.aload_n 0, 1) := by decide +kernel
theorem dX7_goesOn_76 : decode cX7_goesOn 76 = .ok (.iload 5, 2) := by decide +kernel
theorem dX7_goesOn_78 : decode cX7_goesOn 78 = .ok (.invokevirtual 123, 3) := by decide +kernel
theorem dX7_goesOn_81 : decode cX7_goesOn 81 = .ok (.if_icmp .ne 8, 3) := by decide +kernel
theorem dX7_goesOn_84 : decode cX7_goesOn 84 = .ok (.iload 7, 2) := by decide +kernel
theorem dX7_goesOn_86 : decode cX7_goesOn 86 = .ok (.ineg, 1) := by decide +kernel
theorem dX7_goesOn_87 : decode cX7_goesOn 87 = .ok (.istore 7, 2) := by decide +kernel
theorem dX7_goesOn_89 : decode cX7_goesOn 89 = .ok (.iload 7, 2) := by decide +kernel
theorem dX7_goesOn_91 : decode cX7_goesOn 91 = .ok (.sipush 32767, 3) := by decide +kernel
theorem dX7_goesOn_94 : decode cX7_goesOn 94 = .ok (.if_icmp .le 8, 3) := by decide +kernel
theorem dX7_goesOn_97 : decode cX7_goesOn 97 = .ok (.sipush 32767, 3) := by decide +kernel
theorem dX7_goesOn_100 : decode cX7_goesOn 100 = .ok (.istore 7, 2) := by decide +kernel
theorem dX7_goesOn_102 : decode cX7_goesOn 102 = .ok (.aload_n 0, 1) := by decide +kernel
theorem dX7_goesOn_103 : decode cX7_goesOn 103 = .ok (.iload 4, 2) := by decide +kernel
theorem dX7_goesOn_105 : decode cX7_goesOn 105 = .ok (.invokevirtual 123, 3) := by decide +kernel
theorem dX7_goesOn_108 : decode cX7_goesOn 108 = .ok (.aload_n 0, 1) := by decide +kernel
theorem dX7_goesOn_109 : decode cX7_goesOn 109 = .ok (.iload 6, 2) := by decide +kernel
theorem dX7_goesOn_111 : decode cX7_goesOn 111 = .ok (.invokevirtual 123, 3) := by decide +kernel
theorem dX7_goesOn_114 : decode cX7_goesOn 114 = .ok (.if_icmp .ne 9, 3) := by decide +kernel
theorem dX7_goesOn_117 : decode cX7_goesOn 117 = .ok (.sipush 128, 3) := by decide +kernel
theorem dX7_goesOn_120 : decode cX7_goesOn 120 = .ok (.goto 5, 3) := by decide +kernel
theorem dX7_goesOn_123 : decode cX7_goesOn 123 = .ok (.bipush (-128), 2) := by decide +kernel
theorem dX7_goesOn_125 : decode cX7_goesOn 125 = .ok (.iload 7, 2) := by decide +kernel
theorem dX7_goesOn_127 : decode cX7_goesOn 127 = .ok (.bipush 7, 2) := by decide +kernel
theorem dX7_goesOn_129 : decode cX7_goesOn 129 = .ok (.ishr, 1) := by decide +kernel
theorem dX7_goesOn_130 : decode cX7_goesOn 130 = .ok (.iadd, 1) := by decide +kernel
theorem dX7_goesOn_131 : decode cX7_goesOn 131 = .ok (.aload_n 0, 1) := by decide +kernel
theorem dX7_goesOn_132 : decode cX7_goesOn 132 = .ok (.getfield 69, 3) := by decide +kernel
theorem dX7_goesOn_135 : decode cX7_goesOn 135 = .ok (.iload_n 1, 1) := by decide +kernel
theorem dX7_goesOn_136 : decode cX7_goesOn 136 = .ok (.bipush 6, 2) := by decide +kernel
theorem dX7_goesOn_138 : decode cX7_goesOn 138 = .ok (.iadd, 1) := by decide +kernel
theorem dX7_goesOn_139 : decode cX7_goesOn 139 = .ok (.iaload, 1) := by decide +kernel
theorem dX7_goesOn_140 : decode cX7_goesOn 140 = .ok (.sipush 32512, 3) := by decide +kernel
theorem dX7_goesOn_143 : decode cX7_goesOn 143 = .ok (.imul, 1) := by decide +kernel
theorem dX7_goesOn_144 : decode cX7_goesOn 144 = .ok (.bipush 15, 2) := by decide +kernel
theorem dX7_goesOn_146 : decode cX7_goesOn 146 = .ok (.ishr, 1) := by decide +kernel
theorem dX7_goesOn_147 : decode cX7_goesOn 147 = .ok (.iadd, 1) := by decide +kernel
theorem dX7_goesOn_148 : decode cX7_goesOn 148 = .ok (.istore 8, 2) := by decide +kernel
theorem dX7_goesOn_150 : decode cX7_goesOn 150 = .ok (.aload_n 0, 1) := by decide +kernel
theorem dX7_goesOn_151 : decode cX7_goesOn 151 = .ok (.getfield 69, 3) := by decide +kernel
theorem dX7_goesOn_154 : decode cX7_goesOn 154 = .ok (.iload_n 1, 1) := by decide +kernel
theorem dX7_goesOn_155 : decode cX7_goesOn 155 = .ok (.bipush 6, 2) := by decide +kernel
theorem dX7_goesOn_157 : decode cX7_goesOn 157 = .ok (.iadd, 1) := by decide +kernel
theorem dX7_goesOn_158 : decode cX7_goesOn 158 = .ok (.aload_n 0, 1) := by decide +kernel
theorem dX7_goesOn_159 : decode cX7_goesOn 159 = .ok (.iload 8, 2) := by decide +kernel
theorem dX7_goesOn_161 : decode cX7_goesOn 161 = .ok (.sipush (-12288), 3) := by decide +kernel
theorem dX7_goesOn_164 : decode cX7_goesOn 164 = .ok (.sipush 12288, 3) := by decide +kernel
theorem dX7_goesOn_167 : decode cX7_goesOn 167 = .ok (.invokevirtual 169, 3) := by decide +kernel
theorem dX7_goesOn_170 : decode cX7_goesOn 170 = .ok (.iastore, 1) := by decide +kernel
theorem dX7_goesOn_171 : decode cX7_goesOn 171 = .ok (.aload_n 0, 1) := by decide +kernel
theorem dX7_goesOn_172 : decode cX7_goesOn 172 = .ok (.aload_n 0, 1) := by decide +kernel
theorem dX7_goesOn_173 : decode cX7_goesOn 173 = .ok (.iload 4, 2) := by decide +kernel
theorem dX7_goesOn_175 : decode cX7_goesOn 175 = .ok (.invokevirtual 123, 3) := by decide +kernel
theorem dX7_goesOn_178 : decode cX7_goesOn 178 = .ok (.aload_n 0, 1) := by decide +kernel
theorem dX7_goesOn_179 : decode cX7_goesOn 179 = .ok (.iload 5, 2) := by decide +kernel
theorem dX7_goesOn_181 : decode cX7_goesOn 181 = .ok (.invokevirtual 123, 3) := by decide +kernel
theorem dX7_goesOn_184 : decode cX7_goesOn 184 = .ok (.if_icmp .ne 9, 3) := by decide +kernel
theorem dX7_goesOn_187 : decode cX7_goesOn 187 = .ok (.sipush 192, 3) := by decide +kernel
theorem dX7_goesOn_190 : decode cX7_goesOn 190 = .ok (.goto 6, 3) := by decide +kernel
theorem dX7_goesOn_193 : decode cX7_goesOn 193 = .ok (.sipush (-192), 3) := by decide +kernel
theorem dX7_goesOn_196 : decode cX7_goesOn 196 = .ok (.aload_n 0, 1) := by decide +kernel
theorem dX7_goesOn_197 : decode cX7_goesOn 197 = .ok (.getfield 69, 3) := by decide +kernel
theorem dX7_goesOn_200 : decode cX7_goesOn 200 = .ok (.iload_n 1, 1) := by decide +kernel
theorem dX7_goesOn_201 : decode cX7_goesOn 201 = .ok (.iconst 5, 1) := by decide +kernel
theorem dX7_goesOn_202 : decode cX7_goesOn 202 = .ok (.iadd, 1) := by decide +kernel
theorem dX7_goesOn_203 : decode cX7_goesOn 203 = .ok (.iaload, 1) := by decide +kernel
theorem dX7_goesOn_204 : decode cX7_goesOn 204 = .ok (.sipush 32640, 3) := by decide +kernel
theorem dX7_goesOn_207 : decode cX7_goesOn 207 = .ok (.imul, 1) := by decide +kernel
theorem dX7_goesOn_208 : decode cX7_goesOn 208 = .ok (.bipush 15, 2) := by decide +kernel
theorem dX7_goesOn_210 : decode cX7_goesOn 210 = .ok (.ishr, 1) := by decide +kernel
theorem dX7_goesOn_211 : decode cX7_goesOn 211 = .ok (.iadd, 1) := by decide +kernel
theorem dX7_goesOn_212 : decode cX7_goesOn 212 = .ok (.invokevirtual 182, 3) := by decide +kernel
theorem dX7_goesOn_215 : decode cX7_goesOn 215 = .ok (.istore 9, 2) := by decide +kernel
theorem dX7_goesOn_217 : decode cX7_goesOn 217 = .ok (.aload_n 0, 1) := by decide +kernel
theorem dX7_goesOn_218 : decode cX7_goesOn 218 = .ok (.getfield 69, 3) := by decide +kernel
theorem dX7_goesOn_221 : decode cX7_goesOn 221 = .ok (.iload_n 1, 1) := by decide +kernel
theorem dX7_goesOn_222 : decode cX7_goesOn 222 = .ok (.iconst 5, 1) := by decide +kernel
theorem dX7_goesOn_223 : decode cX7_goesOn 223 = .ok (.iadd, 1) := by decide +kernel
theorem dX7_goesOn_224 : decode cX7_goesOn 224 = .ok (.aload_n 0, 1) := by decide +kernel
theorem dX7_goesOn_225 : decode cX7_goesOn 225 = .ok (.iload 9, 2) := by decide +kernel
theorem dX7_goesOn_227 : decode cX7_goesOn 227 = .ok (.aload_n 0, 1) := by decide +kernel
theorem dX7_goesOn_228 : decode cX7_goesOn 228 = .ok (.getfield 69, 3) := by decide +kernel
theorem dX7_goesOn_231 : decode cX7_goesOn 231 = .ok (.iload_n 1, 1) := by decide +kernel
theorem dX7_goesOn_232 : decode cX7_goesOn 232 = .ok (.bipush 6, 2) := by decide +kernel
theorem dX7_goesOn_234 : decode cX7_goesOn 234 = .ok (.iadd, 1) := by decide +kernel
theorem dX7_goesOn_235 : decode cX7_goesOn 235 = .ok (.iaload, 1) := by decide +kernel
theorem dX7_goesOn_236 : decode cX7_goesOn 236 = .ok (.sipush 15360, 3) := by decide +kernel
theorem dX7_goesOn_239 : decode cX7_goesOn 239 = .ok (.isub, 1) := by decide +kernel
theorem dX7_goesOn_240 : decode cX7_goesOn 240 = .ok (.sipush 15360, 3) := by decide +kernel
theorem dX7_goesOn_243 : decode cX7_goesOn 243 = .ok (.aload_n 0, 1) := by decide +kernel
theorem dX7_goesOn_244 : decode cX7_goesOn 244 = .ok (.getfield 69, 3) := by decide +kernel
theorem dX7_goesOn_247 : decode cX7_goesOn 247 = .ok (.iload_n 1, 1) := by decide +kernel
theorem dX7_goesOn_248 : decode cX7_goesOn 248 = .ok (.bipush 6, 2) := by decide +kernel
theorem dX7_goesOn_250 : decode cX7_goesOn 250 = .ok (.iadd, 1) := by decide +kernel
theorem dX7_goesOn_251 : decode cX7_goesOn 251 = .ok (.iaload, 1) := by decide +kernel
theorem dX7_goesOn_252 : decode cX7_goesOn 252 = .ok (.isub, 1) := by decide +kernel
theorem dX7_goesOn_253 : decode cX7_goesOn 253 = .ok (.invokevirtual 169, 3) := by decide +kernel
theorem dX7_goesOn_256 : decode cX7_goesOn 256 = .ok (.iastore, 1) := by decide +kernel
theorem dX7_goesOn_257 : decode cX7_goesOn 257 = .ok (.iconst 0, 1) := by decide +kernel
theorem dX7_goesOn_258 : decode cX7_goesOn 258 = .ok (.istore 10, 2) := by decide +kernel
theorem dX7_goesOn_260 : decode cX7_goesOn 260 = .ok (.iload 10, 2) := by decide +kernel
theorem dX7_goesOn_262 : decode cX7_goesOn 262 = .ok (.bipush 6, 2) := by decide +kernel
theorem dX7_goesOn_264 : decode cX7_goesOn 264 = .ok (.if_icmp .ge 89, 3) := by decide +kernel
theorem dX7_goesOn_267 : decode cX7_goesOn 267 = .ok (.iload_n 2, 1) := by decide +kernel
theorem dX7_goesOn_268 : decode cX7_goesOn 268 = .ok (.ifCond .ne 7, 3) := by decide +kernel
theorem dX7_goesOn_271 : decode cX7_goesOn 271 = .ok (.iconst 0, 1) := by decide +kernel
theorem dX7_goesOn_272 : decode cX7_goesOn 272 = .ok (.goto 35, 3) := by decide +kernel
theorem dX7_goesOn_275 : decode cX7_goesOn 275 = .ok (.aload_n 0, 1) := by decide +kernel
theorem dX7_goesOn_276 : decode cX7_goesOn 276 = .ok (.iload_n 2, 1) := by decide +kernel
theorem dX7_goesOn_277 : decode cX7_goesOn 277 = .ok (.invokevirtual 123, 3) := by decide +kernel
theorem dX7_goesOn_280 : decode cX7_goesOn 280 = .ok (.aload_n 0, 1) := by decide +kernel
theorem dX7_goesOn_281 : decode cX7_goesOn 281 = .ok (.aload_n 0, 1) := by decide +kernel
theorem dX7_goesOn_282 : decode cX7_goesOn 282 = .ok (.getfield 69, 3) := by decide +kernel
theorem dX7_goesOn_285 : decode cX7_goesOn 285 = .ok (.iload_n 1, 1) := by decide +kernel
theorem dX7_goesOn_286 : decode cX7_goesOn 286 = .ok (.bipush 17, 2) := by decide +kernel
theorem dX7_goesOn_288 : decode cX7_goesOn 288 = .ok (.iadd, 1) := by decide +kernel
theorem dX7_goesOn_289 : decode cX7_goesOn 289 = .ok (.iload 10, 2) := by decide +kernel
theorem dX7_goesOn_291 : decode cX7_goesOn 291 = .ok (.iadd, 1) := by decide +kernel
theorem dX7_goesOn_292 : decode cX7_goesOn 292 = .ok (.iaload, 1) := by decide +kernel
theorem dX7_goesOn_293 : decode cX7_goesOn 293 = .ok (.invokevirtual 123, 3) := by decide +kernel
theorem dX7_goesOn_296 : decode cX7_goesOn 296 = .ok (.if_icmp .ne 9, 3) := by decide +kernel
theorem dX7_goesOn_299 : decode cX7_goesOn 299 = .ok (.sipush 128, 3) := by decide +kernel
theorem dX7_goesOn_302 : decode cX7_goesOn 302 = .ok (.goto 5, 3) := by decide +kernel
theorem dX7_goesOn_305 : decode cX7_goesOn 305 = .ok (.bipush (-128), 2) := by decide +kernel
theorem dX7_goesOn_307 : decode cX7_goesOn 307 = .ok (.istore 11, 2) := by decide +kernel
theorem dX7_goesOn_309 : decode cX7_goesOn 309 = .ok (.aload_n 0, 1) := by decide +kernel
theorem dX7_goesOn_310 : decode cX7_goesOn 310 = .ok (.getfield 69, 3) := by decide +kernel
theorem dX7_goesOn_313 : decode cX7_goesOn 313 = .ok (.iload_n 1, 1) := by decide +kernel
theorem dX7_goesOn_314 : decode cX7_goesOn 314 = .ok (.bipush 7, 2) := by decide +kernel
theorem dX7_goesOn_316 : decode cX7_goesOn 316 = .ok (.iadd, 1) := by decide +kernel
theorem dX7_goesOn_317 : decode cX7_goesOn 317 = .ok (.iload 10, 2) := by decide +kernel
theorem dX7_goesOn_319 : decode cX7_goesOn 319 = .ok (.iadd, 1) := by decide +kernel
theorem dX7_goesOn_320 : decode cX7_goesOn 320 = .ok (.aload_n 0, 1) := by decide +kernel
theorem dX7_goesOn_321 : decode cX7_goesOn 321 = .ok (.iload 11, 2) := by decide +kernel
theorem dX7_goesOn_323 : decode cX7_goesOn 323 = .ok (.aload_n 0, 1) := by decide +kernel
theorem dX7_goesOn_324 : decode cX7_goesOn 324 = .ok (.getfield 69, 3) := by decide +kernel
theorem dX7_goesOn_327 : decode cX7_goesOn 327 = .ok (.iload_n 1, 1) := by decide +kernel
theorem dX7_goesOn_328 : decode cX7_goesOn 328 = .ok (.bipush 7, 2) := by decide +kernel
theorem dX7_goesOn_330 : decode cX7_goesOn 330 = .ok (.iadd, 1) := by decide +kernel
theorem dX7_goesOn_331 : decode cX7_goesOn 331 = .ok (.iload 10, 2) := by decide +kernel
theorem dX7_goesOn_333 : decode cX7_goesOn 333 = .ok (.iadd, 1) := by decide +kernel
theorem dX7_goesOn_334 : decode cX7_goesOn 334 = .ok (.iaload, 1) := by decide +kernel
theorem dX7_goesOn_335 : decode cX7_goesOn 335 = .ok (.sipush 32640, 3) := by decide +kernel
theorem dX7_goesOn_338 : decode cX7_goesOn 338 = .ok (.imul, 1) := by decide +kernel
theorem dX7_goesOn_339 : decode cX7_goesOn 339 = .ok (.bipush 15, 2) := by decide +kernel
theorem dX7_goesOn_341 : decode cX7_goesOn 341 = .ok (.ishr, 1) := by decide +kernel
theorem dX7_goesOn_342 : decode cX7_goesOn 342 = .ok (.iadd, 1) := by decide +kernel
theorem dX7_goesOn_343 : decode cX7_goesOn 343 = .ok (.invokevirtual 182, 3) := by decide +kernel
theorem dX7_goesOn_346 : decode cX7_goesOn 346 = .ok (.iastore, 1) := by decide +kernel
theorem dX7_goesOn_347 : decode cX7_goesOn 347 = .ok (.iinc 10 1, 3) := by decide +kernel
theorem dX7_goesOn_350 : decode cX7_goesOn 350 = .ok (.goto (-90), 3) := by decide +kernel
theorem dX7_goesOn_353 : decode cX7_goesOn 353 = .ok (.iconst 5, 1) := by decide +kernel
theorem dX7_goesOn_354 : decode cX7_goesOn 354 = .ok (.istore 10, 2) := by decide +kernel
theorem dX7_goesOn_356 : decode cX7_goesOn 356 = .ok (.iload 10, 2) := by decide +kernel
theorem dX7_goesOn_358 : decode cX7_goesOn 358 = .ok (.ifCond .le 35, 3) := by decide +kernel
theorem dX7_goesOn_361 : decode cX7_goesOn 361 = .ok (.aload_n 0, 1) := by decide +kernel
theorem dX7_goesOn_362 : decode cX7_goesOn 362 = .ok (.getfield 69, 3) := by decide +kernel
theorem dX7_goesOn_365 : decode cX7_goesOn 365 = .ok (.iload_n 1, 1) := by decide +kernel
theorem dX7_goesOn_366 : decode cX7_goesOn 366 = .ok (.bipush 17, 2) := by decide +kernel
theorem dX7_goesOn_368 : decode cX7_goesOn 368 = .ok (.iadd, 1) := by decide +kernel
theorem dX7_goesOn_369 : decode cX7_goesOn 369 = .ok (.iload 10, 2) := by decide +kernel
theorem dX7_goesOn_371 : decode cX7_goesOn 371 = .ok (.iadd, 1) := by decide +kernel
theorem dX7_goesOn_372 : decode cX7_goesOn 372 = .ok (.aload_n 0, 1) := by decide +kernel
theorem dX7_goesOn_373 : decode cX7_goesOn 373 = .ok (.getfield 69, 3) := by decide +kernel
theorem dX7_goesOn_376 : decode cX7_goesOn 376 = .ok (.iload_n 1, 1) := by decide +kernel
theorem dX7_goesOn_377 : decode cX7_goesOn 377 = .ok (.bipush 17, 2) := by decide +kernel
theorem dX7_goesOn_379 : decode cX7_goesOn 379 = .ok (.iadd, 1) := by decide +kernel
theorem dX7_goesOn_380 : decode cX7_goesOn 380 = .ok (.iload 10, 2) := by decide +kernel
theorem dX7_goesOn_382 : decode cX7_goesOn 382 = .ok (.iadd, 1) := by decide +kernel
theorem dX7_goesOn_383 : decode cX7_goesOn 383 = .ok (.iconst 1, 1) := by decide +kernel
theorem dX7_goesOn_384 : decode cX7_goesOn 384 = .ok (.isub, 1) := by decide +kernel
theorem dX7_goesOn_385 : decode cX7_goesOn 385 = .ok (.iaload, 1) := by decide +kernel
theorem dX7_goesOn_386 : decode cX7_goesOn 386 = .ok (.iastore, 1) := by decide +kernel
theorem dX7_goesOn_387 : decode cX7_goesOn 387 = .ok (.iinc 10 (-1), 3) := by decide +kernel
theorem dX7_goesOn_390 : decode cX7_goesOn 390 = .ok (.goto (-34), 3) := by decide +kernel
theorem dX7_goesOn_393 : decode cX7_goesOn 393 = .ok (.aload_n 0, 1) := by decide +kernel
theorem dX7_goesOn_394 : decode cX7_goesOn 394 = .ok (.getfield 69, 3) := by decide +kernel
theorem dX7_goesOn_397 : decode cX7_goesOn 397 = .ok (.iload_n 1, 1) := by decide +kernel
theorem dX7_goesOn_398 : decode cX7_goesOn 398 = .ok (.bipush 17, 2) := by decide +kernel
theorem dX7_goesOn_400 : decode cX7_goesOn 400 = .ok (.iadd, 1) := by decide +kernel
theorem dX7_goesOn_401 : decode cX7_goesOn 401 = .ok (.iload_n 2, 1) := by decide +kernel
theorem dX7_goesOn_402 : decode cX7_goesOn 402 = .ok (.iastore, 1) := by decide +kernel
theorem dX7_goesOn_403 : decode cX7_goesOn 403 = .ok (.aload_n 0, 1) := by decide +kernel
theorem dX7_goesOn_404 : decode cX7_goesOn 404 = .ok (.getfield 69, 3) := by decide +kernel
theorem dX7_goesOn_407 : decode cX7_goesOn 407 = .ok (.iload_n 1, 1) := by decide +kernel
theorem dX7_goesOn_408 : decode cX7_goesOn 408 = .ok (.bipush 14, 2) := by decide +kernel
theorem dX7_goesOn_410 : decode cX7_goesOn 410 = .ok (.iadd, 1) := by decide +kernel
theorem dX7_goesOn_411 : decode cX7_goesOn 411 = .ok (.aload_n 0, 1) := by decide +kernel
theorem dX7_goesOn_412 : decode cX7_goesOn 412 = .ok (.getfield 69, 3) := by decide +kernel
theorem dX7_goesOn_415 : decode cX7_goesOn 415 = .ok (.iload_n 1, 1) := by decide +kernel
theorem dX7_goesOn_416 : decode cX7_goesOn 416 = .ok (.bipush 13, 2) := by decide +kernel
theorem dX7_goesOn_418 : decode cX7_goesOn 418 = .ok (.iadd, 1) := by decide +kernel
theorem dX7_goesOn_419 : decode cX7_goesOn 419 = .ok (.iaload, 1) := by decide +kernel
theorem dX7_goesOn_420 : decode cX7_goesOn 420 = .ok (.iastore, 1) := by decide +kernel
theorem dX7_goesOn_421 : decode cX7_goesOn 421 = .ok (.aload_n 0, 1) := by decide +kernel
theorem dX7_goesOn_422 : decode cX7_goesOn 422 = .ok (.getfield 69, 3) := by decide +kernel
theorem dX7_goesOn_425 : decode cX7_goesOn 425 = .ok (.iload_n 1, 1) := by decide +kernel
theorem dX7_goesOn_426 : decode cX7_goesOn 426 = .ok (.bipush 13, 2) := by decide +kernel
theorem dX7_goesOn_428 : decode cX7_goesOn 428 = .ok (.iadd, 1) := by decide +kernel
theorem dX7_goesOn_429 : decode cX7_goesOn 429 = .ok (.iload_n 3, 1) := by decide +kernel
theorem dX7_goesOn_430 : decode cX7_goesOn 430 = .ok (.iastore, 1) := by decide +kernel
theorem dX7_goesOn_431 : decode cX7_goesOn 431 = .ok (.aload_n 0, 1) := by decide +kernel
theorem dX7_goesOn_432 : decode cX7_goesOn 432 = .ok (.getfield 69, 3) := by decide +kernel
theorem dX7_goesOn_435 : decode cX7_goesOn 435 = .ok (.iload_n 1, 1) := by decide +kernel
theorem dX7_goesOn_436 : decode cX7_goesOn 436 = .ok (.bipush 16, 2) := by decide +kernel
theorem dX7_goesOn_438 : decode cX7_goesOn 438 = .ok (.iadd, 1) := by decide +kernel
theorem dX7_goesOn_439 : decode cX7_goesOn 439 = .ok (.iload 5, 2) := by decide +kernel
theorem dX7_goesOn_441 : decode cX7_goesOn 441 = .ok (.iastore, 1) := by decide +kernel
theorem dX7_goesOn_442 : decode cX7_goesOn 442 = .ok (.aload_n 0, 1) := by decide +kernel
theorem dX7_goesOn_443 : decode cX7_goesOn 443 = .ok (.getfield 69, 3) := by decide +kernel
theorem dX7_goesOn_446 : decode cX7_goesOn 446 = .ok (.iload_n 1, 1) := by decide +kernel
theorem dX7_goesOn_447 : decode cX7_goesOn 447 = .ok (.bipush 15, 2) := by decide +kernel
theorem dX7_goesOn_449 : decode cX7_goesOn 449 = .ok (.iadd, 1) := by decide +kernel
theorem dX7_goesOn_450 : decode cX7_goesOn 450 = .ok (.iload 4, 2) := by decide +kernel
theorem dX7_goesOn_452 : decode cX7_goesOn 452 = .ok (.iastore, 1) := by decide +kernel
theorem dX7_goesOn_453 : decode cX7_goesOn 453 = .ok (.aload_n 0, 1) := by decide +kernel
theorem dX7_goesOn_454 : decode cX7_goesOn 454 = .ok (.getfield 69, 3) := by decide +kernel
theorem dX7_goesOn_457 : decode cX7_goesOn 457 = .ok (.iload_n 1, 1) := by decide +kernel
theorem dX7_goesOn_458 : decode cX7_goesOn 458 = .ok (.iconst 5, 1) := by decide +kernel
theorem dX7_goesOn_459 : decode cX7_goesOn 459 = .ok (.iadd, 1) := by decide +kernel
theorem dX7_goesOn_460 : decode cX7_goesOn 460 = .ok (.iaload, 1) := by decide +kernel
theorem dX7_goesOn_461 : decode cX7_goesOn 461 = .ok (.aload_n 0, 1) := by decide +kernel
theorem dX7_goesOn_462 : decode cX7_goesOn 462 = .ok (.iconst 2, 1) := by decide +kernel
theorem dX7_goesOn_463 : decode cX7_goesOn 463 = .ok (.aload_n 0, 1) := by decide +kernel
theorem dX7_goesOn_464 : decode cX7_goesOn 464 = .ok (.getfield 69, 3) := by decide +kernel
theorem dX7_goesOn_467 : decode cX7_goesOn 467 = .ok (.iload_n 1, 1) := by decide +kernel
theorem dX7_goesOn_468 : decode cX7_goesOn 468 = .ok (.bipush 13, 2) := by decide +kernel
theorem dX7_goesOn_470 : decode cX7_goesOn 470 = .ok (.iadd, 1) := by decide +kernel
theorem dX7_goesOn_471 : decode cX7_goesOn 471 = .ok (.iaload, 1) := by decide +kernel
theorem dX7_goesOn_472 : decode cX7_goesOn 472 = .ok (.imul, 1) := by decide +kernel
theorem dX7_goesOn_473 : decode cX7_goesOn 473 = .ok (.invokevirtual 182, 3) := by decide +kernel
theorem dX7_goesOn_476 : decode cX7_goesOn 476 = .ok (.imul, 1) := by decide +kernel
theorem dX7_goesOn_477 : decode cX7_goesOn 477 = .ok (.bipush 15, 2) := by decide +kernel
theorem dX7_goesOn_479 : decode cX7_goesOn 479 = .ok (.ishr, 1) := by decide +kernel
theorem dX7_goesOn_480 : decode cX7_goesOn 480 = .ok (.istore 10, 2) := by decide +kernel
theorem dX7_goesOn_482 : decode cX7_goesOn 482 = .ok (.aload_n 0, 1) := by decide +kernel
theorem dX7_goesOn_483 : decode cX7_goesOn 483 = .ok (.getfield 69, 3) := by decide +kernel
theorem dX7_goesOn_486 : decode cX7_goesOn 486 = .ok (.iload_n 1, 1) := by decide +kernel
theorem dX7_goesOn_487 : decode cX7_goesOn 487 = .ok (.bipush 6, 2) := by decide +kernel
theorem dX7_goesOn_489 : decode cX7_goesOn 489 = .ok (.iadd, 1) := by decide +kernel
theorem dX7_goesOn_490 : decode cX7_goesOn 490 = .ok (.iaload, 1) := by decide +kernel
theorem dX7_goesOn_491 : decode cX7_goesOn 491 = .ok (.aload_n 0, 1) := by decide +kernel
theorem dX7_goesOn_492 : decode cX7_goesOn 492 = .ok (.iconst 2, 1) := by decide +kernel
theorem dX7_goesOn_493 : decode cX7_goesOn 493 = .ok (.aload_n 0, 1) := by decide +kernel
theorem dX7_goesOn_494 : decode cX7_goesOn 494 = .ok (.getfield 69, 3) := by decide +kernel
theorem dX7_goesOn_497 : decode cX7_goesOn 497 = .ok (.iload_n 1, 1) := by decide +kernel
theorem dX7_goesOn_498 : decode cX7_goesOn 498 = .ok (.bipush 14, 2) := by decide +kernel
theorem dX7_goesOn_500 : decode cX7_goesOn 500 = .ok (.iadd, 1) := by decide +kernel
theorem dX7_goesOn_501 : decode cX7_goesOn 501 = .ok (.iaload, 1) := by decide +kernel
theorem dX7_goesOn_502 : decode cX7_goesOn 502 = .ok (.imul, 1) := by decide +kernel
theorem dX7_goesOn_503 : decode cX7_goesOn 503 = .ok (.invokevirtual 182, 3) := by decide +kernel
theorem dX7_goesOn_506 : decode cX7_goesOn 506 = .ok (.imul, 1) := by decide +kernel
theorem dX7_goesOn_507 : decode cX7_goesOn 507 = .ok (.bipush 15, 2) := by decide +kernel
theorem dX7_goesOn_509 : decode cX7_goesOn 509 = .ok (.ishr, 1) := by decide +kernel
theorem dX7_goesOn_510 : decode cX7_goesOn 510 = .ok (.istore 11, 2) := by decide +kernel
theorem dX7_goesOn_512 : decode cX7_goesOn 512 = .ok (.aload_n 0, 1) := by decide +kernel
theorem dX7_goesOn_513 : decode cX7_goesOn 513 = .ok (.getfield 69, 3) := by decide +kernel
theorem dX7_goesOn_516 : decode cX7_goesOn 516 = .ok (.iload_n 1, 1) := by decide +kernel
theorem dX7_goesOn_517 : decode cX7_goesOn 517 = .ok (.iconst 3, 1) := by decide +kernel
theorem dX7_goesOn_518 : decode cX7_goesOn 518 = .ok (.iadd, 1) := by decide +kernel
theorem dX7_goesOn_519 : decode cX7_goesOn 519 = .ok (.aload_n 0, 1) := by decide +kernel
theorem dX7_goesOn_520 : decode cX7_goesOn 520 = .ok (.iload 10, 2) := by decide +kernel
theorem dX7_goesOn_522 : decode cX7_goesOn 522 = .ok (.iload 11, 2) := by decide +kernel
theorem dX7_goesOn_524 : decode cX7_goesOn 524 = .ok (.iadd, 1) := by decide +kernel
theorem dX7_goesOn_525 : decode cX7_goesOn 525 = .ok (.invokevirtual 182, 3) := by decide +kernel
theorem dX7_goesOn_528 : decode cX7_goesOn 528 = .ok (.iastore, 1) := by decide +kernel
theorem dX7_goesOn_529 : decode cX7_goesOn 529 = .ok (.iconst 0, 1) := by decide +kernel
theorem dX7_goesOn_530 : decode cX7_goesOn 530 = .ok (.istore 12, 2) := by decide +kernel
theorem dX7_goesOn_532 : decode cX7_goesOn 532 = .ok (.iconst 0, 1) := by decide +kernel
theorem dX7_goesOn_533 : decode cX7_goesOn 533 = .ok (.istore 13, 2) := by decide +kernel
theorem dX7_goesOn_535 : decode cX7_goesOn 535 = .ok (.iload 13, 2) := by decide +kernel
theorem dX7_goesOn_537 : decode cX7_goesOn 537 = .ok (.bipush 6, 2) := by decide +kernel
theorem dX7_goesOn_539 : decode cX7_goesOn 539 = .ok (.if_icmp .ge 48, 3) := by decide +kernel
theorem dX7_goesOn_542 : decode cX7_goesOn 542 = .ok (.iload 12, 2) := by decide +kernel
theorem dX7_goesOn_544 : decode cX7_goesOn 544 = .ok (.aload_n 0, 1) := by decide +kernel
theorem dX7_goesOn_545 : decode cX7_goesOn 545 = .ok (.getfield 69, 3) := by decide +kernel
theorem dX7_goesOn_548 : decode cX7_goesOn 548 = .ok (.iload_n 1, 1) := by decide +kernel
theorem dX7_goesOn_549 : decode cX7_goesOn 549 = .ok (.bipush 7, 2) := by decide +kernel
theorem dX7_goesOn_551 : decode cX7_goesOn 551 = .ok (.iadd, 1) := by decide +kernel
theorem dX7_goesOn_552 : decode cX7_goesOn 552 = .ok (.iload 13, 2) := by decide +kernel
theorem dX7_goesOn_554 : decode cX7_goesOn 554 = .ok (.iadd, 1) := by decide +kernel
theorem dX7_goesOn_555 : decode cX7_goesOn 555 = .ok (.iaload, 1) := by decide +kernel
theorem dX7_goesOn_556 : decode cX7_goesOn 556 = .ok (.aload_n 0, 1) := by decide +kernel
theorem dX7_goesOn_557 : decode cX7_goesOn 557 = .ok (.iconst 2, 1) := by decide +kernel
theorem dX7_goesOn_558 : decode cX7_goesOn 558 = .ok (.aload_n 0, 1) := by decide +kernel
theorem dX7_goesOn_559 : decode cX7_goesOn 559 = .ok (.getfield 69, 3) := by decide +kernel
theorem dX7_goesOn_562 : decode cX7_goesOn 562 = .ok (.iload_n 1, 1) := by decide +kernel
theorem dX7_goesOn_563 : decode cX7_goesOn 563 = .ok (.bipush 17, 2) := by decide +kernel
theorem dX7_goesOn_565 : decode cX7_goesOn 565 = .ok (.iadd, 1) := by decide +kernel
theorem dX7_goesOn_566 : decode cX7_goesOn 566 = .ok (.iload 13, 2) := by decide +kernel
theorem dX7_goesOn_568 : decode cX7_goesOn 568 = .ok (.iadd, 1) := by decide +kernel
theorem dX7_goesOn_569 : decode cX7_goesOn 569 = .ok (.iaload, 1) := by decide +kernel
theorem dX7_goesOn_570 : decode cX7_goesOn 570 = .ok (.imul, 1) := by decide +kernel
theorem dX7_goesOn_571 : decode cX7_goesOn 571 = .ok (.invokevirtual 182, 3) := by decide +kernel
theorem dX7_goesOn_574 : decode cX7_goesOn 574 = .ok (.imul, 1) := by decide +kernel
theorem dX7_goesOn_575 : decode cX7_goesOn 575 = .ok (.bipush 15, 2) := by decide +kernel
theorem dX7_goesOn_577 : decode cX7_goesOn 577 = .ok (.ishr, 1) := by decide +kernel
theorem dX7_goesOn_578 : decode cX7_goesOn 578 = .ok (.iadd, 1) := by decide +kernel
theorem dX7_goesOn_579 : decode cX7_goesOn 579 = .ok (.istore 12, 2) := by decide +kernel
theorem dX7_goesOn_581 : decode cX7_goesOn 581 = .ok (.iinc 13 1, 3) := by decide +kernel
theorem dX7_goesOn_584 : decode cX7_goesOn 584 = .ok (.goto (-49), 3) := by decide +kernel
theorem dX7_goesOn_587 : decode cX7_goesOn 587 = .ok (.aload_n 0, 1) := by decide +kernel
theorem dX7_goesOn_588 : decode cX7_goesOn 588 = .ok (.getfield 69, 3) := by decide +kernel
theorem dX7_goesOn_591 : decode cX7_goesOn 591 = .ok (.iload_n 1, 1) := by decide +kernel
theorem dX7_goesOn_592 : decode cX7_goesOn 592 = .ok (.iconst 4, 1) := by decide +kernel
theorem dX7_goesOn_593 : decode cX7_goesOn 593 = .ok (.iadd, 1) := by decide +kernel
theorem dX7_goesOn_594 : decode cX7_goesOn 594 = .ok (.aload_n 0, 1) := by decide +kernel
theorem dX7_goesOn_595 : decode cX7_goesOn 595 = .ok (.iload 12, 2) := by decide +kernel
theorem dX7_goesOn_597 : decode cX7_goesOn 597 = .ok (.invokevirtual 182, 3) := by decide +kernel
theorem dX7_goesOn_600 : decode cX7_goesOn 600 = .ok (.iastore, 1) := by decide +kernel
theorem dX7_goesOn_601 : decode cX7_goesOn 601 = .ok (.aload_n 0, 1) := by decide +kernel
theorem dX7_goesOn_602 : decode cX7_goesOn 602 = .ok (.getfield 69, 3) := by decide +kernel
theorem dX7_goesOn_605 : decode cX7_goesOn 605 = .ok (.iload_n 1, 1) := by decide +kernel
theorem dX7_goesOn_606 : decode cX7_goesOn 606 = .ok (.iconst 2, 1) := by decide +kernel
theorem dX7_goesOn_607 : decode cX7_goesOn 607 = .ok (.iadd, 1) := by decide +kernel
theorem dX7_goesOn_608 : decode cX7_goesOn 608 = .ok (.aload_n 0, 1) := by decide +kernel
theorem dX7_goesOn_609 : decode cX7_goesOn 609 = .ok (.aload_n 0, 1) := by decide +kernel
theorem dX7_goesOn_610 : decode cX7_goesOn 610 = .ok (.getfield 69, 3) := by decide +kernel
theorem dX7_goesOn_613 : decode cX7_goesOn 613 = .ok (.iload_n 1, 1) := by decide +kernel
theorem dX7_goesOn_614 : decode cX7_goesOn 614 = .ok (.iconst 3, 1) := by decide +kernel
theorem dX7_goesOn_615 : decode cX7_goesOn 615 = .ok (.iadd, 1) := by decide +kernel
theorem dX7_goesOn_616 : decode cX7_goesOn 616 = .ok (.iaload, 1) := by decide +kernel
theorem dX7_goesOn_617 : decode cX7_goesOn 617 = .ok (.aload_n 0, 1) := by decide +kernel
theorem dX7_goesOn_618 : decode cX7_goesOn 618 = .ok (.getfield 69, 3) := by decide +kernel
theorem dX7_goesOn_621 : decode cX7_goesOn 621 = .ok (.iload_n 1, 1) := by decide +kernel
theorem dX7_goesOn_622 : decode cX7_goesOn 622 = .ok (.iconst 4, 1) := by decide +kernel
theorem dX7_goesOn_623 : decode cX7_goesOn 623 = .ok (.iadd, 1) := by decide +kernel
theorem dX7_goesOn_624 : decode cX7_goesOn 624 = .ok (.iaload, 1) := by decide +kernel
theorem dX7_goesOn_625 : decode cX7_goesOn 625 = .ok (.iadd, 1) := by decide +kernel
theorem dX7_goesOn_626 : decode cX7_goesOn 626 = .ok (.invokevirtual 182, 3) := by decide +kernel
theorem dX7_goesOn_629 : decode cX7_goesOn 629 = .ok (.iastore, 1) := by decide +kernel
theorem dX7_goesOn_630 : decode cX7_goesOn 630 = .ok (.return_, 1) := by decide +kernel
theorem dX7_hears722_0 : decode cX7_hears722 0 = .ok (.iconst 2, 1) := by decide +kernel
theorem dX7_hears722_1 : decode cX7_hears722 1 = .ok (.iload_n 1, 1) := by decide +kernel
theorem dX7_hears722_2 : decode cX7_hears722 2 = .ok (.imul, 1) := by decide +kernel
theorem dX7_hears722_3 : decode cX7_hears722 3 = .ok (.iconst 1, 1) := by decide +kernel
theorem dX7_hears722_4 : decode cX7_hears722 4 = .ok (.iadd, 1) := by decide +kernel
theorem dX7_hears722_5 : decode cX7_hears722 5 = .ok (.istore_n 3, 1) := by decide +kernel
theorem dX7_hears722_6 : decode cX7_hears722 6 = .ok (.bipush 46, 2) := by decide +kernel
theorem dX7_hears722_8 : decode cX7_hears722 8 = .ok (.iload_n 3, 1) := by decide +kernel
theorem dX7_hears722_9 : decode cX7_hears722 9 = .ok (.imul, 1) := by decide +kernel
theorem dX7_hears722_10 : decode cX7_hears722 10 = .ok (.istore 4, 2) := by decide +kernel
theorem dX7_hears722_12 : decode cX7_hears722 12 = .ok (.iload_n 2, 1) := by decide +kernel
theorem dX7_hears722_13 : decode cX7_hears722 13 = .ok (.bipush 63, 2) := by decide +kernel
theorem dX7_hears722_15 : decode cX7_hears722 15 = .ok (.iand, 1) := by decide +kernel
theorem dX7_hears722_16 : decode cX7_hears722 16 = .ok (.istore 5, 2) := by decide +kernel
theorem dX7_hears722_18 : decode cX7_hears722 18 = .ok (.iload_n 2, 1) := by decide +kernel
theorem dX7_hears722_19 : decode cX7_hears722 19 = .ok (.bipush 6, 2) := by decide +kernel
theorem dX7_hears722_21 : decode cX7_hears722 21 = .ok (.ishr, 1) := by decide +kernel
theorem dX7_hears722_22 : decode cX7_hears722 22 = .ok (.istore 6, 2) := by decide +kernel
theorem dX7_hears722_24 : decode cX7_hears722 24 = .ok (.aload_n 0, 1) := by decide +kernel
theorem dX7_hears722_25 : decode cX7_hears722 25 = .ok (.aload_n 0, 1) := by decide +kernel
theorem dX7_hears722_26 : decode cX7_hears722 26 = .ok (.getfield 69, 3) := by decide +kernel
theorem dX7_hears722_29 : decode cX7_hears722 29 = .ok (.iload 4, 2) := by decide +kernel
theorem dX7_hears722_31 : decode cX7_hears722 31 = .ok (.iconst 2, 1) := by decide +kernel
theorem dX7_hears722_32 : decode cX7_hears722 32 = .ok (.iadd, 1) := by decide +kernel
theorem dX7_hears722_33 : decode cX7_hears722 33 = .ok (.iaload, 1) := by decide +kernel
theorem dX7_hears722_34 : decode cX7_hears722 34 = .ok (.aload_n 0, 1) := by decide +kernel
theorem dX7_hears722_35 : decode cX7_hears722 35 = .ok (.getfield 69, 3) := by decide +kernel
theorem dX7_hears722_38 : decode cX7_hears722 38 = .ok (.iload 4, 2) := by decide +kernel
theorem dX7_hears722_40 : decode cX7_hears722 40 = .ok (.iconst 1, 1) := by decide +kernel
theorem dX7_hears722_41 : decode cX7_hears722 41 = .ok (.iadd, 1) := by decide +kernel
theorem dX7_hears722_42 : decode cX7_hears722 42 = .ok (.iaload, 1) := by decide +kernel
theorem dX7_hears722_43 : decode cX7_hears722 43 = .ok (.aload_n 0, 1) := by decide +kernel
theorem dX7_hears722_44 : decode cX7_hears722 44 = .ok (.aload_n 0, 1) := by decide +kernel
theorem dX7_hears722_45 : decode cX7_hears722 45 = .ok (.getfield 10, 3) := by decide +kernel
theorem dX7_hears722_48 : decode cX7_hears722 48 = .ok (.iload_n 1, 1) := by decide +kernel
theorem dX7_hears722_49 : decode cX7_hears722 49 = .ok (.iaload, 1) := by decide +kernel
theorem dX7_hears722_50 : decode cX7_hears722 50 = .ok (.iload 5, 2) := by decide +kernel
theorem dX7_hears722_52 : decode cX7_hears722 52 = .ok (.invokevirtual 205, 3) := by decide +kernel
theorem dX7_hears722_55 : decode cX7_hears722 55 = .ok (.imul, 1) := by decide +kernel
theorem dX7_hears722_56 : decode cX7_hears722 56 = .ok (.bipush 15, 2) := by decide +kernel
theorem dX7_hears722_58 : decode cX7_hears722 58 = .ok (.ishr, 1) := by decide +kernel
theorem dX7_hears722_59 : decode cX7_hears722 59 = .ok (.iadd, 1) := by decide +kernel
theorem dX7_hears722_60 : decode cX7_hears722 60 = .ok (.sipush (-16384), 3) := by decide +kernel
theorem dX7_hears722_63 : decode cX7_hears722 63 = .ok (.sipush 16383, 3) := by decide +kernel
theorem dX7_hears722_66 : decode cX7_hears722 66 = .ok (.invokevirtual 169, 3) := by decide +kernel
theorem dX7_hears722_69 : decode cX7_hears722 69 = .ok (.istore 7, 2) := by decide +kernel
theorem dX7_hears722_71 : decode cX7_hears722 71 = .ok (.aload_n 0, 1) := by decide +kernel
theorem dX7_hears722_72 : decode cX7_hears722 72 = .ok (.aload_n 0, 1) := by decide +kernel
theorem dX7_hears722_73 : decode cX7_hears722 73 = .ok (.getfield 69, 3) := by decide +kernel
theorem dX7_hears722_76 : decode cX7_hears722 76 = .ok (.iload 4, 2) := by decide +kernel
theorem dX7_hears722_78 : decode cX7_hears722 78 = .ok (.bipush 25, 2) := by decide +kernel
theorem dX7_hears722_80 : decode cX7_hears722 80 = .ok (.iadd, 1) := by decide +kernel
theorem dX7_hears722_81 : decode cX7_hears722 81 = .ok (.iaload, 1) := by decide +kernel
theorem dX7_hears722_82 : decode cX7_hears722 82 = .ok (.aload_n 0, 1) := by decide +kernel
theorem dX7_hears722_83 : decode cX7_hears722 83 = .ok (.getfield 69, 3) := by decide +kernel
theorem dX7_hears722_86 : decode cX7_hears722 86 = .ok (.iload 4, 2) := by decide +kernel
theorem dX7_hears722_88 : decode cX7_hears722 88 = .ok (.bipush 24, 2) := by decide +kernel
theorem dX7_hears722_90 : decode cX7_hears722 90 = .ok (.iadd, 1) := by decide +kernel
theorem dX7_hears722_91 : decode cX7_hears722 91 = .ok (.iaload, 1) := by decide +kernel
theorem dX7_hears722_92 : decode cX7_hears722 92 = .ok (.aload_n 0, 1) := by decide +kernel
theorem dX7_hears722_93 : decode cX7_hears722 93 = .ok (.getfield 87, 3) := by decide +kernel
theorem dX7_hears722_96 : decode cX7_hears722 96 = .ok (.iload 6, 2) := by decide +kernel
theorem dX7_hears722_98 : decode cX7_hears722 98 = .ok (.iaload, 1) := by decide +kernel
theorem dX7_hears722_99 : decode cX7_hears722 99 = .ok (.imul, 1) := by decide +kernel
theorem dX7_hears722_100 : decode cX7_hears722 100 = .ok (.bipush 15, 2) := by decide +kernel
theorem dX7_hears722_102 : decode cX7_hears722 102 = .ok (.ishr, 1) := by decide +kernel
theorem dX7_hears722_103 : decode cX7_hears722 103 = .ok (.iadd, 1) := by decide +kernel
theorem dX7_hears722_104 : decode cX7_hears722 104 = .ok (.sipush (-16384), 3) := by decide +kernel
theorem dX7_hears722_107 : decode cX7_hears722 107 = .ok (.sipush 16383, 3) := by decide +kernel
theorem dX7_hears722_110 : decode cX7_hears722 110 = .ok (.invokevirtual 169, 3) := by decide +kernel
theorem dX7_hears722_113 : decode cX7_hears722 113 = .ok (.istore 8, 2) := by decide +kernel
theorem dX7_hears722_115 : decode cX7_hears722 115 = .ok (.aload_n 0, 1) := by decide +kernel
theorem dX7_hears722_116 : decode cX7_hears722 116 = .ok (.iload_n 3, 1) := by decide +kernel
theorem dX7_hears722_117 : decode cX7_hears722 117 = .ok (.iload 5, 2) := by decide +kernel
theorem dX7_hears722_119 : decode cX7_hears722 119 = .ok (.iload 6, 2) := by decide +kernel
theorem dX7_hears722_121 : decode cX7_hears722 121 = .ok (.invokevirtual 195, 3) := by decide +kernel
theorem dX7_hears722_124 : decode cX7_hears722 124 = .ok (.aload_n 0, 1) := by decide +kernel
theorem dX7_hears722_125 : decode cX7_hears722 125 = .ok (.iload_n 3, 1) := by decide +kernel
theorem dX7_hears722_126 : decode cX7_hears722 126 = .ok (.iload 7, 2) := by decide +kernel
theorem dX7_hears722_128 : decode cX7_hears722 128 = .ok (.iload 8, 2) := by decide +kernel
theorem dX7_hears722_130 : decode cX7_hears722 130 = .ok (.iadd, 1) := by decide +kernel
theorem dX7_hears722_131 : decode cX7_hears722 131 = .ok (.iload 7, 2) := by decide +kernel
theorem dX7_hears722_133 : decode cX7_hears722 133 = .ok (.iload 8, 2) := by decide +kernel
theorem dX7_hears722_135 : decode cX7_hears722 135 = .ok (.isub, 1) := by decide +kernel
theorem dX7_hears722_136 : decode cX7_hears722 136 = .ok (.invokevirtual 191, 3) := by decide +kernel
theorem dX7_hears722_139 : decode cX7_hears722 139 = .ok (.aload_n 0, 1) := by decide +kernel
theorem dX7_hears722_140 : decode cX7_hears722 140 = .ok (.getfield 14, 3) := by decide +kernel
theorem dX7_hears722_143 : decode cX7_hears722 143 = .ok (.iload_n 1, 1) := by decide +kernel
theorem dX7_hears722_144 : decode cX7_hears722 144 = .ok (.aload_n 0, 1) := by decide +kernel
theorem dX7_hears722_145 : decode cX7_hears722 145 = .ok (.aload_n 0, 1) := by decide +kernel
theorem dX7_hears722_146 : decode cX7_hears722 146 = .ok (.getfield 185, 3) := by decide +kernel
theorem dX7_hears722_149 : decode cX7_hears722 149 = .ok (.bipush 11, 2) := by decide +kernel
theorem dX7_hears722_151 : decode cX7_hears722 151 = .ok (.ishr, 1) := by decide +kernel
theorem dX7_hears722_152 : decode cX7_hears722 152 = .ok (.invokevirtual 182, 3) := by decide +kernel
theorem dX7_hears722_155 : decode cX7_hears722 155 = .ok (.iastore, 1) := by decide +kernel
theorem dX7_hears722_156 : decode cX7_hears722 156 = .ok (.aload_n 0, 1) := by decide +kernel
theorem dX7_hears722_157 : decode cX7_hears722 157 = .ok (.aload_n 0, 1) := by decide +kernel
theorem dX7_hears722_158 : decode cX7_hears722 158 = .ok (.getfield 188, 3) := by decide +kernel
theorem dX7_hears722_161 : decode cX7_hears722 161 = .ok (.bipush 11, 2) := by decide +kernel
theorem dX7_hears722_163 : decode cX7_hears722 163 = .ok (.ishr, 1) := by decide +kernel
theorem dX7_hears722_164 : decode cX7_hears722 164 = .ok (.invokevirtual 182, 3) := by decide +kernel
theorem dX7_hears722_167 : decode cX7_hears722 167 = .ok (.ireturn, 1) := by decide +kernel
theorem dX7_isSample_0 : decode cX7_isSample 0 = .ok (.iload_n 1, 1) := by decide +kernel
theorem dX7_isSample_1 : decode cX7_isSample 1 = .ok (.sipush (-32768), 3) := by decide +kernel
theorem dX7_isSample_4 : decode cX7_isSample 4 = .ok (.if_icmp .lt 14, 3) := by decide +kernel
theorem dX7_isSample_7 : decode cX7_isSample 7 = .ok (.iload_n 1, 1) := by decide +kernel
theorem dX7_isSample_8 : decode cX7_isSample 8 = .ok (.sipush 32767, 3) := by decide +kernel
theorem dX7_isSample_11 : decode cX7_isSample 11 = .ok (.if_icmp .gt 7, 3) := by decide +kernel
theorem dX7_isSample_14 : decode cX7_isSample 14 = .ok (.iconst 1, 1) := by decide +kernel
theorem dX7_isSample_15 : decode cX7_isSample 15 = .ok (.goto 4, 3) := by decide +kernel
theorem dX7_isSample_18 : decode cX7_isSample 18 = .ok (.iconst 0, 1) := by decide +kernel
theorem dX7_isSample_19 : decode cX7_isSample 19 = .ok (.ireturn, 1) := by decide +kernel
theorem dX7_bitsOf_0 : decode cX7_bitsOf 0 = .ok (.aload_n 0, 1) := by decide +kernel
theorem dX7_bitsOf_1 : decode cX7_bitsOf 1 = .ok (.getfield 10, 3) := by decide +kernel
theorem dX7_bitsOf_4 : decode cX7_bitsOf 4 = .ok (.iload_n 1, 1) := by decide +kernel
theorem dX7_bitsOf_5 : decode cX7_bitsOf 5 = .ok (.iaload, 1) := by decide +kernel
theorem dX7_bitsOf_6 : decode cX7_bitsOf 6 = .ok (.iconst 2, 1) := by decide +kernel
theorem dX7_bitsOf_7 : decode cX7_bitsOf 7 = .ok (.if_icmp .lt 22, 3) := by decide +kernel
theorem dX7_bitsOf_10 : decode cX7_bitsOf 10 = .ok (.aload_n 0, 1) := by decide +kernel
theorem dX7_bitsOf_11 : decode cX7_bitsOf 11 = .ok (.getfield 10, 3) := by decide +kernel
theorem dX7_bitsOf_14 : decode cX7_bitsOf 14 = .ok (.iload_n 1, 1) := by decide +kernel
theorem dX7_bitsOf_15 : decode cX7_bitsOf 15 = .ok (.iaload, 1) := by decide +kernel
theorem dX7_bitsOf_16 : decode cX7_bitsOf 16 = .ok (.iconst 5, 1) := by decide +kernel
theorem dX7_bitsOf_17 : decode cX7_bitsOf 17 = .ok (.if_icmp .gt 12, 3) := by decide +kernel
theorem dX7_bitsOf_20 : decode cX7_bitsOf 20 = .ok (.aload_n 0, 1) := by decide +kernel
theorem dX7_bitsOf_21 : decode cX7_bitsOf 21 = .ok (.getfield 10, 3) := by decide +kernel
theorem dX7_bitsOf_24 : decode cX7_bitsOf 24 = .ok (.iload_n 1, 1) := by decide +kernel
theorem dX7_bitsOf_25 : decode cX7_bitsOf 25 = .ok (.iaload, 1) := by decide +kernel
theorem dX7_bitsOf_26 : decode cX7_bitsOf 26 = .ok (.goto 5, 3) := by decide +kernel
theorem dX7_bitsOf_29 : decode cX7_bitsOf 29 = .ok (.bipush 8, 2) := by decide +kernel
theorem dX7_bitsOf_31 : decode cX7_bitsOf 31 = .ok (.ireturn, 1) := by decide +kernel
theorem dX7_says_0 : decode cX7_says 0 = .ok (.aload_n 0, 1) := by decide +kernel
theorem dX7_says_1 : decode cX7_says 1 = .ok (.getfield 10, 3) := by decide +kernel
theorem dX7_says_4 : decode cX7_says 4 = .ok (.iload_n 1, 1) := by decide +kernel
theorem dX7_says_5 : decode cX7_says 5 = .ok (.iaload, 1) := by decide +kernel
theorem dX7_says_6 : decode cX7_says 6 = .ok (.ifCond .ne 9, 3) := by decide +kernel
theorem dX7_says_9 : decode cX7_says 9 = .ok (.aload_n 0, 1) := by decide +kernel
theorem dX7_says_10 : decode cX7_says 10 = .ok (.iload_n 2, 1) := by decide +kernel
theorem dX7_says_11 : decode cX7_says 11 = .ok (.invokevirtual 208, 3) := by decide +kernel
theorem dX7_says_14 : decode cX7_says 14 = .ok (.ireturn, 1) := by decide +kernel
theorem dX7_says_15 : decode cX7_says 15 = .ok (.aload_n 0, 1) := by decide +kernel
theorem dX7_says_16 : decode cX7_says 16 = .ok (.getfield 10, 3) := by decide +kernel
theorem dX7_says_19 : decode cX7_says 19 = .ok (.iload_n 1, 1) := by decide +kernel
theorem dX7_says_20 : decode cX7_says 20 = .ok (.iaload, 1) := by decide +kernel
theorem dX7_says_21 : decode cX7_says 21 = .ok (.iconst 1, 1) := by decide +kernel
theorem dX7_says_22 : decode cX7_says 22 = .ok (.if_icmp .ne 11, 3) := by decide +kernel
theorem dX7_says_25 : decode cX7_says 25 = .ok (.aload_n 0, 1) := by decide +kernel
theorem dX7_says_26 : decode cX7_says 26 = .ok (.iload_n 2, 1) := by decide +kernel
theorem dX7_says_27 : decode cX7_says 27 = .ok (.invokevirtual 211, 3) := by decide +kernel
theorem dX7_says_30 : decode cX7_says 30 = .ok (.goto 17, 3) := by decide +kernel
theorem dX7_says_33 : decode cX7_says 33 = .ok (.aload_n 0, 1) := by decide +kernel
theorem dX7_says_34 : decode cX7_says 34 = .ok (.iconst 2, 1) := by decide +kernel
theorem dX7_says_35 : decode cX7_says 35 = .ok (.iload_n 1, 1) := by decide +kernel
theorem dX7_says_36 : decode cX7_says 36 = .ok (.imul, 1) := by decide +kernel
theorem dX7_says_37 : decode cX7_says 37 = .ok (.aload_n 0, 1) := by decide +kernel
theorem dX7_says_38 : decode cX7_says 38 = .ok (.getfield 10, 3) := by decide +kernel
theorem dX7_says_41 : decode cX7_says 41 = .ok (.iload_n 1, 1) := by decide +kernel
theorem dX7_says_42 : decode cX7_says 42 = .ok (.iaload, 1) := by decide +kernel
theorem dX7_says_43 : decode cX7_says 43 = .ok (.iload_n 2, 1) := by decide +kernel
theorem dX7_says_44 : decode cX7_says 44 = .ok (.invokevirtual 214, 3) := by decide +kernel
theorem dX7_says_47 : decode cX7_says 47 = .ok (.ireturn, 1) := by decide +kernel
theorem dX7_hears_0 : decode cX7_hears 0 = .ok (.aload_n 0, 1) := by decide +kernel
theorem dX7_hears_1 : decode cX7_hears 1 = .ok (.getfield 10, 3) := by decide +kernel
theorem dX7_hears_4 : decode cX7_hears 4 = .ok (.iload_n 1, 1) := by decide +kernel
theorem dX7_hears_5 : decode cX7_hears 5 = .ok (.iaload, 1) := by decide +kernel
theorem dX7_hears_6 : decode cX7_hears 6 = .ok (.ifCond .ne 9, 3) := by decide +kernel
theorem dX7_hears_9 : decode cX7_hears 9 = .ok (.aload_n 0, 1) := by decide +kernel
theorem dX7_hears_10 : decode cX7_hears 10 = .ok (.iload_n 2, 1) := by decide +kernel
theorem dX7_hears_11 : decode cX7_hears 11 = .ok (.invokevirtual 217, 3) := by decide +kernel
theorem dX7_hears_14 : decode cX7_hears 14 = .ok (.ireturn, 1) := by decide +kernel
theorem dX7_hears_15 : decode cX7_hears 15 = .ok (.aload_n 0, 1) := by decide +kernel
theorem dX7_hears_16 : decode cX7_hears 16 = .ok (.getfield 10, 3) := by decide +kernel
theorem dX7_hears_19 : decode cX7_hears 19 = .ok (.iload_n 1, 1) := by decide +kernel
theorem dX7_hears_20 : decode cX7_hears 20 = .ok (.iaload, 1) := by decide +kernel
theorem dX7_hears_21 : decode cX7_hears 21 = .ok (.iconst 1, 1) := by decide +kernel
theorem dX7_hears_22 : decode cX7_hears 22 = .ok (.if_icmp .ne 9, 3) := by decide +kernel
theorem dX7_hears_25 : decode cX7_hears 25 = .ok (.aload_n 0, 1) := by decide +kernel
theorem dX7_hears_26 : decode cX7_hears 26 = .ok (.iload_n 2, 1) := by decide +kernel
theorem dX7_hears_27 : decode cX7_hears 27 = .ok (.invokevirtual 220, 3) := by decide +kernel
theorem dX7_hears_30 : decode cX7_hears 30 = .ok (.ireturn, 1) := by decide +kernel
theorem dX7_hears_31 : decode cX7_hears 31 = .ok (.aload_n 0, 1) := by decide +kernel
theorem dX7_hears_32 : decode cX7_hears 32 = .ok (.getfield 10, 3) := by decide +kernel
theorem dX7_hears_35 : decode cX7_hears 35 = .ok (.iload_n 1, 1) := by decide +kernel
theorem dX7_hears_36 : decode cX7_hears 36 = .ok (.iaload, 1) := by decide +kernel
theorem dX7_hears_37 : decode cX7_hears 37 = .ok (.bipush 6, 2) := by decide +kernel
theorem dX7_hears_39 : decode cX7_hears 39 = .ok (.if_icmp .ge 22, 3) := by decide +kernel
theorem dX7_hears_42 : decode cX7_hears 42 = .ok (.aload_n 0, 1) := by decide +kernel
theorem dX7_hears_43 : decode cX7_hears 43 = .ok (.iconst 2, 1) := by decide +kernel
theorem dX7_hears_44 : decode cX7_hears 44 = .ok (.iload_n 1, 1) := by decide +kernel
theorem dX7_hears_45 : decode cX7_hears 45 = .ok (.imul, 1) := by decide +kernel
theorem dX7_hears_46 : decode cX7_hears 46 = .ok (.iconst 1, 1) := by decide +kernel
theorem dX7_hears_47 : decode cX7_hears 47 = .ok (.iadd, 1) := by decide +kernel
theorem dX7_hears_48 : decode cX7_hears 48 = .ok (.aload_n 0, 1) := by decide +kernel
theorem dX7_hears_49 : decode cX7_hears 49 = .ok (.getfield 10, 3) := by decide +kernel
theorem dX7_hears_52 : decode cX7_hears 52 = .ok (.iload_n 1, 1) := by decide +kernel
theorem dX7_hears_53 : decode cX7_hears 53 = .ok (.iaload, 1) := by decide +kernel
theorem dX7_hears_54 : decode cX7_hears 54 = .ok (.iload_n 2, 1) := by decide +kernel
theorem dX7_hears_55 : decode cX7_hears 55 = .ok (.invokevirtual 223, 3) := by decide +kernel
theorem dX7_hears_58 : decode cX7_hears 58 = .ok (.goto 9, 3) := by decide +kernel
theorem dX7_hears_61 : decode cX7_hears 61 = .ok (.aload_n 0, 1) := by decide +kernel
theorem dX7_hears_62 : decode cX7_hears 62 = .ok (.iload_n 1, 1) := by decide +kernel
theorem dX7_hears_63 : decode cX7_hears 63 = .ok (.iload_n 2, 1) := by decide +kernel
theorem dX7_hears_64 : decode cX7_hears 64 = .ok (.invokevirtual 226, 3) := by decide +kernel
theorem dX7_hears_67 : decode cX7_hears 67 = .ok (.ireturn, 1) := by decide +kernel
theorem dX7_say_0 : decode cX7_say 0 = .ok (.aload_n 0, 1) := by decide +kernel
theorem dX7_say_1 : decode cX7_say 1 = .ok (.iconst 0, 1) := by decide +kernel
theorem dX7_say_2 : decode cX7_say 2 = .ok (.putfield 114, 3) := by decide +kernel
theorem dX7_say_5 : decode cX7_say 5 = .ok (.aload_n 0, 1) := by decide +kernel
theorem dX7_say_6 : decode cX7_say 6 = .ok (.iload_n 1, 1) := by decide +kernel
theorem dX7_say_7 : decode cX7_say 7 = .ok (.invokevirtual 229, 3) := by decide +kernel
theorem dX7_say_10 : decode cX7_say 10 = .ok (.ifCond .eq 19, 3) := by decide +kernel
theorem dX7_say_13 : decode cX7_say 13 = .ok (.aload_n 0, 1) := by decide +kernel
theorem dX7_say_14 : decode cX7_say 14 = .ok (.iload_n 1, 1) := by decide +kernel
theorem dX7_say_15 : decode cX7_say 15 = .ok (.invokevirtual 232, 3) := by decide +kernel
theorem dX7_say_18 : decode cX7_say 18 = .ok (.ifCond .ne 11, 3) := by decide +kernel
theorem dX7_say_21 : decode cX7_say 21 = .ok (.aload_n 0, 1) := by decide +kernel
theorem dX7_say_22 : decode cX7_say 22 = .ok (.iload_n 2, 1) := by decide +kernel
theorem dX7_say_23 : decode cX7_say 23 = .ok (.invokevirtual 235, 3) := by decide +kernel
theorem dX7_say_26 : decode cX7_say 26 = .ok (.ifCond .ne 6, 3) := by decide +kernel
theorem dX7_say_29 : decode cX7_say 29 = .ok (.ldc 9, 2) := by decide +kernel
theorem dX7_say_31 : decode cX7_say 31 = .ok (.ireturn, 1) := by decide +kernel
theorem dX7_say_32 : decode cX7_say 32 = .ok (.aload_n 0, 1) := by decide +kernel
theorem dX7_say_33 : decode cX7_say 33 = .ok (.iload_n 1, 1) := by decide +kernel
theorem dX7_say_34 : decode cX7_say 34 = .ok (.iload_n 2, 1) := by decide +kernel
theorem dX7_say_35 : decode cX7_say 35 = .ok (.invokevirtual 238, 3) := by decide +kernel
theorem dX7_say_38 : decode cX7_say 38 = .ok (.ireturn, 1) := by decide +kernel
theorem dX7_pair_0 : decode cX7_pair 0 = .ok (.aload_n 0, 1) := by decide +kernel
theorem dX7_pair_1 : decode cX7_pair 1 = .ok (.iconst 0, 1) := by decide +kernel
theorem dX7_pair_2 : decode cX7_pair 2 = .ok (.putfield 114, 3) := by decide +kernel
theorem dX7_pair_5 : decode cX7_pair 5 = .ok (.aload_n 0, 1) := by decide +kernel
theorem dX7_pair_6 : decode cX7_pair 6 = .ok (.iload_n 1, 1) := by decide +kernel
theorem dX7_pair_7 : decode cX7_pair 7 = .ok (.invokevirtual 229, 3) := by decide +kernel
theorem dX7_pair_10 : decode cX7_pair 10 = .ok (.ifCond .eq 27, 3) := by decide +kernel
theorem dX7_pair_13 : decode cX7_pair 13 = .ok (.aload_n 0, 1) := by decide +kernel
theorem dX7_pair_14 : decode cX7_pair 14 = .ok (.iload_n 1, 1) := by decide +kernel
theorem dX7_pair_15 : decode cX7_pair 15 = .ok (.invokevirtual 232, 3) := by decide +kernel
theorem dX7_pair_18 : decode cX7_pair 18 = .ok (.ifCond .eq 19, 3) := by decide +kernel
theorem dX7_pair_21 : decode cX7_pair 21 = .ok (.aload_n 0, 1) := by decide +kernel
theorem dX7_pair_22 : decode cX7_pair 22 = .ok (.iload_n 2, 1) := by decide +kernel
theorem dX7_pair_23 : decode cX7_pair 23 = .ok (.invokevirtual 235, 3) := by decide +kernel
theorem dX7_pair_26 : decode cX7_pair 26 = .ok (.ifCond .eq 11, 3) := by decide +kernel
theorem dX7_pair_29 : decode cX7_pair 29 = .ok (.aload_n 0, 1) := by decide +kernel
theorem dX7_pair_30 : decode cX7_pair 30 = .ok (.iload_n 3, 1) := by decide +kernel
theorem dX7_pair_31 : decode cX7_pair 31 = .ok (.invokevirtual 235, 3) := by decide +kernel
theorem dX7_pair_34 : decode cX7_pair 34 = .ok (.ifCond .ne 6, 3) := by decide +kernel
theorem dX7_pair_37 : decode cX7_pair 37 = .ok (.ldc 9, 2) := by decide +kernel
theorem dX7_pair_39 : decode cX7_pair 39 = .ok (.ireturn, 1) := by decide +kernel
theorem dX7_pair_40 : decode cX7_pair 40 = .ok (.aload_n 0, 1) := by decide +kernel
theorem dX7_pair_41 : decode cX7_pair 41 = .ok (.iconst 2, 1) := by decide +kernel
theorem dX7_pair_42 : decode cX7_pair 42 = .ok (.iload_n 1, 1) := by decide +kernel
theorem dX7_pair_43 : decode cX7_pair 43 = .ok (.imul, 1) := by decide +kernel
theorem dX7_pair_44 : decode cX7_pair 44 = .ok (.iload_n 2, 1) := by decide +kernel
theorem dX7_pair_45 : decode cX7_pair 45 = .ok (.iload_n 3, 1) := by decide +kernel
theorem dX7_pair_46 : decode cX7_pair 46 = .ok (.invokevirtual 241, 3) := by decide +kernel
theorem dX7_pair_49 : decode cX7_pair 49 = .ok (.ireturn, 1) := by decide +kernel
theorem dX7_isCode_0 : decode cX7_isCode 0 = .ok (.iload_n 2, 1) := by decide +kernel
theorem dX7_isCode_1 : decode cX7_isCode 1 = .ok (.ifCond .lt 18, 3) := by decide +kernel
theorem dX7_isCode_4 : decode cX7_isCode 4 = .ok (.iload_n 2, 1) := by decide +kernel
theorem dX7_isCode_5 : decode cX7_isCode 5 = .ok (.iconst 1, 1) := by decide +kernel
theorem dX7_isCode_6 : decode cX7_isCode 6 = .ok (.aload_n 0, 1) := by decide +kernel
theorem dX7_isCode_7 : decode cX7_isCode 7 = .ok (.iload_n 1, 1) := by decide +kernel
theorem dX7_isCode_8 : decode cX7_isCode 8 = .ok (.invokevirtual 244, 3) := by decide +kernel
theorem dX7_isCode_11 : decode cX7_isCode 11 = .ok (.ishl, 1) := by decide +kernel
theorem dX7_isCode_12 : decode cX7_isCode 12 = .ok (.if_icmp .ge 7, 3) := by decide +kernel
theorem dX7_isCode_15 : decode cX7_isCode 15 = .ok (.iconst 1, 1) := by decide +kernel
theorem dX7_isCode_16 : decode cX7_isCode 16 = .ok (.goto 4, 3) := by decide +kernel
theorem dX7_isCode_19 : decode cX7_isCode 19 = .ok (.iconst 0, 1) := by decide +kernel
theorem dX7_isCode_20 : decode cX7_isCode 20 = .ok (.ireturn, 1) := by decide +kernel
theorem dX7_hear_0 : decode cX7_hear 0 = .ok (.aload_n 0, 1) := by decide +kernel
theorem dX7_hear_1 : decode cX7_hear 1 = .ok (.iconst 0, 1) := by decide +kernel
theorem dX7_hear_2 : decode cX7_hear 2 = .ok (.putfield 114, 3) := by decide +kernel
theorem dX7_hear_5 : decode cX7_hear 5 = .ok (.aload_n 0, 1) := by decide +kernel
theorem dX7_hear_6 : decode cX7_hear 6 = .ok (.iload_n 1, 1) := by decide +kernel
theorem dX7_hear_7 : decode cX7_hear 7 = .ok (.invokevirtual 229, 3) := by decide +kernel
theorem dX7_hear_10 : decode cX7_hear 10 = .ok (.ifCond .eq 12, 3) := by decide +kernel
theorem dX7_hear_13 : decode cX7_hear 13 = .ok (.aload_n 0, 1) := by decide +kernel
theorem dX7_hear_14 : decode cX7_hear 14 = .ok (.iload_n 1, 1) := by decide +kernel
theorem dX7_hear_15 : decode cX7_hear 15 = .ok (.iload_n 2, 1) := by decide +kernel
theorem dX7_hear_16 : decode cX7_hear 16 = .ok (.invokevirtual 247, 3) := by decide +kernel
theorem dX7_hear_19 : decode cX7_hear 19 = .ok (.ifCond .ne 6, 3) := by decide +kernel
theorem dX7_hear_22 : decode cX7_hear 22 = .ok (.ldc 9, 2) := by decide +kernel
theorem dX7_hear_24 : decode cX7_hear 24 = .ok (.ireturn, 1) := by decide +kernel
theorem dX7_hear_25 : decode cX7_hear 25 = .ok (.aload_n 0, 1) := by decide +kernel
theorem dX7_hear_26 : decode cX7_hear 26 = .ok (.iload_n 1, 1) := by decide +kernel
theorem dX7_hear_27 : decode cX7_hear 27 = .ok (.iload_n 2, 1) := by decide +kernel
theorem dX7_hear_28 : decode cX7_hear 28 = .ok (.invokevirtual 251, 3) := by decide +kernel
theorem dX7_hear_31 : decode cX7_hear 31 = .ok (.ireturn, 1) := by decide +kernel
theorem dX7_second_0 : decode cX7_second 0 = .ok (.aload_n 0, 1) := by decide +kernel
theorem dX7_second_1 : decode cX7_second 1 = .ok (.iconst 0, 1) := by decide +kernel
theorem dX7_second_2 : decode cX7_second 2 = .ok (.putfield 114, 3) := by decide +kernel
theorem dX7_second_5 : decode cX7_second 5 = .ok (.aload_n 0, 1) := by decide +kernel
theorem dX7_second_6 : decode cX7_second 6 = .ok (.iload_n 1, 1) := by decide +kernel
theorem dX7_second_7 : decode cX7_second 7 = .ok (.invokevirtual 229, 3) := by decide +kernel
theorem dX7_second_10 : decode cX7_second 10 = .ok (.ifCond .eq 20, 3) := by decide +kernel
theorem dX7_second_13 : decode cX7_second 13 = .ok (.aload_n 0, 1) := by decide +kernel
theorem dX7_second_14 : decode cX7_second 14 = .ok (.iload_n 1, 1) := by decide +kernel
theorem dX7_second_15 : decode cX7_second 15 = .ok (.invokevirtual 232, 3) := by decide +kernel
theorem dX7_second_18 : decode cX7_second 18 = .ok (.ifCond .eq 12, 3) := by decide +kernel
theorem dX7_second_21 : decode cX7_second 21 = .ok (.aload_n 0, 1) := by decide +kernel
theorem dX7_second_22 : decode cX7_second 22 = .ok (.getfield 14, 3) := by decide +kernel
theorem dX7_second_25 : decode cX7_second 25 = .ok (.iload_n 1, 1) := by decide +kernel
theorem dX7_second_26 : decode cX7_second 26 = .ok (.iaload, 1) := by decide +kernel
theorem dX7_second_27 : decode cX7_second 27 = .ok (.goto 5, 3) := by decide +kernel
theorem dX7_second_30 : decode cX7_second 30 = .ok (.ldc 9, 2) := by decide +kernel
theorem dX7_second_32 : decode cX7_second 32 = .ok (.ireturn, 1) := by decide +kernel
theorem dX7_inner_0 : decode cX7_inner 0 = .ok (.aload_n 0, 1) := by decide +kernel
theorem dX7_inner_1 : decode cX7_inner 1 = .ok (.iconst 0, 1) := by decide +kernel
theorem dX7_inner_2 : decode cX7_inner 2 = .ok (.putfield 114, 3) := by decide +kernel
theorem dX7_inner_5 : decode cX7_inner 5 = .ok (.aload_n 0, 1) := by decide +kernel
theorem dX7_inner_6 : decode cX7_inner 6 = .ok (.iload_n 1, 1) := by decide +kernel
theorem dX7_inner_7 : decode cX7_inner 7 = .ok (.invokevirtual 229, 3) := by decide +kernel
theorem dX7_inner_10 : decode cX7_inner 10 = .ok (.ifCond .eq 22, 3) := by decide +kernel
theorem dX7_inner_13 : decode cX7_inner 13 = .ok (.iload_n 2, 1) := by decide +kernel
theorem dX7_inner_14 : decode cX7_inner 14 = .ok (.ifCond .lt 18, 3) := by decide +kernel
theorem dX7_inner_17 : decode cX7_inner 17 = .ok (.iload_n 2, 1) := by decide +kernel
theorem dX7_inner_18 : decode cX7_inner 18 = .ok (.iconst 1, 1) := by decide +kernel
theorem dX7_inner_19 : decode cX7_inner 19 = .ok (.if_icmp .gt 13, 3) := by decide +kernel
theorem dX7_inner_22 : decode cX7_inner 22 = .ok (.aload_n 0, 1) := by decide +kernel
theorem dX7_inner_23 : decode cX7_inner 23 = .ok (.getfield 10, 3) := by decide +kernel
theorem dX7_inner_26 : decode cX7_inner 26 = .ok (.iload_n 1, 1) := by decide +kernel
theorem dX7_inner_27 : decode cX7_inner 27 = .ok (.iaload, 1) := by decide +kernel
theorem dX7_inner_28 : decode cX7_inner 28 = .ok (.iconst 2, 1) := by decide +kernel
theorem dX7_inner_29 : decode cX7_inner 29 = .ok (.if_icmp .ge 6, 3) := by decide +kernel
theorem dX7_inner_32 : decode cX7_inner 32 = .ok (.ldc 9, 2) := by decide +kernel
theorem dX7_inner_34 : decode cX7_inner 34 = .ok (.ireturn, 1) := by decide +kernel
theorem dX7_inner_35 : decode cX7_inner 35 = .ok (.iconst 2, 1) := by decide +kernel
theorem dX7_inner_36 : decode cX7_inner 36 = .ok (.iload_n 1, 1) := by decide +kernel
theorem dX7_inner_37 : decode cX7_inner 37 = .ok (.imul, 1) := by decide +kernel
theorem dX7_inner_38 : decode cX7_inner 38 = .ok (.iload_n 2, 1) := by decide +kernel
theorem dX7_inner_39 : decode cX7_inner 39 = .ok (.iadd, 1) := by decide +kernel
theorem dX7_inner_40 : decode cX7_inner 40 = .ok (.istore 4, 2) := by decide +kernel
theorem dX7_inner_42 : decode cX7_inner 42 = .ok (.aload_n 0, 1) := by decide +kernel
theorem dX7_inner_43 : decode cX7_inner 43 = .ok (.iload_n 1, 1) := by decide +kernel
theorem dX7_inner_44 : decode cX7_inner 44 = .ok (.invokevirtual 232, 3) := by decide +kernel
theorem dX7_inner_47 : decode cX7_inner 47 = .ok (.ifCond .ne 31, 3) := by decide +kernel
theorem dX7_inner_50 : decode cX7_inner 50 = .ok (.iload_n 3, 1) := by decide +kernel
theorem dX7_inner_51 : decode cX7_inner 51 = .ok (.ifCond .lt 24, 3) := by decide +kernel
theorem dX7_inner_54 : decode cX7_inner 54 = .ok (.iload_n 3, 1) := by decide +kernel
theorem dX7_inner_55 : decode cX7_inner 55 = .ok (.bipush 24, 2) := by decide +kernel
theorem dX7_inner_57 : decode cX7_inner 57 = .ok (.if_icmp .ge 18, 3) := by decide +kernel
theorem dX7_inner_60 : decode cX7_inner 60 = .ok (.aload_n 0, 1) := by decide +kernel
theorem dX7_inner_61 : decode cX7_inner 61 = .ok (.getfield 17, 3) := by decide +kernel
theorem dX7_inner_64 : decode cX7_inner 64 = .ok (.bipush 24, 2) := by decide +kernel
theorem dX7_inner_66 : decode cX7_inner 66 = .ok (.iload 4, 2) := by decide +kernel
theorem dX7_inner_68 : decode cX7_inner 68 = .ok (.imul, 1) := by decide +kernel
theorem dX7_inner_69 : decode cX7_inner 69 = .ok (.iload_n 3, 1) := by decide +kernel
theorem dX7_inner_70 : decode cX7_inner 70 = .ok (.iadd, 1) := by decide +kernel
theorem dX7_inner_71 : decode cX7_inner 71 = .ok (.iaload, 1) := by decide +kernel
theorem dX7_inner_72 : decode cX7_inner 72 = .ok (.goto 5, 3) := by decide +kernel
theorem dX7_inner_75 : decode cX7_inner 75 = .ok (.ldc 9, 2) := by decide +kernel
theorem dX7_inner_77 : decode cX7_inner 77 = .ok (.ireturn, 1) := by decide +kernel
theorem dX7_inner_78 : decode cX7_inner 78 = .ok (.iload_n 3, 1) := by decide +kernel
theorem dX7_inner_79 : decode cX7_inner 79 = .ok (.ifCond .lt 22, 3) := by decide +kernel
theorem dX7_inner_82 : decode cX7_inner 82 = .ok (.iload_n 3, 1) := by decide +kernel
theorem dX7_inner_83 : decode cX7_inner 83 = .ok (.bipush 23, 2) := by decide +kernel
theorem dX7_inner_85 : decode cX7_inner 85 = .ok (.if_icmp .ge 16, 3) := by decide +kernel
theorem dX7_inner_88 : decode cX7_inner 88 = .ok (.aload_n 0, 1) := by decide +kernel
theorem dX7_inner_89 : decode cX7_inner 89 = .ok (.getfield 69, 3) := by decide +kernel
theorem dX7_inner_92 : decode cX7_inner 92 = .ok (.bipush 46, 2) := by decide +kernel
theorem dX7_inner_94 : decode cX7_inner 94 = .ok (.iload 4, 2) := by decide +kernel
theorem dX7_inner_96 : decode cX7_inner 96 = .ok (.imul, 1) := by decide +kernel
theorem dX7_inner_97 : decode cX7_inner 97 = .ok (.iload_n 3, 1) := by decide +kernel
theorem dX7_inner_98 : decode cX7_inner 98 = .ok (.iadd, 1) := by decide +kernel
theorem dX7_inner_99 : decode cX7_inner 99 = .ok (.iaload, 1) := by decide +kernel
theorem dX7_inner_100 : decode cX7_inner 100 = .ok (.ireturn, 1) := by decide +kernel
theorem dX7_inner_101 : decode cX7_inner 101 = .ok (.iload_n 3, 1) := by decide +kernel
theorem dX7_inner_102 : decode cX7_inner 102 = .ok (.bipush 30, 2) := by decide +kernel
theorem dX7_inner_104 : decode cX7_inner 104 = .ok (.if_icmp .lt 25, 3) := by decide +kernel
theorem dX7_inner_107 : decode cX7_inner 107 = .ok (.iload_n 3, 1) := by decide +kernel
theorem dX7_inner_108 : decode cX7_inner 108 = .ok (.bipush 53, 2) := by decide +kernel
theorem dX7_inner_110 : decode cX7_inner 110 = .ok (.if_icmp .ge 19, 3) := by decide +kernel
theorem dX7_inner_113 : decode cX7_inner 113 = .ok (.aload_n 0, 1) := by decide +kernel
theorem dX7_inner_114 : decode cX7_inner 114 = .ok (.getfield 69, 3) := by decide +kernel
theorem dX7_inner_117 : decode cX7_inner 117 = .ok (.bipush 46, 2) := by decide +kernel
theorem dX7_inner_119 : decode cX7_inner 119 = .ok (.iload 4, 2) := by decide +kernel
theorem dX7_inner_121 : decode cX7_inner 121 = .ok (.imul, 1) := by decide +kernel
theorem dX7_inner_122 : decode cX7_inner 122 = .ok (.iload_n 3, 1) := by decide +kernel
theorem dX7_inner_123 : decode cX7_inner 123 = .ok (.iadd, 1) := by decide +kernel
theorem dX7_inner_124 : decode cX7_inner 124 = .ok (.bipush 7, 2) := by decide +kernel
theorem dX7_inner_126 : decode cX7_inner 126 = .ok (.isub, 1) := by decide +kernel
theorem dX7_inner_127 : decode cX7_inner 127 = .ok (.iaload, 1) := by decide +kernel
theorem dX7_inner_128 : decode cX7_inner 128 = .ok (.ireturn, 1) := by decide +kernel
theorem dX7_inner_129 : decode cX7_inner 129 = .ok (.iload_n 3, 1) := by decide +kernel
theorem dX7_inner_130 : decode cX7_inner 130 = .ok (.bipush 60, 2) := by decide +kernel
theorem dX7_inner_132 : decode cX7_inner 132 = .ok (.if_icmp .lt 27, 3) := by decide +kernel
theorem dX7_inner_135 : decode cX7_inner 135 = .ok (.iload_n 3, 1) := by decide +kernel
theorem dX7_inner_136 : decode cX7_inner 136 = .ok (.bipush 84, 2) := by decide +kernel
theorem dX7_inner_138 : decode cX7_inner 138 = .ok (.if_icmp .ge 21, 3) := by decide +kernel
theorem dX7_inner_141 : decode cX7_inner 141 = .ok (.aload_n 0, 1) := by decide +kernel
theorem dX7_inner_142 : decode cX7_inner 142 = .ok (.getfield 72, 3) := by decide +kernel
theorem dX7_inner_145 : decode cX7_inner 145 = .ok (.bipush 24, 2) := by decide +kernel
theorem dX7_inner_147 : decode cX7_inner 147 = .ok (.iload 4, 2) := by decide +kernel
theorem dX7_inner_149 : decode cX7_inner 149 = .ok (.imul, 1) := by decide +kernel
theorem dX7_inner_150 : decode cX7_inner 150 = .ok (.iload_n 3, 1) := by decide +kernel
theorem dX7_inner_151 : decode cX7_inner 151 = .ok (.iadd, 1) := by decide +kernel
theorem dX7_inner_152 : decode cX7_inner 152 = .ok (.bipush 60, 2) := by decide +kernel
theorem dX7_inner_154 : decode cX7_inner 154 = .ok (.isub, 1) := by decide +kernel
theorem dX7_inner_155 : decode cX7_inner 155 = .ok (.iaload, 1) := by decide +kernel
theorem dX7_inner_156 : decode cX7_inner 156 = .ok (.goto 5, 3) := by decide +kernel
theorem dX7_inner_159 : decode cX7_inner 159 = .ok (.ldc 9, 2) := by decide +kernel
theorem dX7_inner_161 : decode cX7_inner 161 = .ok (.ireturn, 1) := by decide +kernel
theorem dX7_puts_0 : decode cX7_puts 0 = .ok (.bipush 24, 2) := by decide +kernel
theorem dX7_puts_2 : decode cX7_puts 2 = .ok (.istore_n 2, 1) := by decide +kernel
theorem dX7_puts_3 : decode cX7_puts 3 = .ok (.iload_n 2, 1) := by decide +kernel
theorem dX7_puts_4 : decode cX7_puts 4 = .ok (.ifCond .lt 35, 3) := by decide +kernel
theorem dX7_puts_7 : decode cX7_puts 7 = .ok (.aload_n 0, 1) := by decide +kernel
theorem dX7_puts_8 : decode cX7_puts 8 = .ok (.getfield 102, 3) := by decide +kernel
theorem dX7_puts_11 : decode cX7_puts 11 = .ok (.aload_n 0, 1) := by decide +kernel
theorem dX7_puts_12 : decode cX7_puts 12 = .ok (.getfield 254, 3) := by decide +kernel
theorem dX7_puts_15 : decode cX7_puts 15 = .ok (.iload_n 1, 1) := by decide +kernel
theorem dX7_puts_16 : decode cX7_puts 16 = .ok (.iload_n 2, 1) := by decide +kernel
theorem dX7_puts_17 : decode cX7_puts 17 = .ok (.ishr, 1) := by decide +kernel
theorem dX7_puts_18 : decode cX7_puts 18 = .ok (.sipush 255, 3) := by decide +kernel
theorem dX7_puts_21 : decode cX7_puts 21 = .ok (.iand, 1) := by decide +kernel
theorem dX7_puts_22 : decode cX7_puts 22 = .ok (.iastore, 1) := by decide +kernel
theorem dX7_puts_23 : decode cX7_puts 23 = .ok (.aload_n 0, 1) := by decide +kernel
theorem dX7_puts_24 : decode cX7_puts 24 = .ok (.aload_n 0, 1) := by decide +kernel
theorem dX7_puts_25 : decode cX7_puts 25 = .ok (.getfield 254, 3) := by decide +kernel
theorem dX7_puts_28 : decode cX7_puts 28 = .ok (.iconst 1, 1) := by decide +kernel
theorem dX7_puts_29 : decode cX7_puts 29 = .ok (.iadd, 1) := by decide +kernel
theorem dX7_puts_30 : decode cX7_puts 30 = .ok (.putfield 254, 3) := by decide +kernel
theorem dX7_puts_33 : decode cX7_puts 33 = .ok (.iinc 2 (-8), 3) := by decide +kernel
theorem dX7_puts_36 : decode cX7_puts 36 = .ok (.goto (-33), 3) := by decide +kernel
theorem dX7_puts_39 : decode cX7_puts 39 = .ok (.return_, 1) := by decide +kernel
theorem dX7_feed_0 : decode cX7_feed 0 = .ok (.aload_n 0, 1) := by decide +kernel
theorem dX7_feed_1 : decode cX7_feed 1 = .ok (.iconst 0, 1) := by decide +kernel
theorem dX7_feed_2 : decode cX7_feed 2 = .ok (.putfield 114, 3) := by decide +kernel
theorem dX7_feed_5 : decode cX7_feed 5 = .ok (.aload_n 0, 1) := by decide +kernel
theorem dX7_feed_6 : decode cX7_feed 6 = .ok (.getfield 254, 3) := by decide +kernel
theorem dX7_feed_9 : decode cX7_feed 9 = .ok (.bipush 20, 2) := by decide +kernel
theorem dX7_feed_11 : decode cX7_feed 11 = .ok (.iadd, 1) := by decide +kernel
theorem dX7_feed_12 : decode cX7_feed 12 = .ok (.sipush 1000, 3) := by decide +kernel
theorem dX7_feed_15 : decode cX7_feed 15 = .ok (.if_icmp .le 6, 3) := by decide +kernel
theorem dX7_feed_18 : decode cX7_feed 18 = .ok (.ldc 9, 2) := by decide +kernel
theorem dX7_feed_20 : decode cX7_feed 20 = .ok (.ireturn, 1) := by decide +kernel
theorem dX7_feed_21 : decode cX7_feed 21 = .ok (.aload_n 0, 1) := by decide +kernel
theorem dX7_feed_22 : decode cX7_feed 22 = .ok (.iload_n 1, 1) := by decide +kernel
theorem dX7_feed_23 : decode cX7_feed 23 = .ok (.invokevirtual 257, 3) := by decide +kernel
theorem dX7_feed_26 : decode cX7_feed 26 = .ok (.aload_n 0, 1) := by decide +kernel
theorem dX7_feed_27 : decode cX7_feed 27 = .ok (.iload_n 2, 1) := by decide +kernel
theorem dX7_feed_28 : decode cX7_feed 28 = .ok (.invokevirtual 257, 3) := by decide +kernel
theorem dX7_feed_31 : decode cX7_feed 31 = .ok (.aload_n 0, 1) := by decide +kernel
theorem dX7_feed_32 : decode cX7_feed 32 = .ok (.iload_n 3, 1) := by decide +kernel
theorem dX7_feed_33 : decode cX7_feed 33 = .ok (.invokevirtual 257, 3) := by decide +kernel
theorem dX7_feed_36 : decode cX7_feed 36 = .ok (.aload_n 0, 1) := by decide +kernel
theorem dX7_feed_37 : decode cX7_feed 37 = .ok (.iload 4, 2) := by decide +kernel
theorem dX7_feed_39 : decode cX7_feed 39 = .ok (.invokevirtual 257, 3) := by decide +kernel
theorem dX7_feed_42 : decode cX7_feed 42 = .ok (.aload_n 0, 1) := by decide +kernel
theorem dX7_feed_43 : decode cX7_feed 43 = .ok (.iload 5, 2) := by decide +kernel
theorem dX7_feed_45 : decode cX7_feed 45 = .ok (.invokevirtual 257, 3) := by decide +kernel
theorem dX7_feed_48 : decode cX7_feed 48 = .ok (.aload_n 0, 1) := by decide +kernel
theorem dX7_feed_49 : decode cX7_feed 49 = .ok (.getfield 254, 3) := by decide +kernel
theorem dX7_feed_52 : decode cX7_feed 52 = .ok (.ireturn, 1) := by decide +kernel
theorem dX7_end_0 : decode cX7_end 0 = .ok (.aload_n 0, 1) := by decide +kernel
theorem dX7_end_1 : decode cX7_end 1 = .ok (.iconst 0, 1) := by decide +kernel
theorem dX7_end_2 : decode cX7_end 2 = .ok (.putfield 114, 3) := by decide +kernel
theorem dX7_end_5 : decode cX7_end 5 = .ok (.iload_n 1, 1) := by decide +kernel
theorem dX7_end_6 : decode cX7_end 6 = .ok (.ifCond .lt 11, 3) := by decide +kernel
theorem dX7_end_9 : decode cX7_end 9 = .ok (.iload_n 1, 1) := by decide +kernel
theorem dX7_end_10 : decode cX7_end 10 = .ok (.aload_n 0, 1) := by decide +kernel
theorem dX7_end_11 : decode cX7_end 11 = .ok (.getfield 254, 3) := by decide +kernel
theorem dX7_end_14 : decode cX7_end 14 = .ok (.if_icmp .le 6, 3) := by decide +kernel
theorem dX7_end_17 : decode cX7_end 17 = .ok (.ldc 9, 2) := by decide +kernel
theorem dX7_end_19 : decode cX7_end 19 = .ok (.ireturn, 1) := by decide +kernel
theorem dX7_end_20 : decode cX7_end 20 = .ok (.aload_n 0, 1) := by decide +kernel
theorem dX7_end_21 : decode cX7_end 21 = .ok (.iload_n 1, 1) := by decide +kernel
theorem dX7_end_22 : decode cX7_end 22 = .ok (.putfield 254, 3) := by decide +kernel
theorem dX7_end_25 : decode cX7_end 25 = .ok (.iload_n 1, 1) := by decide +kernel
theorem dX7_end_26 : decode cX7_end 26 = .ok (.ireturn, 1) := by decide +kernel
theorem dX7_take_0 : decode cX7_take 0 = .ok (.aload_n 0, 1) := by decide +kernel
theorem dX7_take_1 : decode cX7_take 1 = .ok (.iconst 0, 1) := by decide +kernel
theorem dX7_take_2 : decode cX7_take 2 = .ok (.putfield 114, 3) := by decide +kernel
theorem dX7_take_5 : decode cX7_take 5 = .ok (.aload_n 0, 1) := by decide +kernel
theorem dX7_take_6 : decode cX7_take 6 = .ok (.aload_n 0, 1) := by decide +kernel
theorem dX7_take_7 : decode cX7_take 7 = .ok (.getfield 260, 3) := by decide +kernel
theorem dX7_take_10 : decode cX7_take 10 = .ok (.sipush 1000, 3) := by decide +kernel
theorem dX7_take_13 : decode cX7_take 13 = .ok (.if_icmp .ge 10, 3) := by decide +kernel
theorem dX7_take_16 : decode cX7_take 16 = .ok (.aload_n 0, 1) := by decide +kernel
theorem dX7_take_17 : decode cX7_take 17 = .ok (.getfield 260, 3) := by decide +kernel
theorem dX7_take_20 : decode cX7_take 20 = .ok (.goto 6, 3) := by decide +kernel
theorem dX7_take_23 : decode cX7_take 23 = .ok (.sipush 1000, 3) := by decide +kernel
theorem dX7_take_26 : decode cX7_take 26 = .ok (.putfield 254, 3) := by decide +kernel
theorem dX7_take_29 : decode cX7_take 29 = .ok (.iconst 0, 1) := by decide +kernel
theorem dX7_take_30 : decode cX7_take 30 = .ok (.istore_n 1, 1) := by decide +kernel
theorem dX7_take_31 : decode cX7_take 31 = .ok (.iload_n 1, 1) := by decide +kernel
theorem dX7_take_32 : decode cX7_take 32 = .ok (.aload_n 0, 1) := by decide +kernel
theorem dX7_take_33 : decode cX7_take 33 = .ok (.getfield 254, 3) := by decide +kernel
theorem dX7_take_36 : decode cX7_take 36 = .ok (.if_icmp .ge 21, 3) := by decide +kernel
theorem dX7_take_39 : decode cX7_take 39 = .ok (.aload_n 0, 1) := by decide +kernel
theorem dX7_take_40 : decode cX7_take 40 = .ok (.getfield 102, 3) := by decide +kernel
theorem dX7_take_43 : decode cX7_take 43 = .ok (.iload_n 1, 1) := by decide +kernel
theorem dX7_take_44 : decode cX7_take 44 = .ok (.aload_n 0, 1) := by decide +kernel
theorem dX7_take_45 : decode cX7_take 45 = .ok (.getfield 105, 3) := by decide +kernel
theorem dX7_take_48 : decode cX7_take 48 = .ok (.iload_n 1, 1) := by decide +kernel
theorem dX7_take_49 : decode cX7_take 49 = .ok (.iaload, 1) := by decide +kernel
theorem dX7_take_50 : decode cX7_take 50 = .ok (.iastore, 1) := by decide +kernel
theorem dX7_take_51 : decode cX7_take 51 = .ok (.iinc 1 1, 3) := by decide +kernel
theorem dX7_take_54 : decode cX7_take 54 = .ok (.goto (-23), 3) := by decide +kernel
theorem dX7_take_57 : decode cX7_take 57 = .ok (.aload_n 0, 1) := by decide +kernel
theorem dX7_take_58 : decode cX7_take 58 = .ok (.getfield 254, 3) := by decide +kernel
theorem dX7_take_61 : decode cX7_take 61 = .ok (.ireturn, 1) := by decide +kernel
theorem dX7_out_0 : decode cX7_out 0 = .ok (.aload_n 0, 1) := by decide +kernel
theorem dX7_out_1 : decode cX7_out 1 = .ok (.iconst 0, 1) := by decide +kernel
theorem dX7_out_2 : decode cX7_out 2 = .ok (.putfield 114, 3) := by decide +kernel
theorem dX7_out_5 : decode cX7_out 5 = .ok (.iload_n 1, 1) := by decide +kernel
theorem dX7_out_6 : decode cX7_out 6 = .ok (.ifCond .lt 20, 3) := by decide +kernel
theorem dX7_out_9 : decode cX7_out 9 = .ok (.iload_n 1, 1) := by decide +kernel
theorem dX7_out_10 : decode cX7_out 10 = .ok (.aload_n 0, 1) := by decide +kernel
theorem dX7_out_11 : decode cX7_out 11 = .ok (.getfield 260, 3) := by decide +kernel
theorem dX7_out_14 : decode cX7_out 14 = .ok (.if_icmp .ge 12, 3) := by decide +kernel
theorem dX7_out_17 : decode cX7_out 17 = .ok (.aload_n 0, 1) := by decide +kernel
theorem dX7_out_18 : decode cX7_out 18 = .ok (.getfield 105, 3) := by decide +kernel
theorem dX7_out_21 : decode cX7_out 21 = .ok (.iload_n 1, 1) := by decide +kernel
theorem dX7_out_22 : decode cX7_out 22 = .ok (.iaload, 1) := by decide +kernel
theorem dX7_out_23 : decode cX7_out 23 = .ok (.goto 5, 3) := by decide +kernel
theorem dX7_out_26 : decode cX7_out 26 = .ok (.ldc 9, 2) := by decide +kernel
theorem dX7_out_28 : decode cX7_out 28 = .ok (.ireturn, 1) := by decide +kernel
theorem dX7_sampleAt_0 : decode cX7_sampleAt 0 = .ok (.aload_n 0, 1) := by decide +kernel
theorem dX7_sampleAt_1 : decode cX7_sampleAt 1 = .ok (.aload_n 0, 1) := by decide +kernel
theorem dX7_sampleAt_2 : decode cX7_sampleAt 2 = .ok (.getfield 102, 3) := by decide +kernel
theorem dX7_sampleAt_5 : decode cX7_sampleAt 5 = .ok (.iload_n 1, 1) := by decide +kernel
theorem dX7_sampleAt_6 : decode cX7_sampleAt 6 = .ok (.iaload, 1) := by decide +kernel
theorem dX7_sampleAt_7 : decode cX7_sampleAt 7 = .ok (.bipush 8, 2) := by decide +kernel
theorem dX7_sampleAt_9 : decode cX7_sampleAt 9 = .ok (.ishl, 1) := by decide +kernel
theorem dX7_sampleAt_10 : decode cX7_sampleAt 10 = .ok (.aload_n 0, 1) := by decide +kernel
theorem dX7_sampleAt_11 : decode cX7_sampleAt 11 = .ok (.getfield 102, 3) := by decide +kernel
theorem dX7_sampleAt_14 : decode cX7_sampleAt 14 = .ok (.iload_n 1, 1) := by decide +kernel
theorem dX7_sampleAt_15 : decode cX7_sampleAt 15 = .ok (.iconst 1, 1) := by decide +kernel
theorem dX7_sampleAt_16 : decode cX7_sampleAt 16 = .ok (.iadd, 1) := by decide +kernel
theorem dX7_sampleAt_17 : decode cX7_sampleAt 17 = .ok (.iaload, 1) := by decide +kernel
theorem dX7_sampleAt_18 : decode cX7_sampleAt 18 = .ok (.ior, 1) := by decide +kernel
theorem dX7_sampleAt_19 : decode cX7_sampleAt 19 = .ok (.invokevirtual 140, 3) := by decide +kernel
theorem dX7_sampleAt_22 : decode cX7_sampleAt 22 = .ok (.ireturn, 1) := by decide +kernel
theorem dX7_bit_0 : decode cX7_bit 0 = .ok (.aload_n 0, 1) := by decide +kernel
theorem dX7_bit_1 : decode cX7_bit 1 = .ok (.getfield 105, 3) := by decide +kernel
theorem dX7_bit_4 : decode cX7_bit 4 = .ok (.iload_n 1, 1) := by decide +kernel
theorem dX7_bit_5 : decode cX7_bit 5 = .ok (.bipush 8, 2) := by decide +kernel
theorem dX7_bit_7 : decode cX7_bit 7 = .ok (.idiv, 1) := by decide +kernel
theorem dX7_bit_8 : decode cX7_bit 8 = .ok (.aload_n 0, 1) := by decide +kernel
theorem dX7_bit_9 : decode cX7_bit 9 = .ok (.getfield 105, 3) := by decide +kernel
theorem dX7_bit_12 : decode cX7_bit 12 = .ok (.iload_n 1, 1) := by decide +kernel
theorem dX7_bit_13 : decode cX7_bit 13 = .ok (.bipush 8, 2) := by decide +kernel
theorem dX7_bit_15 : decode cX7_bit 15 = .ok (.idiv, 1) := by decide +kernel
theorem dX7_bit_16 : decode cX7_bit 16 = .ok (.iaload, 1) := by decide +kernel
theorem dX7_bit_17 : decode cX7_bit 17 = .ok (.iload_n 2, 1) := by decide +kernel
theorem dX7_bit_18 : decode cX7_bit 18 = .ok (.iload_n 3, 1) := by decide +kernel
theorem dX7_bit_19 : decode cX7_bit 19 = .ok (.ifCond .eq 13, 3) := by decide +kernel
theorem dX7_bit_22 : decode cX7_bit 22 = .ok (.bipush 7, 2) := by decide +kernel
theorem dX7_bit_24 : decode cX7_bit 24 = .ok (.iload_n 1, 1) := by decide +kernel
theorem dX7_bit_25 : decode cX7_bit 25 = .ok (.bipush 8, 2) := by decide +kernel
theorem dX7_bit_27 : decode cX7_bit 27 = .ok (.irem, 1) := by decide +kernel
theorem dX7_bit_28 : decode cX7_bit 28 = .ok (.isub, 1) := by decide +kernel
theorem dX7_bit_29 : decode cX7_bit 29 = .ok (.goto 7, 3) := by decide +kernel
theorem dX7_bit_32 : decode cX7_bit 32 = .ok (.iload_n 1, 1) := by decide +kernel
theorem dX7_bit_33 : decode cX7_bit 33 = .ok (.bipush 8, 2) := by decide +kernel
theorem dX7_bit_35 : decode cX7_bit 35 = .ok (.irem, 1) := by decide +kernel
theorem dX7_bit_36 : decode cX7_bit 36 = .ok (.ishl, 1) := by decide +kernel
theorem dX7_bit_37 : decode cX7_bit 37 = .ok (.ior, 1) := by decide +kernel
theorem dX7_bit_38 : decode cX7_bit 38 = .ok (.iastore, 1) := by decide +kernel
theorem dX7_bit_39 : decode cX7_bit 39 = .ok (.return_, 1) := by decide +kernel
theorem dX7_pack_0 : decode cX7_pack 0 = .ok (.aload_n 0, 1) := by decide +kernel
theorem dX7_pack_1 : decode cX7_pack 1 = .ok (.iconst 0, 1) := by decide +kernel
theorem dX7_pack_2 : decode cX7_pack 2 = .ok (.putfield 114, 3) := by decide +kernel
theorem dX7_pack_5 : decode cX7_pack 5 = .ok (.aload_n 0, 1) := by decide +kernel
theorem dX7_pack_6 : decode cX7_pack 6 = .ok (.iload_n 1, 1) := by decide +kernel
theorem dX7_pack_7 : decode cX7_pack 7 = .ok (.invokevirtual 229, 3) := by decide +kernel
theorem dX7_pack_10 : decode cX7_pack 10 = .ok (.ifCond .ne 6, 3) := by decide +kernel
theorem dX7_pack_13 : decode cX7_pack 13 = .ok (.ldc 9, 2) := by decide +kernel
theorem dX7_pack_15 : decode cX7_pack 15 = .ok (.ireturn, 1) := by decide +kernel
theorem dX7_pack_16 : decode cX7_pack 16 = .ok (.aload_n 0, 1) := by decide +kernel
theorem dX7_pack_17 : decode cX7_pack 17 = .ok (.iload_n 1, 1) := by decide +kernel
theorem dX7_pack_18 : decode cX7_pack 18 = .ok (.invokevirtual 232, 3) := by decide +kernel
theorem dX7_pack_21 : decode cX7_pack 21 = .ok (.ifCond .eq 7, 3) := by decide +kernel
theorem dX7_pack_24 : decode cX7_pack 24 = .ok (.iconst 4, 1) := by decide +kernel
theorem dX7_pack_25 : decode cX7_pack 25 = .ok (.goto 4, 3) := by decide +kernel
theorem dX7_pack_28 : decode cX7_pack 28 = .ok (.iconst 2, 1) := by decide +kernel
theorem dX7_pack_29 : decode cX7_pack 29 = .ok (.istore_n 3, 1) := by decide +kernel
theorem dX7_pack_30 : decode cX7_pack 30 = .ok (.aload_n 0, 1) := by decide +kernel
theorem dX7_pack_31 : decode cX7_pack 31 = .ok (.getfield 254, 3) := by decide +kernel
theorem dX7_pack_34 : decode cX7_pack 34 = .ok (.iload_n 3, 1) := by decide +kernel
theorem dX7_pack_35 : decode cX7_pack 35 = .ok (.irem, 1) := by decide +kernel
theorem dX7_pack_36 : decode cX7_pack 36 = .ok (.ifCond .eq 6, 3) := by decide +kernel
theorem dX7_pack_39 : decode cX7_pack 39 = .ok (.ldc 9, 2) := by decide +kernel
theorem dX7_pack_41 : decode cX7_pack 41 = .ok (.ireturn, 1) := by decide +kernel
theorem dX7_pack_42 : decode cX7_pack 42 = .ok (.aload_n 0, 1) := by decide +kernel
theorem dX7_pack_43 : decode cX7_pack 43 = .ok (.getfield 254, 3) := by decide +kernel
theorem dX7_pack_46 : decode cX7_pack 46 = .ok (.iload_n 3, 1) := by decide +kernel
theorem dX7_pack_47 : decode cX7_pack 47 = .ok (.idiv, 1) := by decide +kernel
theorem dX7_pack_48 : decode cX7_pack 48 = .ok (.istore 4, 2) := by decide +kernel
theorem dX7_pack_50 : decode cX7_pack 50 = .ok (.aload_n 0, 1) := by decide +kernel
theorem dX7_pack_51 : decode cX7_pack 51 = .ok (.iload_n 1, 1) := by decide +kernel
theorem dX7_pack_52 : decode cX7_pack 52 = .ok (.invokevirtual 244, 3) := by decide +kernel
theorem dX7_pack_55 : decode cX7_pack 55 = .ok (.istore 5, 2) := by decide +kernel
theorem dX7_pack_57 : decode cX7_pack 57 = .ok (.aload_n 0, 1) := by decide +kernel
theorem dX7_pack_58 : decode cX7_pack 58 = .ok (.iload 4, 2) := by decide +kernel
theorem dX7_pack_60 : decode cX7_pack 60 = .ok (.iload 5, 2) := by decide +kernel
theorem dX7_pack_62 : decode cX7_pack 62 = .ok (.imul, 1) := by decide +kernel
theorem dX7_pack_63 : decode cX7_pack 63 = .ok (.bipush 7, 2) := by decide +kernel
theorem dX7_pack_65 : decode cX7_pack 65 = .ok (.iadd, 1) := by decide +kernel
theorem dX7_pack_66 : decode cX7_pack 66 = .ok (.bipush 8, 2) := by decide +kernel
theorem dX7_pack_68 : decode cX7_pack 68 = .ok (.idiv, 1) := by decide +kernel
theorem dX7_pack_69 : decode cX7_pack 69 = .ok (.putfield 260, 3) := by decide +kernel
theorem dX7_pack_72 : decode cX7_pack 72 = .ok (.iconst 0, 1) := by decide +kernel
theorem dX7_pack_73 : decode cX7_pack 73 = .ok (.istore 6, 2) := by decide +kernel
theorem dX7_pack_75 : decode cX7_pack 75 = .ok (.iload 6, 2) := by decide +kernel
theorem dX7_pack_77 : decode cX7_pack 77 = .ok (.aload_n 0, 1) := by decide +kernel
theorem dX7_pack_78 : decode cX7_pack 78 = .ok (.getfield 260, 3) := by decide +kernel
theorem dX7_pack_81 : decode cX7_pack 81 = .ok (.if_icmp .ge 17, 3) := by decide +kernel
theorem dX7_pack_84 : decode cX7_pack 84 = .ok (.aload_n 0, 1) := by decide +kernel
theorem dX7_pack_85 : decode cX7_pack 85 = .ok (.getfield 105, 3) := by decide +kernel
theorem dX7_pack_88 : decode cX7_pack 88 = .ok (.iload 6, 2) := by decide +kernel
theorem dX7_pack_90 : decode cX7_pack 90 = .ok (.iconst 0, 1) := by decide +kernel
theorem dX7_pack_91 : decode cX7_pack 91 = .ok (.iastore, 1) := by decide +kernel
theorem dX7_pack_92 : decode cX7_pack 92 = .ok (.iinc 6 1, 3) := by decide +kernel
theorem dX7_pack_95 : decode cX7_pack 95 = .ok (.goto (-20), 3) := by decide +kernel
theorem dX7_pack_98 : decode cX7_pack 98 = .ok (.iconst 0, 1) := by decide +kernel
theorem dX7_pack_99 : decode cX7_pack 99 = .ok (.istore 6, 2) := by decide +kernel
theorem dX7_pack_101 : decode cX7_pack 101 = .ok (.iload 6, 2) := by decide +kernel
theorem dX7_pack_103 : decode cX7_pack 103 = .ok (.iload 4, 2) := by decide +kernel
theorem dX7_pack_105 : decode cX7_pack 105 = .ok (.if_icmp .ge 110, 3) := by decide +kernel
theorem dX7_pack_108 : decode cX7_pack 108 = .ok (.iload_n 3, 1) := by decide +kernel
theorem dX7_pack_109 : decode cX7_pack 109 = .ok (.iconst 4, 1) := by decide +kernel
theorem dX7_pack_110 : decode cX7_pack 110 = .ok (.if_icmp .ne 31, 3) := by decide +kernel
theorem dX7_pack_113 : decode cX7_pack 113 = .ok (.aload_n 0, 1) := by decide +kernel
theorem dX7_pack_114 : decode cX7_pack 114 = .ok (.iconst 2, 1) := by decide +kernel
theorem dX7_pack_115 : decode cX7_pack 115 = .ok (.iload_n 1, 1) := by decide +kernel
theorem dX7_pack_116 : decode cX7_pack 116 = .ok (.imul, 1) := by decide +kernel
theorem dX7_pack_117 : decode cX7_pack 117 = .ok (.aload_n 0, 1) := by decide +kernel
theorem dX7_pack_118 : decode cX7_pack 118 = .ok (.iconst 4, 1) := by decide +kernel
theorem dX7_pack_119 : decode cX7_pack 119 = .ok (.iload 6, 2) := by decide +kernel
theorem dX7_pack_121 : decode cX7_pack 121 = .ok (.imul, 1) := by decide +kernel
theorem dX7_pack_122 : decode cX7_pack 122 = .ok (.invokevirtual 263, 3) := by decide +kernel
theorem dX7_pack_125 : decode cX7_pack 125 = .ok (.aload_n 0, 1) := by decide +kernel
theorem dX7_pack_126 : decode cX7_pack 126 = .ok (.iconst 4, 1) := by decide +kernel
theorem dX7_pack_127 : decode cX7_pack 127 = .ok (.iload 6, 2) := by decide +kernel
theorem dX7_pack_129 : decode cX7_pack 129 = .ok (.imul, 1) := by decide +kernel
theorem dX7_pack_130 : decode cX7_pack 130 = .ok (.iconst 2, 1) := by decide +kernel
theorem dX7_pack_131 : decode cX7_pack 131 = .ok (.iadd, 1) := by decide +kernel
theorem dX7_pack_132 : decode cX7_pack 132 = .ok (.invokevirtual 263, 3) := by decide +kernel
theorem dX7_pack_135 : decode cX7_pack 135 = .ok (.invokevirtual 241, 3) := by decide +kernel
theorem dX7_pack_138 : decode cX7_pack 138 = .ok (.goto 16, 3) := by decide +kernel
theorem dX7_pack_141 : decode cX7_pack 141 = .ok (.aload_n 0, 1) := by decide +kernel
theorem dX7_pack_142 : decode cX7_pack 142 = .ok (.iload_n 1, 1) := by decide +kernel
theorem dX7_pack_143 : decode cX7_pack 143 = .ok (.aload_n 0, 1) := by decide +kernel
theorem dX7_pack_144 : decode cX7_pack 144 = .ok (.iconst 2, 1) := by decide +kernel
theorem dX7_pack_145 : decode cX7_pack 145 = .ok (.iload 6, 2) := by decide +kernel
theorem dX7_pack_147 : decode cX7_pack 147 = .ok (.imul, 1) := by decide +kernel
theorem dX7_pack_148 : decode cX7_pack 148 = .ok (.invokevirtual 263, 3) := by decide +kernel
theorem dX7_pack_151 : decode cX7_pack 151 = .ok (.invokevirtual 238, 3) := by decide +kernel
theorem dX7_pack_154 : decode cX7_pack 154 = .ok (.istore 7, 2) := by decide +kernel
theorem dX7_pack_156 : decode cX7_pack 156 = .ok (.iconst 0, 1) := by decide +kernel
theorem dX7_pack_157 : decode cX7_pack 157 = .ok (.istore 8, 2) := by decide +kernel
theorem dX7_pack_159 : decode cX7_pack 159 = .ok (.iload 8, 2) := by decide +kernel
theorem dX7_pack_161 : decode cX7_pack 161 = .ok (.iload 5, 2) := by decide +kernel
theorem dX7_pack_163 : decode cX7_pack 163 = .ok (.if_icmp .ge 46, 3) := by decide +kernel
theorem dX7_pack_166 : decode cX7_pack 166 = .ok (.aload_n 0, 1) := by decide +kernel
theorem dX7_pack_167 : decode cX7_pack 167 = .ok (.iload 5, 2) := by decide +kernel
theorem dX7_pack_169 : decode cX7_pack 169 = .ok (.iload 6, 2) := by decide +kernel
theorem dX7_pack_171 : decode cX7_pack 171 = .ok (.imul, 1) := by decide +kernel
theorem dX7_pack_172 : decode cX7_pack 172 = .ok (.iload 8, 2) := by decide +kernel
theorem dX7_pack_174 : decode cX7_pack 174 = .ok (.iadd, 1) := by decide +kernel
theorem dX7_pack_175 : decode cX7_pack 175 = .ok (.iload_n 2, 1) := by decide +kernel
theorem dX7_pack_176 : decode cX7_pack 176 = .ok (.ifCond .eq 16, 3) := by decide +kernel
theorem dX7_pack_179 : decode cX7_pack 179 = .ok (.iload 7, 2) := by decide +kernel
theorem dX7_pack_181 : decode cX7_pack 181 = .ok (.iload 5, 2) := by decide +kernel
theorem dX7_pack_183 : decode cX7_pack 183 = .ok (.iconst 1, 1) := by decide +kernel
theorem dX7_pack_184 : decode cX7_pack 184 = .ok (.isub, 1) := by decide +kernel
theorem dX7_pack_185 : decode cX7_pack 185 = .ok (.iload 8, 2) := by decide +kernel
theorem dX7_pack_187 : decode cX7_pack 187 = .ok (.isub, 1) := by decide +kernel
theorem dX7_pack_188 : decode cX7_pack 188 = .ok (.ishr, 1) := by decide +kernel
theorem dX7_pack_189 : decode cX7_pack 189 = .ok (.goto 8, 3) := by decide +kernel
theorem dX7_pack_192 : decode cX7_pack 192 = .ok (.iload 7, 2) := by decide +kernel
theorem dX7_pack_194 : decode cX7_pack 194 = .ok (.iload 8, 2) := by decide +kernel
theorem dX7_pack_196 : decode cX7_pack 196 = .ok (.ishr, 1) := by decide +kernel
theorem dX7_pack_197 : decode cX7_pack 197 = .ok (.iconst 1, 1) := by decide +kernel
theorem dX7_pack_198 : decode cX7_pack 198 = .ok (.iand, 1) := by decide +kernel
theorem dX7_pack_199 : decode cX7_pack 199 = .ok (.iload_n 2, 1) := by decide +kernel
theorem dX7_pack_200 : decode cX7_pack 200 = .ok (.invokevirtual 266, 3) := by decide +kernel
theorem dX7_pack_203 : decode cX7_pack 203 = .ok (.iinc 8 1, 3) := by decide +kernel
theorem dX7_pack_206 : decode cX7_pack 206 = .ok (.goto (-47), 3) := by decide +kernel
theorem dX7_pack_209 : decode cX7_pack 209 = .ok (.iinc 6 1, 3) := by decide +kernel
theorem dX7_pack_212 : decode cX7_pack 212 = .ok (.goto (-111), 3) := by decide +kernel
theorem dX7_pack_215 : decode cX7_pack 215 = .ok (.aload_n 0, 1) := by decide +kernel
theorem dX7_pack_216 : decode cX7_pack 216 = .ok (.iconst 0, 1) := by decide +kernel
theorem dX7_pack_217 : decode cX7_pack 217 = .ok (.putfield 254, 3) := by decide +kernel
theorem dX7_pack_220 : decode cX7_pack 220 = .ok (.iload 4, 2) := by decide +kernel
theorem dX7_pack_222 : decode cX7_pack 222 = .ok (.ireturn, 1) := by decide +kernel
theorem dX7_sample_0 : decode cX7_sample 0 = .ok (.aload_n 0, 1) := by decide +kernel
theorem dX7_sample_1 : decode cX7_sample 1 = .ok (.getfield 105, 3) := by decide +kernel
theorem dX7_sample_4 : decode cX7_sample 4 = .ok (.aload_n 0, 1) := by decide +kernel
theorem dX7_sample_5 : decode cX7_sample 5 = .ok (.getfield 260, 3) := by decide +kernel
theorem dX7_sample_8 : decode cX7_sample 8 = .ok (.iload_n 1, 1) := by decide +kernel
theorem dX7_sample_9 : decode cX7_sample 9 = .ok (.bipush 8, 2) := by decide +kernel
theorem dX7_sample_11 : decode cX7_sample 11 = .ok (.ishr, 1) := by decide +kernel
theorem dX7_sample_12 : decode cX7_sample 12 = .ok (.sipush 255, 3) := by decide +kernel
theorem dX7_sample_15 : decode cX7_sample 15 = .ok (.iand, 1) := by decide +kernel
theorem dX7_sample_16 : decode cX7_sample 16 = .ok (.iastore, 1) := by decide +kernel
theorem dX7_sample_17 : decode cX7_sample 17 = .ok (.aload_n 0, 1) := by decide +kernel
theorem dX7_sample_18 : decode cX7_sample 18 = .ok (.getfield 105, 3) := by decide +kernel
theorem dX7_sample_21 : decode cX7_sample 21 = .ok (.aload_n 0, 1) := by decide +kernel
theorem dX7_sample_22 : decode cX7_sample 22 = .ok (.getfield 260, 3) := by decide +kernel
theorem dX7_sample_25 : decode cX7_sample 25 = .ok (.iconst 1, 1) := by decide +kernel
theorem dX7_sample_26 : decode cX7_sample 26 = .ok (.iadd, 1) := by decide +kernel
theorem dX7_sample_27 : decode cX7_sample 27 = .ok (.iload_n 1, 1) := by decide +kernel
theorem dX7_sample_28 : decode cX7_sample 28 = .ok (.sipush 255, 3) := by decide +kernel
theorem dX7_sample_31 : decode cX7_sample 31 = .ok (.iand, 1) := by decide +kernel
theorem dX7_sample_32 : decode cX7_sample 32 = .ok (.iastore, 1) := by decide +kernel
theorem dX7_sample_33 : decode cX7_sample 33 = .ok (.aload_n 0, 1) := by decide +kernel
theorem dX7_sample_34 : decode cX7_sample 34 = .ok (.aload_n 0, 1) := by decide +kernel
theorem dX7_sample_35 : decode cX7_sample 35 = .ok (.getfield 260, 3) := by decide +kernel
theorem dX7_sample_38 : decode cX7_sample 38 = .ok (.iconst 2, 1) := by decide +kernel
theorem dX7_sample_39 : decode cX7_sample 39 = .ok (.iadd, 1) := by decide +kernel
theorem dX7_sample_40 : decode cX7_sample 40 = .ok (.putfield 260, 3) := by decide +kernel
theorem dX7_sample_43 : decode cX7_sample 43 = .ok (.return_, 1) := by decide +kernel
theorem dX7_unpack_0 : decode cX7_unpack 0 = .ok (.aload_n 0, 1) := by decide +kernel
theorem dX7_unpack_1 : decode cX7_unpack 1 = .ok (.iconst 0, 1) := by decide +kernel
theorem dX7_unpack_2 : decode cX7_unpack 2 = .ok (.putfield 114, 3) := by decide +kernel
theorem dX7_unpack_5 : decode cX7_unpack 5 = .ok (.aload_n 0, 1) := by decide +kernel
theorem dX7_unpack_6 : decode cX7_unpack 6 = .ok (.iload_n 1, 1) := by decide +kernel
theorem dX7_unpack_7 : decode cX7_unpack 7 = .ok (.invokevirtual 229, 3) := by decide +kernel
theorem dX7_unpack_10 : decode cX7_unpack 10 = .ok (.ifCond .eq 34, 3) := by decide +kernel
theorem dX7_unpack_13 : decode cX7_unpack 13 = .ok (.iload_n 3, 1) := by decide +kernel
theorem dX7_unpack_14 : decode cX7_unpack 14 = .ok (.ifCond .lt 30, 3) := by decide +kernel
theorem dX7_unpack_17 : decode cX7_unpack 17 = .ok (.iload_n 3, 1) := by decide +kernel
theorem dX7_unpack_18 : decode cX7_unpack 18 = .ok (.sipush 250, 3) := by decide +kernel
theorem dX7_unpack_21 : decode cX7_unpack 21 = .ok (.if_icmp .gt 23, 3) := by decide +kernel
theorem dX7_unpack_24 : decode cX7_unpack 24 = .ok (.aload_n 0, 1) := by decide +kernel
theorem dX7_unpack_25 : decode cX7_unpack 25 = .ok (.getfield 254, 3) := by decide +kernel
theorem dX7_unpack_28 : decode cX7_unpack 28 = .ok (.iload_n 3, 1) := by decide +kernel
theorem dX7_unpack_29 : decode cX7_unpack 29 = .ok (.aload_n 0, 1) := by decide +kernel
theorem dX7_unpack_30 : decode cX7_unpack 30 = .ok (.iload_n 1, 1) := by decide +kernel
theorem dX7_unpack_31 : decode cX7_unpack 31 = .ok (.invokevirtual 244, 3) := by decide +kernel
theorem dX7_unpack_34 : decode cX7_unpack 34 = .ok (.imul, 1) := by decide +kernel
theorem dX7_unpack_35 : decode cX7_unpack 35 = .ok (.bipush 7, 2) := by decide +kernel
theorem dX7_unpack_37 : decode cX7_unpack 37 = .ok (.iadd, 1) := by decide +kernel
theorem dX7_unpack_38 : decode cX7_unpack 38 = .ok (.bipush 8, 2) := by decide +kernel
theorem dX7_unpack_40 : decode cX7_unpack 40 = .ok (.idiv, 1) := by decide +kernel
theorem dX7_unpack_41 : decode cX7_unpack 41 = .ok (.if_icmp .eq 6, 3) := by decide +kernel
theorem dX7_unpack_44 : decode cX7_unpack 44 = .ok (.ldc 9, 2) := by decide +kernel
theorem dX7_unpack_46 : decode cX7_unpack 46 = .ok (.ireturn, 1) := by decide +kernel
theorem dX7_unpack_47 : decode cX7_unpack 47 = .ok (.aload_n 0, 1) := by decide +kernel
theorem dX7_unpack_48 : decode cX7_unpack 48 = .ok (.iload_n 1, 1) := by decide +kernel
theorem dX7_unpack_49 : decode cX7_unpack 49 = .ok (.invokevirtual 244, 3) := by decide +kernel
theorem dX7_unpack_52 : decode cX7_unpack 52 = .ok (.istore 4, 2) := by decide +kernel
theorem dX7_unpack_54 : decode cX7_unpack 54 = .ok (.aload_n 0, 1) := by decide +kernel
theorem dX7_unpack_55 : decode cX7_unpack 55 = .ok (.iconst 0, 1) := by decide +kernel
theorem dX7_unpack_56 : decode cX7_unpack 56 = .ok (.putfield 260, 3) := by decide +kernel
theorem dX7_unpack_59 : decode cX7_unpack 59 = .ok (.iconst 0, 1) := by decide +kernel
theorem dX7_unpack_60 : decode cX7_unpack 60 = .ok (.istore 5, 2) := by decide +kernel
theorem dX7_unpack_62 : decode cX7_unpack 62 = .ok (.iload 5, 2) := by decide +kernel
theorem dX7_unpack_64 : decode cX7_unpack 64 = .ok (.iload_n 3, 1) := by decide +kernel
theorem dX7_unpack_65 : decode cX7_unpack 65 = .ok (.if_icmp .ge 126, 3) := by decide +kernel
theorem dX7_unpack_68 : decode cX7_unpack 68 = .ok (.iconst 0, 1) := by decide +kernel
theorem dX7_unpack_69 : decode cX7_unpack 69 = .ok (.istore 6, 2) := by decide +kernel
theorem dX7_unpack_71 : decode cX7_unpack 71 = .ok (.iconst 0, 1) := by decide +kernel
theorem dX7_unpack_72 : decode cX7_unpack 72 = .ok (.istore 7, 2) := by decide +kernel
theorem dX7_unpack_74 : decode cX7_unpack 74 = .ok (.iload 7, 2) := by decide +kernel
theorem dX7_unpack_76 : decode cX7_unpack 76 = .ok (.iload 4, 2) := by decide +kernel
theorem dX7_unpack_78 : decode cX7_unpack 78 = .ok (.if_icmp .ge 78, 3) := by decide +kernel
theorem dX7_unpack_81 : decode cX7_unpack 81 = .ok (.iload 4, 2) := by decide +kernel
theorem dX7_unpack_83 : decode cX7_unpack 83 = .ok (.iload 5, 2) := by decide +kernel
theorem dX7_unpack_85 : decode cX7_unpack 85 = .ok (.imul, 1) := by decide +kernel
theorem dX7_unpack_86 : decode cX7_unpack 86 = .ok (.iload 7, 2) := by decide +kernel
theorem dX7_unpack_88 : decode cX7_unpack 88 = .ok (.iadd, 1) := by decide +kernel
theorem dX7_unpack_89 : decode cX7_unpack 89 = .ok (.istore 8, 2) := by decide +kernel
theorem dX7_unpack_91 : decode cX7_unpack 91 = .ok (.aload_n 0, 1) := by decide +kernel
theorem dX7_unpack_92 : decode cX7_unpack 92 = .ok (.getfield 102, 3) := by decide +kernel
theorem dX7_unpack_95 : decode cX7_unpack 95 = .ok (.iload 8, 2) := by decide +kernel
theorem dX7_unpack_97 : decode cX7_unpack 97 = .ok (.bipush 8, 2) := by decide +kernel
theorem dX7_unpack_99 : decode cX7_unpack 99 = .ok (.idiv, 1) := by decide +kernel
theorem dX7_unpack_100 : decode cX7_unpack 100 = .ok (.iaload, 1) := by decide +kernel
theorem dX7_unpack_101 : decode cX7_unpack 101 = .ok (.iload_n 2, 1) := by decide +kernel
theorem dX7_unpack_102 : decode cX7_unpack 102 = .ok (.ifCond .eq 14, 3) := by decide +kernel
theorem dX7_unpack_105 : decode cX7_unpack 105 = .ok (.bipush 7, 2) := by decide +kernel
theorem dX7_unpack_107 : decode cX7_unpack 107 = .ok (.iload 8, 2) := by decide +kernel
theorem dX7_unpack_109 : decode cX7_unpack 109 = .ok (.bipush 8, 2) := by decide +kernel
theorem dX7_unpack_111 : decode cX7_unpack 111 = .ok (.irem, 1) := by decide +kernel
theorem dX7_unpack_112 : decode cX7_unpack 112 = .ok (.isub, 1) := by decide +kernel
theorem dX7_unpack_113 : decode cX7_unpack 113 = .ok (.goto 8, 3) := by decide +kernel
theorem dX7_unpack_116 : decode cX7_unpack 116 = .ok (.iload 8, 2) := by decide +kernel
theorem dX7_unpack_118 : decode cX7_unpack 118 = .ok (.bipush 8, 2) := by decide +kernel
theorem dX7_unpack_120 : decode cX7_unpack 120 = .ok (.irem, 1) := by decide +kernel
theorem dX7_unpack_121 : decode cX7_unpack 121 = .ok (.ishr, 1) := by decide +kernel
theorem dX7_unpack_122 : decode cX7_unpack 122 = .ok (.iconst 1, 1) := by decide +kernel
theorem dX7_unpack_123 : decode cX7_unpack 123 = .ok (.iand, 1) := by decide +kernel
theorem dX7_unpack_124 : decode cX7_unpack 124 = .ok (.istore 9, 2) := by decide +kernel
theorem dX7_unpack_126 : decode cX7_unpack 126 = .ok (.iload_n 2, 1) := by decide +kernel
theorem dX7_unpack_127 : decode cX7_unpack 127 = .ok (.ifCond .eq 13, 3) := by decide +kernel
theorem dX7_unpack_130 : decode cX7_unpack 130 = .ok (.iconst 2, 1) := by decide +kernel
theorem dX7_unpack_131 : decode cX7_unpack 131 = .ok (.iload 6, 2) := by decide +kernel
theorem dX7_unpack_133 : decode cX7_unpack 133 = .ok (.imul, 1) := by decide +kernel
theorem dX7_unpack_134 : decode cX7_unpack 134 = .ok (.iload 9, 2) := by decide +kernel
theorem dX7_unpack_136 : decode cX7_unpack 136 = .ok (.iadd, 1) := by decide +kernel
theorem dX7_unpack_137 : decode cX7_unpack 137 = .ok (.goto 11, 3) := by decide +kernel
theorem dX7_unpack_140 : decode cX7_unpack 140 = .ok (.iload 6, 2) := by decide +kernel
theorem dX7_unpack_142 : decode cX7_unpack 142 = .ok (.iload 9, 2) := by decide +kernel
theorem dX7_unpack_144 : decode cX7_unpack 144 = .ok (.iload 7, 2) := by decide +kernel
theorem dX7_unpack_146 : decode cX7_unpack 146 = .ok (.ishl, 1) := by decide +kernel
theorem dX7_unpack_147 : decode cX7_unpack 147 = .ok (.ior, 1) := by decide +kernel
theorem dX7_unpack_148 : decode cX7_unpack 148 = .ok (.istore 6, 2) := by decide +kernel
theorem dX7_unpack_150 : decode cX7_unpack 150 = .ok (.iinc 7 1, 3) := by decide +kernel
theorem dX7_unpack_153 : decode cX7_unpack 153 = .ok (.goto (-79), 3) := by decide +kernel
theorem dX7_unpack_156 : decode cX7_unpack 156 = .ok (.aload_n 0, 1) := by decide +kernel
theorem dX7_unpack_157 : decode cX7_unpack 157 = .ok (.aload_n 0, 1) := by decide +kernel
theorem dX7_unpack_158 : decode cX7_unpack 158 = .ok (.iload_n 1, 1) := by decide +kernel
theorem dX7_unpack_159 : decode cX7_unpack 159 = .ok (.iload 6, 2) := by decide +kernel
theorem dX7_unpack_161 : decode cX7_unpack 161 = .ok (.invokevirtual 251, 3) := by decide +kernel
theorem dX7_unpack_164 : decode cX7_unpack 164 = .ok (.invokevirtual 270, 3) := by decide +kernel
theorem dX7_unpack_167 : decode cX7_unpack 167 = .ok (.aload_n 0, 1) := by decide +kernel
theorem dX7_unpack_168 : decode cX7_unpack 168 = .ok (.iload_n 1, 1) := by decide +kernel
theorem dX7_unpack_169 : decode cX7_unpack 169 = .ok (.invokevirtual 232, 3) := by decide +kernel
theorem dX7_unpack_172 : decode cX7_unpack 172 = .ok (.ifCond .eq 13, 3) := by decide +kernel
theorem dX7_unpack_175 : decode cX7_unpack 175 = .ok (.aload_n 0, 1) := by decide +kernel
theorem dX7_unpack_176 : decode cX7_unpack 176 = .ok (.aload_n 0, 1) := by decide +kernel
theorem dX7_unpack_177 : decode cX7_unpack 177 = .ok (.getfield 14, 3) := by decide +kernel
theorem dX7_unpack_180 : decode cX7_unpack 180 = .ok (.iload_n 1, 1) := by decide +kernel
theorem dX7_unpack_181 : decode cX7_unpack 181 = .ok (.iaload, 1) := by decide +kernel
theorem dX7_unpack_182 : decode cX7_unpack 182 = .ok (.invokevirtual 270, 3) := by decide +kernel
theorem dX7_unpack_185 : decode cX7_unpack 185 = .ok (.iinc 5 1, 3) := by decide +kernel
theorem dX7_unpack_188 : decode cX7_unpack 188 = .ok (.goto (-126), 3) := by decide +kernel
theorem dX7_unpack_191 : decode cX7_unpack 191 = .ok (.aload_n 0, 1) := by decide +kernel
theorem dX7_unpack_192 : decode cX7_unpack 192 = .ok (.iconst 0, 1) := by decide +kernel
theorem dX7_unpack_193 : decode cX7_unpack 193 = .ok (.putfield 254, 3) := by decide +kernel
theorem dX7_unpack_196 : decode cX7_unpack 196 = .ok (.aload_n 0, 1) := by decide +kernel
theorem dX7_unpack_197 : decode cX7_unpack 197 = .ok (.getfield 260, 3) := by decide +kernel
theorem dX7_unpack_200 : decode cX7_unpack 200 = .ok (.ireturn, 1) := by decide +kernel
theorem dX7_pass_0 : decode cX7_pass 0 = .ok (.aload_n 0, 1) := by decide +kernel
theorem dX7_pass_1 : decode cX7_pass 1 = .ok (.iconst 0, 1) := by decide +kernel
theorem dX7_pass_2 : decode cX7_pass 2 = .ok (.putfield 114, 3) := by decide +kernel
theorem dX7_pass_5 : decode cX7_pass 5 = .ok (.aload_n 0, 1) := by decide +kernel
theorem dX7_pass_6 : decode cX7_pass 6 = .ok (.iload_n 1, 1) := by decide +kernel
theorem dX7_pass_7 : decode cX7_pass 7 = .ok (.invokevirtual 229, 3) := by decide +kernel
theorem dX7_pass_10 : decode cX7_pass 10 = .ok (.ifCond .eq 33, 3) := by decide +kernel
theorem dX7_pass_13 : decode cX7_pass 13 = .ok (.aload_n 0, 1) := by decide +kernel
theorem dX7_pass_14 : decode cX7_pass 14 = .ok (.iload_n 1, 1) := by decide +kernel
theorem dX7_pass_15 : decode cX7_pass 15 = .ok (.iload_n 3, 1) := by decide +kernel
theorem dX7_pass_16 : decode cX7_pass 16 = .ok (.invokevirtual 247, 3) := by decide +kernel
theorem dX7_pass_19 : decode cX7_pass 19 = .ok (.ifCond .eq 24, 3) := by decide +kernel
theorem dX7_pass_22 : decode cX7_pass 22 = .ok (.aload_n 0, 1) := by decide +kernel
theorem dX7_pass_23 : decode cX7_pass 23 = .ok (.iload_n 2, 1) := by decide +kernel
theorem dX7_pass_24 : decode cX7_pass 24 = .ok (.invokevirtual 229, 3) := by decide +kernel
theorem dX7_pass_27 : decode cX7_pass 27 = .ok (.ifCond .eq 16, 3) := by decide +kernel
theorem dX7_pass_30 : decode cX7_pass 30 = .ok (.aload_n 0, 1) := by decide +kernel
theorem dX7_pass_31 : decode cX7_pass 31 = .ok (.iload_n 1, 1) := by decide +kernel
theorem dX7_pass_32 : decode cX7_pass 32 = .ok (.invokevirtual 232, 3) := by decide +kernel
theorem dX7_pass_35 : decode cX7_pass 35 = .ok (.aload_n 0, 1) := by decide +kernel
theorem dX7_pass_36 : decode cX7_pass 36 = .ok (.iload_n 2, 1) := by decide +kernel
theorem dX7_pass_37 : decode cX7_pass 37 = .ok (.invokevirtual 232, 3) := by decide +kernel
theorem dX7_pass_40 : decode cX7_pass 40 = .ok (.if_icmp .eq 6, 3) := by decide +kernel
theorem dX7_pass_43 : decode cX7_pass 43 = .ok (.ldc 9, 2) := by decide +kernel
theorem dX7_pass_45 : decode cX7_pass 45 = .ok (.ireturn, 1) := by decide +kernel
theorem dX7_pass_46 : decode cX7_pass 46 = .ok (.aload_n 0, 1) := by decide +kernel
theorem dX7_pass_47 : decode cX7_pass 47 = .ok (.iload_n 1, 1) := by decide +kernel
theorem dX7_pass_48 : decode cX7_pass 48 = .ok (.iload_n 3, 1) := by decide +kernel
theorem dX7_pass_49 : decode cX7_pass 49 = .ok (.invokevirtual 251, 3) := by decide +kernel
theorem dX7_pass_52 : decode cX7_pass 52 = .ok (.istore 4, 2) := by decide +kernel
theorem dX7_pass_54 : decode cX7_pass 54 = .ok (.aload_n 0, 1) := by decide +kernel
theorem dX7_pass_55 : decode cX7_pass 55 = .ok (.iload_n 1, 1) := by decide +kernel
theorem dX7_pass_56 : decode cX7_pass 56 = .ok (.invokevirtual 232, 3) := by decide +kernel
theorem dX7_pass_59 : decode cX7_pass 59 = .ok (.ifCond .eq 21, 3) := by decide +kernel
theorem dX7_pass_62 : decode cX7_pass 62 = .ok (.aload_n 0, 1) := by decide +kernel
theorem dX7_pass_63 : decode cX7_pass 63 = .ok (.iconst 2, 1) := by decide +kernel
theorem dX7_pass_64 : decode cX7_pass 64 = .ok (.iload_n 2, 1) := by decide +kernel
theorem dX7_pass_65 : decode cX7_pass 65 = .ok (.imul, 1) := by decide +kernel
theorem dX7_pass_66 : decode cX7_pass 66 = .ok (.iload 4, 2) := by decide +kernel
theorem dX7_pass_68 : decode cX7_pass 68 = .ok (.aload_n 0, 1) := by decide +kernel
theorem dX7_pass_69 : decode cX7_pass 69 = .ok (.getfield 14, 3) := by decide +kernel
theorem dX7_pass_72 : decode cX7_pass 72 = .ok (.iload_n 1, 1) := by decide +kernel
theorem dX7_pass_73 : decode cX7_pass 73 = .ok (.iaload, 1) := by decide +kernel
theorem dX7_pass_74 : decode cX7_pass 74 = .ok (.invokevirtual 241, 3) := by decide +kernel
theorem dX7_pass_77 : decode cX7_pass 77 = .ok (.goto 10, 3) := by decide +kernel
theorem dX7_pass_80 : decode cX7_pass 80 = .ok (.aload_n 0, 1) := by decide +kernel
theorem dX7_pass_81 : decode cX7_pass 81 = .ok (.iload_n 2, 1) := by decide +kernel
theorem dX7_pass_82 : decode cX7_pass 82 = .ok (.iload 4, 2) := by decide +kernel
theorem dX7_pass_84 : decode cX7_pass 84 = .ok (.invokevirtual 238, 3) := by decide +kernel
theorem dX7_pass_87 : decode cX7_pass 87 = .ok (.ireturn, 1) := by decide +kernel
theorem dX7_finds_0 : decode cX7_finds 0 = .ok (.aload_n 0, 1) := by decide +kernel
theorem dX7_finds_1 : decode cX7_finds 1 = .ok (.getfield 273, 3) := by decide +kernel
theorem dX7_finds_4 : decode cX7_finds 4 = .ok (.ifCond .eq 4, 3) := by decide +kernel
theorem dX7_finds_7 : decode cX7_finds 7 = .ok (.return_, 1) := by decide +kernel
theorem dX7_finds_8 : decode cX7_finds 8 = .ok (.aload_n 0, 1) := by decide +kernel
theorem dX7_finds_9 : decode cX7_finds 9 = .ok (.iconst 1, 1) := by decide +kernel
theorem dX7_finds_10 : decode cX7_finds 10 = .ok (.putfield 273, 3) := by decide +kernel
theorem dX7_finds_13 : decode cX7_finds 13 = .ok (.iconst 0, 1) := by decide +kernel
theorem dX7_finds_14 : decode cX7_finds 14 = .ok (.istore_n 1, 1) := by decide +kernel
theorem dX7_finds_15 : decode cX7_finds 15 = .ok (.iload_n 1, 1) := by decide +kernel
theorem dX7_finds_16 : decode cX7_finds 16 = .ok (.sipush 512, 3) := by decide +kernel
theorem dX7_finds_19 : decode cX7_finds 19 = .ok (.if_icmp .ge 25, 3) := by decide +kernel
theorem dX7_finds_22 : decode cX7_finds 22 = .ok (.aload_n 0, 1) := by decide +kernel
theorem dX7_finds_23 : decode cX7_finds 23 = .ok (.getfield 108, 3) := by decide +kernel
theorem dX7_finds_26 : decode cX7_finds 26 = .ok (.iload_n 1, 1) := by decide +kernel
theorem dX7_finds_27 : decode cX7_finds 27 = .ok (.ldc 9, 2) := by decide +kernel
theorem dX7_finds_29 : decode cX7_finds 29 = .ok (.iastore, 1) := by decide +kernel
theorem dX7_finds_30 : decode cX7_finds 30 = .ok (.aload_n 0, 1) := by decide +kernel
theorem dX7_finds_31 : decode cX7_finds 31 = .ok (.getfield 111, 3) := by decide +kernel
theorem dX7_finds_34 : decode cX7_finds 34 = .ok (.iload_n 1, 1) := by decide +kernel
theorem dX7_finds_35 : decode cX7_finds 35 = .ok (.ldc 9, 2) := by decide +kernel
theorem dX7_finds_37 : decode cX7_finds 37 = .ok (.iastore, 1) := by decide +kernel
theorem dX7_finds_38 : decode cX7_finds 38 = .ok (.iinc 1 1, 3) := by decide +kernel
theorem dX7_finds_41 : decode cX7_finds 41 = .ok (.goto (-26), 3) := by decide +kernel
theorem dX7_finds_44 : decode cX7_finds 44 = .ok (.sipush (-32768), 3) := by decide +kernel
theorem dX7_finds_47 : decode cX7_finds 47 = .ok (.istore_n 1, 1) := by decide +kernel
theorem dX7_finds_48 : decode cX7_finds 48 = .ok (.iload_n 1, 1) := by decide +kernel
theorem dX7_finds_49 : decode cX7_finds 49 = .ok (.sipush 32767, 3) := by decide +kernel
theorem dX7_finds_52 : decode cX7_finds 52 = .ok (.if_icmp .gt 75, 3) := by decide +kernel
theorem dX7_finds_55 : decode cX7_finds 55 = .ok (.aload_n 0, 1) := by decide +kernel
theorem dX7_finds_56 : decode cX7_finds 56 = .ok (.iload_n 1, 1) := by decide +kernel
theorem dX7_finds_57 : decode cX7_finds 57 = .ok (.invokevirtual 208, 3) := by decide +kernel
theorem dX7_finds_60 : decode cX7_finds 60 = .ok (.istore_n 2, 1) := by decide +kernel
theorem dX7_finds_61 : decode cX7_finds 61 = .ok (.aload_n 0, 1) := by decide +kernel
theorem dX7_finds_62 : decode cX7_finds 62 = .ok (.getfield 108, 3) := by decide +kernel
theorem dX7_finds_65 : decode cX7_finds 65 = .ok (.iload_n 2, 1) := by decide +kernel
theorem dX7_finds_66 : decode cX7_finds 66 = .ok (.iaload, 1) := by decide +kernel
theorem dX7_finds_67 : decode cX7_finds 67 = .ok (.ldc 9, 2) := by decide +kernel
theorem dX7_finds_69 : decode cX7_finds 69 = .ok (.if_icmp .ne 10, 3) := by decide +kernel
theorem dX7_finds_72 : decode cX7_finds 72 = .ok (.aload_n 0, 1) := by decide +kernel
theorem dX7_finds_73 : decode cX7_finds 73 = .ok (.getfield 108, 3) := by decide +kernel
theorem dX7_finds_76 : decode cX7_finds 76 = .ok (.iload_n 2, 1) := by decide +kernel
theorem dX7_finds_77 : decode cX7_finds 77 = .ok (.iload_n 1, 1) := by decide +kernel
theorem dX7_finds_78 : decode cX7_finds 78 = .ok (.iastore, 1) := by decide +kernel
theorem dX7_finds_79 : decode cX7_finds 79 = .ok (.aload_n 0, 1) := by decide +kernel
theorem dX7_finds_80 : decode cX7_finds 80 = .ok (.getfield 111, 3) := by decide +kernel
theorem dX7_finds_83 : decode cX7_finds 83 = .ok (.iload_n 2, 1) := by decide +kernel
theorem dX7_finds_84 : decode cX7_finds 84 = .ok (.iload_n 1, 1) := by decide +kernel
theorem dX7_finds_85 : decode cX7_finds 85 = .ok (.iastore, 1) := by decide +kernel
theorem dX7_finds_86 : decode cX7_finds 86 = .ok (.sipush 256, 3) := by decide +kernel
theorem dX7_finds_89 : decode cX7_finds 89 = .ok (.aload_n 0, 1) := by decide +kernel
theorem dX7_finds_90 : decode cX7_finds 90 = .ok (.iload_n 1, 1) := by decide +kernel
theorem dX7_finds_91 : decode cX7_finds 91 = .ok (.invokevirtual 211, 3) := by decide +kernel
theorem dX7_finds_94 : decode cX7_finds 94 = .ok (.iadd, 1) := by decide +kernel
theorem dX7_finds_95 : decode cX7_finds 95 = .ok (.istore_n 2, 1) := by decide +kernel
theorem dX7_finds_96 : decode cX7_finds 96 = .ok (.aload_n 0, 1) := by decide +kernel
theorem dX7_finds_97 : decode cX7_finds 97 = .ok (.getfield 108, 3) := by decide +kernel
theorem dX7_finds_100 : decode cX7_finds 100 = .ok (.iload_n 2, 1) := by decide +kernel
theorem dX7_finds_101 : decode cX7_finds 101 = .ok (.iaload, 1) := by decide +kernel
theorem dX7_finds_102 : decode cX7_finds 102 = .ok (.ldc 9, 2) := by decide +kernel
theorem dX7_finds_104 : decode cX7_finds 104 = .ok (.if_icmp .ne 10, 3) := by decide +kernel
theorem dX7_finds_107 : decode cX7_finds 107 = .ok (.aload_n 0, 1) := by decide +kernel
theorem dX7_finds_108 : decode cX7_finds 108 = .ok (.getfield 108, 3) := by decide +kernel
theorem dX7_finds_111 : decode cX7_finds 111 = .ok (.iload_n 2, 1) := by decide +kernel
theorem dX7_finds_112 : decode cX7_finds 112 = .ok (.iload_n 1, 1) := by decide +kernel
theorem dX7_finds_113 : decode cX7_finds 113 = .ok (.iastore, 1) := by decide +kernel
theorem dX7_finds_114 : decode cX7_finds 114 = .ok (.aload_n 0, 1) := by decide +kernel
theorem dX7_finds_115 : decode cX7_finds 115 = .ok (.getfield 111, 3) := by decide +kernel
theorem dX7_finds_118 : decode cX7_finds 118 = .ok (.iload_n 2, 1) := by decide +kernel
theorem dX7_finds_119 : decode cX7_finds 119 = .ok (.iload_n 1, 1) := by decide +kernel
theorem dX7_finds_120 : decode cX7_finds 120 = .ok (.iastore, 1) := by decide +kernel
theorem dX7_finds_121 : decode cX7_finds 121 = .ok (.iinc 1 1, 3) := by decide +kernel
theorem dX7_finds_124 : decode cX7_finds 124 = .ok (.goto (-76), 3) := by decide +kernel
theorem dX7_finds_127 : decode cX7_finds 127 = .ok (.return_, 1) := by decide +kernel
theorem dX7_law_0 : decode cX7_law 0 = .ok (.aload_n 0, 1) := by decide +kernel
theorem dX7_law_1 : decode cX7_law 1 = .ok (.iconst 0, 1) := by decide +kernel
theorem dX7_law_2 : decode cX7_law 2 = .ok (.putfield 114, 3) := by decide +kernel
theorem dX7_law_5 : decode cX7_law 5 = .ok (.iload_n 1, 1) := by decide +kernel
theorem dX7_law_6 : decode cX7_law 6 = .ok (.ifCond .lt 28, 3) := by decide +kernel
theorem dX7_law_9 : decode cX7_law 9 = .ok (.iload_n 1, 1) := by decide +kernel
theorem dX7_law_10 : decode cX7_law 10 = .ok (.iconst 1, 1) := by decide +kernel
theorem dX7_law_11 : decode cX7_law 11 = .ok (.if_icmp .gt 23, 3) := by decide +kernel
theorem dX7_law_14 : decode cX7_law 14 = .ok (.iload_n 2, 1) := by decide +kernel
theorem dX7_law_15 : decode cX7_law 15 = .ok (.ifCond .lt 19, 3) := by decide +kernel
theorem dX7_law_18 : decode cX7_law 18 = .ok (.iload_n 2, 1) := by decide +kernel
theorem dX7_law_19 : decode cX7_law 19 = .ok (.sipush 255, 3) := by decide +kernel
theorem dX7_law_22 : decode cX7_law 22 = .ok (.if_icmp .gt 12, 3) := by decide +kernel
theorem dX7_law_25 : decode cX7_law 25 = .ok (.iload_n 3, 1) := by decide +kernel
theorem dX7_law_26 : decode cX7_law 26 = .ok (.ifCond .lt 8, 3) := by decide +kernel
theorem dX7_law_29 : decode cX7_law 29 = .ok (.iload_n 3, 1) := by decide +kernel
theorem dX7_law_30 : decode cX7_law 30 = .ok (.iconst 2, 1) := by decide +kernel
theorem dX7_law_31 : decode cX7_law 31 = .ok (.if_icmp .le 6, 3) := by decide +kernel
theorem dX7_law_34 : decode cX7_law 34 = .ok (.ldc 9, 2) := by decide +kernel
theorem dX7_law_36 : decode cX7_law 36 = .ok (.ireturn, 1) := by decide +kernel
theorem dX7_law_37 : decode cX7_law 37 = .ok (.iload_n 3, 1) := by decide +kernel
theorem dX7_law_38 : decode cX7_law 38 = .ok (.iconst 2, 1) := by decide +kernel
theorem dX7_law_39 : decode cX7_law 39 = .ok (.if_icmp .ne 29, 3) := by decide +kernel
theorem dX7_law_42 : decode cX7_law 42 = .ok (.iload_n 1, 1) := by decide +kernel
theorem dX7_law_43 : decode cX7_law 43 = .ok (.ifCond .ne 15, 3) := by decide +kernel
theorem dX7_law_46 : decode cX7_law 46 = .ok (.aload_n 0, 1) := by decide +kernel
theorem dX7_law_47 : decode cX7_law 47 = .ok (.aload_n 0, 1) := by decide +kernel
theorem dX7_law_48 : decode cX7_law 48 = .ok (.iload_n 2, 1) := by decide +kernel
theorem dX7_law_49 : decode cX7_law 49 = .ok (.invokevirtual 217, 3) := by decide +kernel
theorem dX7_law_52 : decode cX7_law 52 = .ok (.invokevirtual 208, 3) := by decide +kernel
theorem dX7_law_55 : decode cX7_law 55 = .ok (.goto 12, 3) := by decide +kernel
theorem dX7_law_58 : decode cX7_law 58 = .ok (.aload_n 0, 1) := by decide +kernel
theorem dX7_law_59 : decode cX7_law 59 = .ok (.aload_n 0, 1) := by decide +kernel
theorem dX7_law_60 : decode cX7_law 60 = .ok (.iload_n 2, 1) := by decide +kernel
theorem dX7_law_61 : decode cX7_law 61 = .ok (.invokevirtual 220, 3) := by decide +kernel
theorem dX7_law_64 : decode cX7_law 64 = .ok (.invokevirtual 211, 3) := by decide +kernel
theorem dX7_law_67 : decode cX7_law 67 = .ok (.ireturn, 1) := by decide +kernel
theorem dX7_law_68 : decode cX7_law 68 = .ok (.aload_n 0, 1) := by decide +kernel
theorem dX7_law_69 : decode cX7_law 69 = .ok (.invokevirtual 277, 3) := by decide +kernel
theorem dX7_law_72 : decode cX7_law 72 = .ok (.iload_n 3, 1) := by decide +kernel
theorem dX7_law_73 : decode cX7_law 73 = .ok (.ifCond .ne 18, 3) := by decide +kernel
theorem dX7_law_76 : decode cX7_law 76 = .ok (.aload_n 0, 1) := by decide +kernel
theorem dX7_law_77 : decode cX7_law 77 = .ok (.getfield 108, 3) := by decide +kernel
theorem dX7_law_80 : decode cX7_law 80 = .ok (.sipush 256, 3) := by decide +kernel
theorem dX7_law_83 : decode cX7_law 83 = .ok (.iload_n 1, 1) := by decide +kernel
theorem dX7_law_84 : decode cX7_law 84 = .ok (.imul, 1) := by decide +kernel
theorem dX7_law_85 : decode cX7_law 85 = .ok (.iload_n 2, 1) := by decide +kernel
theorem dX7_law_86 : decode cX7_law 86 = .ok (.iadd, 1) := by decide +kernel
theorem dX7_law_87 : decode cX7_law 87 = .ok (.iaload, 1) := by decide +kernel
theorem dX7_law_88 : decode cX7_law 88 = .ok (.goto 15, 3) := by decide +kernel
theorem dX7_law_91 : decode cX7_law 91 = .ok (.aload_n 0, 1) := by decide +kernel
theorem dX7_law_92 : decode cX7_law 92 = .ok (.getfield 111, 3) := by decide +kernel
theorem dX7_law_95 : decode cX7_law 95 = .ok (.sipush 256, 3) := by decide +kernel
theorem dX7_law_98 : decode cX7_law 98 = .ok (.iload_n 1, 1) := by decide +kernel
theorem dX7_law_99 : decode cX7_law 99 = .ok (.imul, 1) := by decide +kernel
theorem dX7_law_100 : decode cX7_law 100 = .ok (.iload_n 2, 1) := by decide +kernel
theorem dX7_law_101 : decode cX7_law 101 = .ok (.iadd, 1) := by decide +kernel
theorem dX7_law_102 : decode cX7_law 102 = .ok (.iaload, 1) := by decide +kernel
theorem dX7_law_103 : decode cX7_law 103 = .ok (.ireturn, 1) := by decide +kernel
theorem dL_law_0 : decode cL_law 0 = .ok (.new 7, 3) := by decide +kernel
theorem dL_law_3 : decode cL_law 3 = .ok (.dup, 1) := by decide +kernel
theorem dL_law_4 : decode cL_law 4 = .ok (.invokespecial 9, 3) := by decide +kernel
theorem dL_law_7 : decode cL_law 7 = .ok (.astore_n 1, 1) := by decide +kernel
theorem dL_law_8 : decode cL_law 8 = .ok (.new 10, 3) := by decide +kernel
theorem dL_law_11 : decode cL_law 11 = .ok (.dup, 1) := by decide +kernel
theorem dL_law_12 : decode cL_law 12 = .ok (.invokespecial 12, 3) := by decide +kernel
theorem dL_law_15 : decode cL_law 15 = .ok (.astore_n 2, 1) := by decide +kernel
theorem dL_law_16 : decode cL_law 16 = .ok (.iconst 0, 1) := by decide +kernel
theorem dL_law_17 : decode cL_law 17 = .ok (.istore_n 3, 1) := by decide +kernel
theorem dL_law_18 : decode cL_law 18 = .ok (.iload_n 3, 1) := by decide +kernel
theorem dL_law_19 : decode cL_law 19 = .ok (.aload_n 0, 1) := by decide +kernel
theorem dL_law_20 : decode cL_law 20 = .ok (.arraylength, 1) := by decide +kernel
theorem dL_law_21 : decode cL_law 21 = .ok (.bipush 6, 2) := by decide +kernel
theorem dL_law_23 : decode cL_law 23 = .ok (.isub, 1) := by decide +kernel
theorem dL_law_24 : decode cL_law 24 = .ok (.if_icmp .gt 637, 3) := by decide +kernel
theorem dL_law_27 : decode cL_law 27 = .ok (.aload_n 0, 1) := by decide +kernel
theorem dL_law_28 : decode cL_law 28 = .ok (.iload_n 3, 1) := by decide +kernel
theorem dL_law_29 : decode cL_law 29 = .ok (.iaload, 1) := by decide +kernel
theorem dL_law_30 : decode cL_law 30 = .ok (.bipush 15, 2) := by decide +kernel
theorem dL_law_32 : decode cL_law 32 = .ok (.iand, 1) := by decide +kernel
theorem dL_law_33 : decode cL_law 33 = .ok (.tableswitch 622 0 14 #[75, 108, 131, 164, 207, 240, 263, 306, 369, 392, 405, 428, 477, 536, 579], 75) := by decide +kernel
theorem dL_law_108 : decode cL_law 108 = .ok (.aload_n 1, 1) := by decide +kernel
theorem dL_law_109 : decode cL_law 109 = .ok (.aload_n 0, 1) := by decide +kernel
theorem dL_law_110 : decode cL_law 110 = .ok (.iload_n 3, 1) := by decide +kernel
theorem dL_law_111 : decode cL_law 111 = .ok (.iconst 1, 1) := by decide +kernel
theorem dL_law_112 : decode cL_law 112 = .ok (.iadd, 1) := by decide +kernel
theorem dL_law_113 : decode cL_law 113 = .ok (.iaload, 1) := by decide +kernel
theorem dL_law_114 : decode cL_law 114 = .ok (.aload_n 0, 1) := by decide +kernel
theorem dL_law_115 : decode cL_law 115 = .ok (.iload_n 3, 1) := by decide +kernel
theorem dL_law_116 : decode cL_law 116 = .ok (.iconst 2, 1) := by decide +kernel
theorem dL_law_117 : decode cL_law 117 = .ok (.iadd, 1) := by decide +kernel
theorem dL_law_118 : decode cL_law 118 = .ok (.iaload, 1) := by decide +kernel
theorem dL_law_119 : decode cL_law 119 = .ok (.invokevirtual 13, 3) := by decide +kernel
theorem dL_law_122 : decode cL_law 122 = .ok (.aload_n 2, 1) := by decide +kernel
theorem dL_law_123 : decode cL_law 123 = .ok (.aload_n 0, 1) := by decide +kernel
theorem dL_law_124 : decode cL_law 124 = .ok (.iload_n 3, 1) := by decide +kernel
theorem dL_law_125 : decode cL_law 125 = .ok (.iconst 1, 1) := by decide +kernel
theorem dL_law_126 : decode cL_law 126 = .ok (.iadd, 1) := by decide +kernel
theorem dL_law_127 : decode cL_law 127 = .ok (.iaload, 1) := by decide +kernel
theorem dL_law_128 : decode cL_law 128 = .ok (.aload_n 0, 1) := by decide +kernel
theorem dL_law_129 : decode cL_law 129 = .ok (.iload_n 3, 1) := by decide +kernel
theorem dL_law_130 : decode cL_law 130 = .ok (.iconst 2, 1) := by decide +kernel
theorem dL_law_131 : decode cL_law 131 = .ok (.iadd, 1) := by decide +kernel
theorem dL_law_132 : decode cL_law 132 = .ok (.iaload, 1) := by decide +kernel
theorem dL_law_133 : decode cL_law 133 = .ok (.invokevirtual 17, 3) := by decide +kernel
theorem dL_law_136 : decode cL_law 136 = .ok (.if_icmp .eq 519, 3) := by decide +kernel
theorem dL_law_139 : decode cL_law 139 = .ok (.iconst 0, 1) := by decide +kernel
theorem dL_law_140 : decode cL_law 140 = .ok (.ireturn, 1) := by decide +kernel
theorem dL_law_141 : decode cL_law 141 = .ok (.aload_n 1, 1) := by decide +kernel
theorem dL_law_142 : decode cL_law 142 = .ok (.aload_n 0, 1) := by decide +kernel
theorem dL_law_143 : decode cL_law 143 = .ok (.iload_n 3, 1) := by decide +kernel
theorem dL_law_144 : decode cL_law 144 = .ok (.iconst 1, 1) := by decide +kernel
theorem dL_law_145 : decode cL_law 145 = .ok (.iadd, 1) := by decide +kernel
theorem dL_law_146 : decode cL_law 146 = .ok (.iaload, 1) := by decide +kernel
theorem dL_law_147 : decode cL_law 147 = .ok (.invokevirtual 18, 3) := by decide +kernel
theorem dL_law_150 : decode cL_law 150 = .ok (.aload_n 2, 1) := by decide +kernel
theorem dL_law_151 : decode cL_law 151 = .ok (.aload_n 0, 1) := by decide +kernel
theorem dL_law_152 : decode cL_law 152 = .ok (.iload_n 3, 1) := by decide +kernel
theorem dL_law_153 : decode cL_law 153 = .ok (.iconst 1, 1) := by decide +kernel
theorem dL_law_154 : decode cL_law 154 = .ok (.iadd, 1) := by decide +kernel
theorem dL_law_155 : decode cL_law 155 = .ok (.iaload, 1) := by decide +kernel
theorem dL_law_156 : decode cL_law 156 = .ok (.invokevirtual 22, 3) := by decide +kernel
theorem dL_law_159 : decode cL_law 159 = .ok (.if_icmp .eq 496, 3) := by decide +kernel
theorem dL_law_162 : decode cL_law 162 = .ok (.iconst 0, 1) := by decide +kernel
theorem dL_law_163 : decode cL_law 163 = .ok (.ireturn, 1) := by decide +kernel
theorem dL_law_164 : decode cL_law 164 = .ok (.aload_n 1, 1) := by decide +kernel
theorem dL_law_165 : decode cL_law 165 = .ok (.aload_n 0, 1) := by decide +kernel
theorem dL_law_166 : decode cL_law 166 = .ok (.iload_n 3, 1) := by decide +kernel
theorem dL_law_167 : decode cL_law 167 = .ok (.iconst 1, 1) := by decide +kernel
theorem dL_law_168 : decode cL_law 168 = .ok (.iadd, 1) := by decide +kernel
theorem dL_law_169 : decode cL_law 169 = .ok (.iaload, 1) := by decide +kernel
theorem dL_law_170 : decode cL_law 170 = .ok (.aload_n 0, 1) := by decide +kernel
theorem dL_law_171 : decode cL_law 171 = .ok (.iload_n 3, 1) := by decide +kernel
theorem dL_law_172 : decode cL_law 172 = .ok (.iconst 2, 1) := by decide +kernel
theorem dL_law_173 : decode cL_law 173 = .ok (.iadd, 1) := by decide +kernel
theorem dL_law_174 : decode cL_law 174 = .ok (.iaload, 1) := by decide +kernel
theorem dL_law_175 : decode cL_law 175 = .ok (.invokevirtual 23, 3) := by decide +kernel
theorem dL_law_178 : decode cL_law 178 = .ok (.aload_n 2, 1) := by decide +kernel
theorem dL_law_179 : decode cL_law 179 = .ok (.aload_n 0, 1) := by decide +kernel
theorem dL_law_180 : decode cL_law 180 = .ok (.iload_n 3, 1) := by decide +kernel
theorem dL_law_181 : decode cL_law 181 = .ok (.iconst 1, 1) := by decide +kernel
theorem dL_law_182 : decode cL_law 182 = .ok (.iadd, 1) := by decide +kernel
theorem dL_law_183 : decode cL_law 183 = .ok (.iaload, 1) := by decide +kernel
theorem dL_law_184 : decode cL_law 184 = .ok (.aload_n 0, 1) := by decide +kernel
theorem dL_law_185 : decode cL_law 185 = .ok (.iload_n 3, 1) := by decide +kernel
theorem dL_law_186 : decode cL_law 186 = .ok (.iconst 2, 1) := by decide +kernel
theorem dL_law_187 : decode cL_law 187 = .ok (.iadd, 1) := by decide +kernel
theorem dL_law_188 : decode cL_law 188 = .ok (.iaload, 1) := by decide +kernel
theorem dL_law_189 : decode cL_law 189 = .ok (.invokevirtual 27, 3) := by decide +kernel
theorem dL_law_192 : decode cL_law 192 = .ok (.if_icmp .eq 463, 3) := by decide +kernel
theorem dL_law_195 : decode cL_law 195 = .ok (.iconst 0, 1) := by decide +kernel
theorem dL_law_196 : decode cL_law 196 = .ok (.ireturn, 1) := by decide +kernel
theorem dL_law_197 : decode cL_law 197 = .ok (.aload_n 1, 1) := by decide +kernel
theorem dL_law_198 : decode cL_law 198 = .ok (.aload_n 0, 1) := by decide +kernel
theorem dL_law_199 : decode cL_law 199 = .ok (.iload_n 3, 1) := by decide +kernel
theorem dL_law_200 : decode cL_law 200 = .ok (.iconst 1, 1) := by decide +kernel
theorem dL_law_201 : decode cL_law 201 = .ok (.iadd, 1) := by decide +kernel
theorem dL_law_202 : decode cL_law 202 = .ok (.iaload, 1) := by decide +kernel
theorem dL_law_203 : decode cL_law 203 = .ok (.aload_n 0, 1) := by decide +kernel
theorem dL_law_204 : decode cL_law 204 = .ok (.iload_n 3, 1) := by decide +kernel
theorem dL_law_205 : decode cL_law 205 = .ok (.iconst 2, 1) := by decide +kernel
theorem dL_law_206 : decode cL_law 206 = .ok (.iadd, 1) := by decide +kernel
theorem dL_law_207 : decode cL_law 207 = .ok (.iaload, 1) := by decide +kernel
theorem dL_law_208 : decode cL_law 208 = .ok (.aload_n 0, 1) := by decide +kernel
theorem dL_law_209 : decode cL_law 209 = .ok (.iload_n 3, 1) := by decide +kernel
theorem dL_law_210 : decode cL_law 210 = .ok (.iconst 3, 1) := by decide +kernel
theorem dL_law_211 : decode cL_law 211 = .ok (.iadd, 1) := by decide +kernel
theorem dL_law_212 : decode cL_law 212 = .ok (.iaload, 1) := by decide +kernel
theorem dL_law_213 : decode cL_law 213 = .ok (.invokevirtual 28, 3) := by decide +kernel
theorem dL_law_216 : decode cL_law 216 = .ok (.aload_n 2, 1) := by decide +kernel
theorem dL_law_217 : decode cL_law 217 = .ok (.aload_n 0, 1) := by decide +kernel
theorem dL_law_218 : decode cL_law 218 = .ok (.iload_n 3, 1) := by decide +kernel
theorem dL_law_219 : decode cL_law 219 = .ok (.iconst 1, 1) := by decide +kernel
theorem dL_law_220 : decode cL_law 220 = .ok (.iadd, 1) := by decide +kernel
theorem dL_law_221 : decode cL_law 221 = .ok (.iaload, 1) := by decide +kernel
theorem dL_law_222 : decode cL_law 222 = .ok (.aload_n 0, 1) := by decide +kernel
theorem dL_law_223 : decode cL_law 223 = .ok (.iload_n 3, 1) := by decide +kernel
theorem dL_law_224 : decode cL_law 224 = .ok (.iconst 2, 1) := by decide +kernel
theorem dL_law_225 : decode cL_law 225 = .ok (.iadd, 1) := by decide +kernel
theorem dL_law_226 : decode cL_law 226 = .ok (.iaload, 1) := by decide +kernel
theorem dL_law_227 : decode cL_law 227 = .ok (.aload_n 0, 1) := by decide +kernel
theorem dL_law_228 : decode cL_law 228 = .ok (.iload_n 3, 1) := by decide +kernel
theorem dL_law_229 : decode cL_law 229 = .ok (.iconst 3, 1) := by decide +kernel
theorem dL_law_230 : decode cL_law 230 = .ok (.iadd, 1) := by decide +kernel
theorem dL_law_231 : decode cL_law 231 = .ok (.iaload, 1) := by decide +kernel
theorem dL_law_232 : decode cL_law 232 = .ok (.invokevirtual 32, 3) := by decide +kernel
theorem dL_law_235 : decode cL_law 235 = .ok (.if_icmp .eq 420, 3) := by decide +kernel
theorem dL_law_238 : decode cL_law 238 = .ok (.iconst 0, 1) := by decide +kernel
theorem dL_law_239 : decode cL_law 239 = .ok (.ireturn, 1) := by decide +kernel
theorem dL_law_240 : decode cL_law 240 = .ok (.aload_n 1, 1) := by decide +kernel
theorem dL_law_241 : decode cL_law 241 = .ok (.aload_n 0, 1) := by decide +kernel
theorem dL_law_242 : decode cL_law 242 = .ok (.iload_n 3, 1) := by decide +kernel
theorem dL_law_243 : decode cL_law 243 = .ok (.iconst 1, 1) := by decide +kernel
theorem dL_law_244 : decode cL_law 244 = .ok (.iadd, 1) := by decide +kernel
theorem dL_law_245 : decode cL_law 245 = .ok (.iaload, 1) := by decide +kernel
theorem dL_law_246 : decode cL_law 246 = .ok (.aload_n 0, 1) := by decide +kernel
theorem dL_law_247 : decode cL_law 247 = .ok (.iload_n 3, 1) := by decide +kernel
theorem dL_law_248 : decode cL_law 248 = .ok (.iconst 2, 1) := by decide +kernel
theorem dL_law_249 : decode cL_law 249 = .ok (.iadd, 1) := by decide +kernel
theorem dL_law_250 : decode cL_law 250 = .ok (.iaload, 1) := by decide +kernel
theorem dL_law_251 : decode cL_law 251 = .ok (.invokevirtual 33, 3) := by decide +kernel
theorem dL_law_254 : decode cL_law 254 = .ok (.aload_n 2, 1) := by decide +kernel
theorem dL_law_255 : decode cL_law 255 = .ok (.aload_n 0, 1) := by decide +kernel
theorem dL_law_256 : decode cL_law 256 = .ok (.iload_n 3, 1) := by decide +kernel
theorem dL_law_257 : decode cL_law 257 = .ok (.iconst 1, 1) := by decide +kernel
theorem dL_law_258 : decode cL_law 258 = .ok (.iadd, 1) := by decide +kernel
theorem dL_law_259 : decode cL_law 259 = .ok (.iaload, 1) := by decide +kernel
theorem dL_law_260 : decode cL_law 260 = .ok (.aload_n 0, 1) := by decide +kernel
theorem dL_law_261 : decode cL_law 261 = .ok (.iload_n 3, 1) := by decide +kernel
theorem dL_law_262 : decode cL_law 262 = .ok (.iconst 2, 1) := by decide +kernel
theorem dL_law_263 : decode cL_law 263 = .ok (.iadd, 1) := by decide +kernel
theorem dL_law_264 : decode cL_law 264 = .ok (.iaload, 1) := by decide +kernel
theorem dL_law_265 : decode cL_law 265 = .ok (.invokevirtual 36, 3) := by decide +kernel
theorem dL_law_268 : decode cL_law 268 = .ok (.if_icmp .eq 387, 3) := by decide +kernel
theorem dL_law_271 : decode cL_law 271 = .ok (.iconst 0, 1) := by decide +kernel
theorem dL_law_272 : decode cL_law 272 = .ok (.ireturn, 1) := by decide +kernel
theorem dL_law_273 : decode cL_law 273 = .ok (.aload_n 1, 1) := by decide +kernel
theorem dL_law_274 : decode cL_law 274 = .ok (.aload_n 0, 1) := by decide +kernel
theorem dL_law_275 : decode cL_law 275 = .ok (.iload_n 3, 1) := by decide +kernel
theorem dL_law_276 : decode cL_law 276 = .ok (.iconst 1, 1) := by decide +kernel
theorem dL_law_277 : decode cL_law 277 = .ok (.iadd, 1) := by decide +kernel
theorem dL_law_278 : decode cL_law 278 = .ok (.iaload, 1) := by decide +kernel
theorem dL_law_279 : decode cL_law 279 = .ok (.invokevirtual 37, 3) := by decide +kernel
theorem dL_law_282 : decode cL_law 282 = .ok (.aload_n 2, 1) := by decide +kernel
theorem dL_law_283 : decode cL_law 283 = .ok (.aload_n 0, 1) := by decide +kernel
theorem dL_law_284 : decode cL_law 284 = .ok (.iload_n 3, 1) := by decide +kernel
theorem dL_law_285 : decode cL_law 285 = .ok (.iconst 1, 1) := by decide +kernel
theorem dL_law_286 : decode cL_law 286 = .ok (.iadd, 1) := by decide +kernel
theorem dL_law_287 : decode cL_law 287 = .ok (.iaload, 1) := by decide +kernel
theorem dL_law_288 : decode cL_law 288 = .ok (.invokevirtual 40, 3) := by decide +kernel
theorem dL_law_291 : decode cL_law 291 = .ok (.if_icmp .eq 364, 3) := by decide +kernel
theorem dL_law_294 : decode cL_law 294 = .ok (.iconst 0, 1) := by decide +kernel
theorem dL_law_295 : decode cL_law 295 = .ok (.ireturn, 1) := by decide +kernel
theorem dL_law_296 : decode cL_law 296 = .ok (.aload_n 1, 1) := by decide +kernel
theorem dL_law_297 : decode cL_law 297 = .ok (.aload_n 0, 1) := by decide +kernel
theorem dL_law_298 : decode cL_law 298 = .ok (.iload_n 3, 1) := by decide +kernel
theorem dL_law_299 : decode cL_law 299 = .ok (.iconst 1, 1) := by decide +kernel
theorem dL_law_300 : decode cL_law 300 = .ok (.iadd, 1) := by decide +kernel
theorem dL_law_301 : decode cL_law 301 = .ok (.iaload, 1) := by decide +kernel
theorem dL_law_302 : decode cL_law 302 = .ok (.aload_n 0, 1) := by decide +kernel
theorem dL_law_303 : decode cL_law 303 = .ok (.iload_n 3, 1) := by decide +kernel
theorem dL_law_304 : decode cL_law 304 = .ok (.iconst 2, 1) := by decide +kernel
theorem dL_law_305 : decode cL_law 305 = .ok (.iadd, 1) := by decide +kernel
theorem dL_law_306 : decode cL_law 306 = .ok (.iaload, 1) := by decide +kernel
theorem dL_law_307 : decode cL_law 307 = .ok (.aload_n 0, 1) := by decide +kernel
theorem dL_law_308 : decode cL_law 308 = .ok (.iload_n 3, 1) := by decide +kernel
theorem dL_law_309 : decode cL_law 309 = .ok (.iconst 3, 1) := by decide +kernel
theorem dL_law_310 : decode cL_law 310 = .ok (.iadd, 1) := by decide +kernel
theorem dL_law_311 : decode cL_law 311 = .ok (.iaload, 1) := by decide +kernel
theorem dL_law_312 : decode cL_law 312 = .ok (.invokevirtual 41, 3) := by decide +kernel
theorem dL_law_315 : decode cL_law 315 = .ok (.aload_n 2, 1) := by decide +kernel
theorem dL_law_316 : decode cL_law 316 = .ok (.aload_n 0, 1) := by decide +kernel
theorem dL_law_317 : decode cL_law 317 = .ok (.iload_n 3, 1) := by decide +kernel
theorem dL_law_318 : decode cL_law 318 = .ok (.iconst 1, 1) := by decide +kernel
theorem dL_law_319 : decode cL_law 319 = .ok (.iadd, 1) := by decide +kernel
theorem dL_law_320 : decode cL_law 320 = .ok (.iaload, 1) := by decide +kernel
theorem dL_law_321 : decode cL_law 321 = .ok (.aload_n 0, 1) := by decide +kernel
theorem dL_law_322 : decode cL_law 322 = .ok (.iload_n 3, 1) := by decide +kernel
theorem dL_law_323 : decode cL_law 323 = .ok (.iconst 2, 1) := by decide +kernel
theorem dL_law_324 : decode cL_law 324 = .ok (.iadd, 1) := by decide +kernel
theorem dL_law_325 : decode cL_law 325 = .ok (.iaload, 1) := by decide +kernel
theorem dL_law_326 : decode cL_law 326 = .ok (.aload_n 0, 1) := by decide +kernel
theorem dL_law_327 : decode cL_law 327 = .ok (.iload_n 3, 1) := by decide +kernel
theorem dL_law_328 : decode cL_law 328 = .ok (.iconst 3, 1) := by decide +kernel
theorem dL_law_329 : decode cL_law 329 = .ok (.iadd, 1) := by decide +kernel
theorem dL_law_330 : decode cL_law 330 = .ok (.iaload, 1) := by decide +kernel
theorem dL_law_331 : decode cL_law 331 = .ok (.invokevirtual 44, 3) := by decide +kernel
theorem dL_law_334 : decode cL_law 334 = .ok (.if_icmp .eq 321, 3) := by decide +kernel
theorem dL_law_337 : decode cL_law 337 = .ok (.iconst 0, 1) := by decide +kernel
theorem dL_law_338 : decode cL_law 338 = .ok (.ireturn, 1) := by decide +kernel
theorem dL_law_339 : decode cL_law 339 = .ok (.aload_n 1, 1) := by decide +kernel
theorem dL_law_340 : decode cL_law 340 = .ok (.aload_n 0, 1) := by decide +kernel
theorem dL_law_341 : decode cL_law 341 = .ok (.iload_n 3, 1) := by decide +kernel
theorem dL_law_342 : decode cL_law 342 = .ok (.iconst 1, 1) := by decide +kernel
theorem dL_law_343 : decode cL_law 343 = .ok (.iadd, 1) := by decide +kernel
theorem dL_law_344 : decode cL_law 344 = .ok (.iaload, 1) := by decide +kernel
theorem dL_law_345 : decode cL_law 345 = .ok (.aload_n 0, 1) := by decide +kernel
theorem dL_law_346 : decode cL_law 346 = .ok (.iload_n 3, 1) := by decide +kernel
theorem dL_law_347 : decode cL_law 347 = .ok (.iconst 2, 1) := by decide +kernel
theorem dL_law_348 : decode cL_law 348 = .ok (.iadd, 1) := by decide +kernel
theorem dL_law_349 : decode cL_law 349 = .ok (.iaload, 1) := by decide +kernel
theorem dL_law_350 : decode cL_law 350 = .ok (.aload_n 0, 1) := by decide +kernel
theorem dL_law_351 : decode cL_law 351 = .ok (.iload_n 3, 1) := by decide +kernel
theorem dL_law_352 : decode cL_law 352 = .ok (.iconst 3, 1) := by decide +kernel
theorem dL_law_353 : decode cL_law 353 = .ok (.iadd, 1) := by decide +kernel
theorem dL_law_354 : decode cL_law 354 = .ok (.iaload, 1) := by decide +kernel
theorem dL_law_355 : decode cL_law 355 = .ok (.aload_n 0, 1) := by decide +kernel
theorem dL_law_356 : decode cL_law 356 = .ok (.iload_n 3, 1) := by decide +kernel
theorem dL_law_357 : decode cL_law 357 = .ok (.iconst 4, 1) := by decide +kernel
theorem dL_law_358 : decode cL_law 358 = .ok (.iadd, 1) := by decide +kernel
theorem dL_law_359 : decode cL_law 359 = .ok (.iaload, 1) := by decide +kernel
theorem dL_law_360 : decode cL_law 360 = .ok (.aload_n 0, 1) := by decide +kernel
theorem dL_law_361 : decode cL_law 361 = .ok (.iload_n 3, 1) := by decide +kernel
theorem dL_law_362 : decode cL_law 362 = .ok (.iconst 5, 1) := by decide +kernel
theorem dL_law_363 : decode cL_law 363 = .ok (.iadd, 1) := by decide +kernel
theorem dL_law_364 : decode cL_law 364 = .ok (.iaload, 1) := by decide +kernel
theorem dL_law_365 : decode cL_law 365 = .ok (.invokevirtual 45, 3) := by decide +kernel
theorem dL_law_368 : decode cL_law 368 = .ok (.aload_n 2, 1) := by decide +kernel
theorem dL_law_369 : decode cL_law 369 = .ok (.aload_n 0, 1) := by decide +kernel
theorem dL_law_370 : decode cL_law 370 = .ok (.iload_n 3, 1) := by decide +kernel
theorem dL_law_371 : decode cL_law 371 = .ok (.iconst 1, 1) := by decide +kernel
theorem dL_law_372 : decode cL_law 372 = .ok (.iadd, 1) := by decide +kernel
theorem dL_law_373 : decode cL_law 373 = .ok (.iaload, 1) := by decide +kernel
theorem dL_law_374 : decode cL_law 374 = .ok (.aload_n 0, 1) := by decide +kernel
theorem dL_law_375 : decode cL_law 375 = .ok (.iload_n 3, 1) := by decide +kernel
theorem dL_law_376 : decode cL_law 376 = .ok (.iconst 2, 1) := by decide +kernel
theorem dL_law_377 : decode cL_law 377 = .ok (.iadd, 1) := by decide +kernel
theorem dL_law_378 : decode cL_law 378 = .ok (.iaload, 1) := by decide +kernel
theorem dL_law_379 : decode cL_law 379 = .ok (.aload_n 0, 1) := by decide +kernel
theorem dL_law_380 : decode cL_law 380 = .ok (.iload_n 3, 1) := by decide +kernel
theorem dL_law_381 : decode cL_law 381 = .ok (.iconst 3, 1) := by decide +kernel
