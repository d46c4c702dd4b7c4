theorem dX12_connect_58 : decode cX12_connect 58 = .ok (.iadd, 1) := by decide +kernel
theorem dX12_connect_59 : decode cX12_connect 59 = .ok (.baload, 1) := by decide +kernel
theorem dX12_connect_60 : decode cX12_connect 60 = .ok (.bipush 84, 2) := by decide +kernel
theorem dX12_connect_62 : decode cX12_connect 62 = .ok (.if_icmp .ne 19, 3) := by decide +kernel
theorem dX12_connect_65 : decode cX12_connect 65 = .ok (.aload_n 0, 1) := by decide +kernel
theorem dX12_connect_66 : decode cX12_connect 66 = .ok (.getfield 31, 3) := by decide +kernel
theorem dX12_connect_69 : decode cX12_connect 69 = .ok (.aload_n 0, 1) := by decide +kernel
theorem dX12_connect_70 : decode cX12_connect 70 = .ok (.getfield 353, 3) := by decide +kernel
theorem dX12_connect_73 : decode cX12_connect 73 = .ok (.iconst 3, 1) := by decide +kernel
theorem dX12_connect_74 : decode cX12_connect 74 = .ok (.iadd, 1) := by decide +kernel
theorem dX12_connect_75 : decode cX12_connect 75 = .ok (.baload, 1) := by decide +kernel
theorem dX12_connect_76 : decode cX12_connect 76 = .ok (.bipush 84, 2) := by decide +kernel
theorem dX12_connect_78 : decode cX12_connect 78 = .ok (.if_icmp .eq 10, 3) := by decide +kernel
theorem dX12_connect_81 : decode cX12_connect 81 = .ok (.aload_n 0, 1) := by decide +kernel
theorem dX12_connect_82 : decode cX12_connect 82 = .ok (.sipush 132, 3) := by decide +kernel
theorem dX12_connect_85 : decode cX12_connect 85 = .ok (.invokevirtual 343, 3) := by decide +kernel
theorem dX12_connect_88 : decode cX12_connect 88 = .ok (.aload_n 0, 1) := by decide +kernel
theorem dX12_connect_89 : decode cX12_connect 89 = .ok (.invokevirtual 346, 3) := by decide +kernel
theorem dX12_connect_92 : decode cX12_connect 92 = .ok (.istore_n 1, 1) := by decide +kernel
theorem dX12_connect_93 : decode cX12_connect 93 = .ok (.aload_n 0, 1) := by decide +kernel
theorem dX12_connect_94 : decode cX12_connect 94 = .ok (.getfield 283, 3) := by decide +kernel
theorem dX12_connect_97 : decode cX12_connect 97 = .ok (.ifCond .ne 15, 3) := by decide +kernel
theorem dX12_connect_100 : decode cX12_connect 100 = .ok (.iload_n 1, 1) := by decide +kernel
theorem dX12_connect_101 : decode cX12_connect 101 = .ok (.iconst 5, 1) := by decide +kernel
theorem dX12_connect_102 : decode cX12_connect 102 = .ok (.if_icmp .eq 10, 3) := by decide +kernel
theorem dX12_connect_105 : decode cX12_connect 105 = .ok (.aload_n 0, 1) := by decide +kernel
theorem dX12_connect_106 : decode cX12_connect 106 = .ok (.sipush 132, 3) := by decide +kernel
theorem dX12_connect_109 : decode cX12_connect 109 = .ok (.invokevirtual 343, 3) := by decide +kernel
theorem dX12_connect_112 : decode cX12_connect 112 = .ok (.aload_n 0, 1) := by decide +kernel
theorem dX12_connect_113 : decode cX12_connect 113 = .ok (.invokevirtual 346, 3) := by decide +kernel
theorem dX12_connect_116 : decode cX12_connect 116 = .ok (.istore_n 2, 1) := by decide +kernel
theorem dX12_connect_117 : decode cX12_connect 117 = .ok (.iload_n 2, 1) := by decide +kernel
theorem dX12_connect_118 : decode cX12_connect 118 = .ok (.iconst 4, 1) := by decide +kernel
theorem dX12_connect_119 : decode cX12_connect 119 = .ok (.iand, 1) := by decide +kernel
theorem dX12_connect_120 : decode cX12_connect 120 = .ok (.ifCond .eq 7, 3) := by decide +kernel
theorem dX12_connect_123 : decode cX12_connect 123 = .ok (.iconst 1, 1) := by decide +kernel
theorem dX12_connect_124 : decode cX12_connect 124 = .ok (.goto 4, 3) := by decide +kernel
theorem dX12_connect_127 : decode cX12_connect 127 = .ok (.iconst 0, 1) := by decide +kernel
theorem dX12_connect_128 : decode cX12_connect 128 = .ok (.istore_n 3, 1) := by decide +kernel
theorem dX12_connect_129 : decode cX12_connect 129 = .ok (.iload_n 2, 1) := by decide +kernel
theorem dX12_connect_130 : decode cX12_connect 130 = .ok (.iconst 3, 1) := by decide +kernel
theorem dX12_connect_131 : decode cX12_connect 131 = .ok (.ishr, 1) := by decide +kernel
theorem dX12_connect_132 : decode cX12_connect 132 = .ok (.iconst 3, 1) := by decide +kernel
theorem dX12_connect_133 : decode cX12_connect 133 = .ok (.iand, 1) := by decide +kernel
theorem dX12_connect_134 : decode cX12_connect 134 = .ok (.istore 4, 2) := by decide +kernel
theorem dX12_connect_136 : decode cX12_connect 136 = .ok (.aload_n 0, 1) := by decide +kernel
theorem dX12_connect_137 : decode cX12_connect 137 = .ok (.getfield 283, 3) := by decide +kernel
theorem dX12_connect_140 : decode cX12_connect 140 = .ok (.ifCond .ne 38, 3) := by decide +kernel
theorem dX12_connect_143 : decode cX12_connect 143 = .ok (.iload_n 2, 1) := by decide +kernel
theorem dX12_connect_144 : decode cX12_connect 144 = .ok (.iconst 1, 1) := by decide +kernel
theorem dX12_connect_145 : decode cX12_connect 145 = .ok (.iand, 1) := by decide +kernel
theorem dX12_connect_146 : decode cX12_connect 146 = .ok (.ifCond .ne 25, 3) := by decide +kernel
theorem dX12_connect_149 : decode cX12_connect 149 = .ok (.iload 4, 2) := by decide +kernel
theorem dX12_connect_151 : decode cX12_connect 151 = .ok (.iconst 3, 1) := by decide +kernel
theorem dX12_connect_152 : decode cX12_connect 152 = .ok (.if_icmp .eq 19, 3) := by decide +kernel
theorem dX12_connect_155 : decode cX12_connect 155 = .ok (.iload_n 3, 1) := by decide +kernel
theorem dX12_connect_156 : decode cX12_connect 156 = .ok (.ifCond .ne 22, 3) := by decide +kernel
theorem dX12_connect_159 : decode cX12_connect 159 = .ok (.iload 4, 2) := by decide +kernel
theorem dX12_connect_161 : decode cX12_connect 161 = .ok (.ifCond .ne 10, 3) := by decide +kernel
theorem dX12_connect_164 : decode cX12_connect 164 = .ok (.iload_n 2, 1) := by decide +kernel
theorem dX12_connect_165 : decode cX12_connect 165 = .ok (.bipush 32, 2) := by decide +kernel
theorem dX12_connect_167 : decode cX12_connect 167 = .ok (.iand, 1) := by decide +kernel
theorem dX12_connect_168 : decode cX12_connect 168 = .ok (.ifCond .eq 10, 3) := by decide +kernel
theorem dX12_connect_171 : decode cX12_connect 171 = .ok (.aload_n 0, 1) := by decide +kernel
theorem dX12_connect_172 : decode cX12_connect 172 = .ok (.sipush 129, 3) := by decide +kernel
theorem dX12_connect_175 : decode cX12_connect 175 = .ok (.invokevirtual 343, 3) := by decide +kernel
theorem dX12_connect_178 : decode cX12_connect 178 = .ok (.aload_n 0, 1) := by decide +kernel
theorem dX12_connect_179 : decode cX12_connect 179 = .ok (.invokevirtual 350, 3) := by decide +kernel
theorem dX12_connect_182 : decode cX12_connect 182 = .ok (.istore 5, 2) := by decide +kernel
theorem dX12_connect_184 : decode cX12_connect 184 = .ok (.aload_n 0, 1) := by decide +kernel
theorem dX12_connect_185 : decode cX12_connect 185 = .ok (.getfield 283, 3) := by decide +kernel
theorem dX12_connect_188 : decode cX12_connect 188 = .ok (.ifCond .eq 4, 3) := by decide +kernel
theorem dX12_connect_191 : decode cX12_connect 191 = .ok (.return_, 1) := by decide +kernel
theorem dX12_connect_192 : decode cX12_connect 192 = .ok (.aload_n 0, 1) := by decide +kernel
theorem dX12_connect_193 : decode cX12_connect 193 = .ok (.bipush 17, 2) := by decide +kernel
theorem dX12_connect_195 : decode cX12_connect 195 = .ok (.invokestatic 381, 3) := by decide +kernel
theorem dX12_connect_198 : decode cX12_connect 198 = .ok (.bipush 21, 2) := by decide +kernel
theorem dX12_connect_200 : decode cX12_connect 200 = .ok (.invokestatic 381, 3) := by decide +kernel
theorem dX12_connect_203 : decode cX12_connect 203 = .ok (.lor, 1) := by decide +kernel
theorem dX12_connect_204 : decode cX12_connect 204 = .ok (.bipush 22, 2) := by decide +kernel
theorem dX12_connect_206 : decode cX12_connect 206 = .ok (.invokestatic 381, 3) := by decide +kernel
theorem dX12_connect_209 : decode cX12_connect 209 = .ok (.lor, 1) := by decide +kernel
theorem dX12_connect_210 : decode cX12_connect 210 = .ok (.bipush 23, 2) := by decide +kernel
theorem dX12_connect_212 : decode cX12_connect 212 = .ok (.invokestatic 381, 3) := by decide +kernel
theorem dX12_connect_215 : decode cX12_connect 215 = .ok (.lor, 1) := by decide +kernel
theorem dX12_connect_216 : decode cX12_connect 216 = .ok (.bipush 25, 2) := by decide +kernel
theorem dX12_connect_218 : decode cX12_connect 218 = .ok (.invokestatic 381, 3) := by decide +kernel
theorem dX12_connect_221 : decode cX12_connect 221 = .ok (.lor, 1) := by decide +kernel
theorem dX12_connect_222 : decode cX12_connect 222 = .ok (.bipush 33, 2) := by decide +kernel
theorem dX12_connect_224 : decode cX12_connect 224 = .ok (.invokestatic 381, 3) := by decide +kernel
theorem dX12_connect_227 : decode cX12_connect 227 = .ok (.lor, 1) := by decide +kernel
theorem dX12_connect_228 : decode cX12_connect 228 = .ok (.bipush 34, 2) := by decide +kernel
theorem dX12_connect_230 : decode cX12_connect 230 = .ok (.invokestatic 381, 3) := by decide +kernel
theorem dX12_connect_233 : decode cX12_connect 233 = .ok (.lor, 1) := by decide +kernel
theorem dX12_connect_234 : decode cX12_connect 234 = .ok (.bipush 38, 2) := by decide +kernel
theorem dX12_connect_236 : decode cX12_connect 236 = .ok (.invokestatic 381, 3) := by decide +kernel
theorem dX12_connect_239 : decode cX12_connect 239 = .ok (.lor, 1) := by decide +kernel
theorem dX12_connect_240 : decode cX12_connect 240 = .ok (.bipush 39, 2) := by decide +kernel
theorem dX12_connect_242 : decode cX12_connect 242 = .ok (.invokestatic 381, 3) := by decide +kernel
theorem dX12_connect_245 : decode cX12_connect 245 = .ok (.lor, 1) := by decide +kernel
theorem dX12_connect_246 : decode cX12_connect 246 = .ok (.invokevirtual 419, 3) := by decide +kernel
theorem dX12_connect_249 : decode cX12_connect 249 = .ok (.aload_n 0, 1) := by decide +kernel
theorem dX12_connect_250 : decode cX12_connect 250 = .ok (.getfield 283, 3) := by decide +kernel
theorem dX12_connect_253 : decode cX12_connect 253 = .ok (.ifCond .ne 74, 3) := by decide +kernel
theorem dX12_connect_256 : decode cX12_connect 256 = .ok (.aload_n 0, 1) := by decide +kernel
theorem dX12_connect_257 : decode cX12_connect 257 = .ok (.getfield 210, 3) := by decide +kernel
theorem dX12_connect_260 : decode cX12_connect 260 = .ok (.bipush 33, 2) := by decide +kernel
theorem dX12_connect_262 : decode cX12_connect 262 = .ok (.baload, 1) := by decide +kernel
theorem dX12_connect_263 : decode cX12_connect 263 = .ok (.ifCond .eq 15, 3) := by decide +kernel
theorem dX12_connect_266 : decode cX12_connect 266 = .ok (.aload_n 0, 1) := by decide +kernel
theorem dX12_connect_267 : decode cX12_connect 267 = .ok (.getfield 213, 3) := by decide +kernel
theorem dX12_connect_270 : decode cX12_connect 270 = .ok (.bipush 33, 2) := by decide +kernel
theorem dX12_connect_272 : decode cX12_connect 272 = .ok (.laload, 1) := by decide +kernel
theorem dX12_connect_273 : decode cX12_connect 273 = .ok (.lconst 0, 1) := by decide +kernel
theorem dX12_connect_274 : decode cX12_connect 274 = .ok (.lcmp, 1) := by decide +kernel
theorem dX12_connect_275 : decode cX12_connect 275 = .ok (.ifCond .eq 45, 3) := by decide +kernel
theorem dX12_connect_278 : decode cX12_connect 278 = .ok (.aload_n 0, 1) := by decide +kernel
theorem dX12_connect_279 : decode cX12_connect 279 = .ok (.getfield 210, 3) := by decide +kernel
theorem dX12_connect_282 : decode cX12_connect 282 = .ok (.bipush 39, 2) := by decide +kernel
theorem dX12_connect_284 : decode cX12_connect 284 = .ok (.baload, 1) := by decide +kernel
theorem dX12_connect_285 : decode cX12_connect 285 = .ok (.ifCond .eq 15, 3) := by decide +kernel
theorem dX12_connect_288 : decode cX12_connect 288 = .ok (.aload_n 0, 1) := by decide +kernel
theorem dX12_connect_289 : decode cX12_connect 289 = .ok (.getfield 213, 3) := by decide +kernel
theorem dX12_connect_292 : decode cX12_connect 292 = .ok (.bipush 39, 2) := by decide +kernel
theorem dX12_connect_294 : decode cX12_connect 294 = .ok (.laload, 1) := by decide +kernel
theorem dX12_connect_295 : decode cX12_connect 295 = .ok (.lconst 0, 1) := by decide +kernel
theorem dX12_connect_296 : decode cX12_connect 296 = .ok (.lcmp, 1) := by decide +kernel
theorem dX12_connect_297 : decode cX12_connect 297 = .ok (.ifCond .eq 23, 3) := by decide +kernel
theorem dX12_connect_300 : decode cX12_connect 300 = .ok (.aload_n 0, 1) := by decide +kernel
theorem dX12_connect_301 : decode cX12_connect 301 = .ok (.getfield 210, 3) := by decide +kernel
theorem dX12_connect_304 : decode cX12_connect 304 = .ok (.bipush 22, 2) := by decide +kernel
theorem dX12_connect_306 : decode cX12_connect 306 = .ok (.baload, 1) := by decide +kernel
theorem dX12_connect_307 : decode cX12_connect 307 = .ok (.ifCond .eq 20, 3) := by decide +kernel
theorem dX12_connect_310 : decode cX12_connect 310 = .ok (.aload_n 0, 1) := by decide +kernel
theorem dX12_connect_311 : decode cX12_connect 311 = .ok (.getfield 210, 3) := by decide +kernel
theorem dX12_connect_314 : decode cX12_connect 314 = .ok (.bipush 21, 2) := by decide +kernel
theorem dX12_connect_316 : decode cX12_connect 316 = .ok (.baload, 1) := by decide +kernel
theorem dX12_connect_317 : decode cX12_connect 317 = .ok (.ifCond .ne 10, 3) := by decide +kernel
theorem dX12_connect_320 : decode cX12_connect 320 = .ok (.aload_n 0, 1) := by decide +kernel
theorem dX12_connect_321 : decode cX12_connect 321 = .ok (.sipush 130, 3) := by decide +kernel
theorem dX12_connect_324 : decode cX12_connect 324 = .ok (.invokevirtual 343, 3) := by decide +kernel
theorem dX12_connect_327 : decode cX12_connect 327 = .ok (.aload_n 0, 1) := by decide +kernel
theorem dX12_connect_328 : decode cX12_connect 328 = .ok (.getfield 283, 3) := by decide +kernel
theorem dX12_connect_331 : decode cX12_connect 331 = .ok (.ifCond .eq 4, 3) := by decide +kernel
theorem dX12_connect_334 : decode cX12_connect 334 = .ok (.return_, 1) := by decide +kernel
theorem dX12_connect_335 : decode cX12_connect 335 = .ok (.aload_n 0, 1) := by decide +kernel
theorem dX12_connect_336 : decode cX12_connect 336 = .ok (.getfield 210, 3) := by decide +kernel
theorem dX12_connect_339 : decode cX12_connect 339 = .ok (.bipush 17, 2) := by decide +kernel
theorem dX12_connect_341 : decode cX12_connect 341 = .ok (.baload, 1) := by decide +kernel
theorem dX12_connect_342 : decode cX12_connect 342 = .ok (.ifCond .eq 13, 3) := by decide +kernel
theorem dX12_connect_345 : decode cX12_connect 345 = .ok (.aload_n 0, 1) := by decide +kernel
theorem dX12_connect_346 : decode cX12_connect 346 = .ok (.getfield 213, 3) := by decide +kernel
theorem dX12_connect_349 : decode cX12_connect 349 = .ok (.bipush 17, 2) := by decide +kernel
theorem dX12_connect_351 : decode cX12_connect 351 = .ok (.laload, 1) := by decide +kernel
theorem dX12_connect_352 : decode cX12_connect 352 = .ok (.goto 4, 3) := by decide +kernel
theorem dX12_connect_355 : decode cX12_connect 355 = .ok (.lconst 0, 1) := by decide +kernel
theorem dX12_connect_356 : decode cX12_connect 356 = .ok (.lstore 6, 2) := by decide +kernel
theorem dX12_connect_358 : decode cX12_connect 358 = .ok (.aload_n 0, 1) := by decide +kernel
theorem dX12_connect_359 : decode cX12_connect 359 = .ok (.getfield 210, 3) := by decide +kernel
theorem dX12_connect_362 : decode cX12_connect 362 = .ok (.bipush 33, 2) := by decide +kernel
theorem dX12_connect_364 : decode cX12_connect 364 = .ok (.baload, 1) := by decide +kernel
theorem dX12_connect_365 : decode cX12_connect 365 = .ok (.ifCond .eq 14, 3) := by decide +kernel
theorem dX12_connect_368 : decode cX12_connect 368 = .ok (.aload_n 0, 1) := by decide +kernel
theorem dX12_connect_369 : decode cX12_connect 369 = .ok (.getfield 213, 3) := by decide +kernel
theorem dX12_connect_372 : decode cX12_connect 372 = .ok (.bipush 33, 2) := by decide +kernel
theorem dX12_connect_374 : decode cX12_connect 374 = .ok (.laload, 1) := by decide +kernel
theorem dX12_connect_375 : decode cX12_connect 375 = .ok (.l2i, 1) := by decide +kernel
theorem dX12_connect_376 : decode cX12_connect 376 = .ok (.goto 6, 3) := by decide +kernel
theorem dX12_connect_379 : decode cX12_connect 379 = .ok (.ldc_w 422, 3) := by decide +kernel
theorem dX12_connect_382 : decode cX12_connect 382 = .ok (.istore 8, 2) := by decide +kernel
theorem dX12_connect_384 : decode cX12_connect 384 = .ok (.aload_n 0, 1) := by decide +kernel
theorem dX12_connect_385 : decode cX12_connect 385 = .ok (.getfield 210, 3) := by decide +kernel
theorem dX12_connect_388 : decode cX12_connect 388 = .ok (.bipush 39, 2) := by decide +kernel
theorem dX12_connect_390 : decode cX12_connect 390 = .ok (.baload, 1) := by decide +kernel
theorem dX12_connect_391 : decode cX12_connect 391 = .ok (.ifCond .eq 13, 3) := by decide +kernel
theorem dX12_connect_394 : decode cX12_connect 394 = .ok (.aload_n 0, 1) := by decide +kernel
theorem dX12_connect_395 : decode cX12_connect 395 = .ok (.getfield 213, 3) := by decide +kernel
theorem dX12_connect_398 : decode cX12_connect 398 = .ok (.bipush 39, 2) := by decide +kernel
theorem dX12_connect_400 : decode cX12_connect 400 = .ok (.laload, 1) := by decide +kernel
theorem dX12_connect_401 : decode cX12_connect 401 = .ok (.goto 6, 3) := by decide +kernel
theorem dX12_connect_404 : decode cX12_connect 404 = .ok (.ldc2_w 425, 3) := by decide +kernel
theorem dX12_connect_407 : decode cX12_connect 407 = .ok (.lstore 9, 2) := by decide +kernel
theorem dX12_connect_409 : decode cX12_connect 409 = .ok (.aload_n 0, 1) := by decide +kernel
theorem dX12_connect_410 : decode cX12_connect 410 = .ok (.getfield 210, 3) := by decide +kernel
theorem dX12_connect_413 : decode cX12_connect 413 = .ok (.bipush 21, 2) := by decide +kernel
theorem dX12_connect_415 : decode cX12_connect 415 = .ok (.baload, 1) := by decide +kernel
theorem dX12_connect_416 : decode cX12_connect 416 = .ok (.istore 11, 2) := by decide +kernel
theorem dX12_connect_418 : decode cX12_connect 418 = .ok (.aload_n 0, 1) := by decide +kernel
theorem dX12_connect_419 : decode cX12_connect 419 = .ok (.invokevirtual 388, 3) := by decide +kernel
theorem dX12_connect_422 : decode cX12_connect 422 = .ok (.aload_n 0, 1) := by decide +kernel
theorem dX12_connect_423 : decode cX12_connect 423 = .ok (.getfield 353, 3) := by decide +kernel
theorem dX12_connect_426 : decode cX12_connect 426 = .ok (.istore 12, 2) := by decide +kernel
theorem dX12_connect_428 : decode cX12_connect 428 = .ok (.aload_n 0, 1) := by decide +kernel
theorem dX12_connect_429 : decode cX12_connect 429 = .ok (.getfield 356, 3) := by decide +kernel
theorem dX12_connect_432 : decode cX12_connect 432 = .ok (.istore 13, 2) := by decide +kernel
theorem dX12_connect_434 : decode cX12_connect 434 = .ok (.iconst 0, 1) := by decide +kernel
theorem dX12_connect_435 : decode cX12_connect 435 = .ok (.istore 14, 2) := by decide +kernel
theorem dX12_connect_437 : decode cX12_connect 437 = .ok (.iconst 0, 1) := by decide +kernel
theorem dX12_connect_438 : decode cX12_connect 438 = .ok (.istore 15, 2) := by decide +kernel
theorem dX12_connect_440 : decode cX12_connect 440 = .ok (.iconst 0, 1) := by decide +kernel
theorem dX12_connect_441 : decode cX12_connect 441 = .ok (.istore 16, 2) := by decide +kernel
theorem dX12_connect_443 : decode cX12_connect 443 = .ok (.iconst 0, 1) := by decide +kernel
theorem dX12_connect_444 : decode cX12_connect 444 = .ok (.istore 17, 2) := by decide +kernel
theorem dX12_connect_446 : decode cX12_connect 446 = .ok (.iload_n 3, 1) := by decide +kernel
theorem dX12_connect_447 : decode cX12_connect 447 = .ok (.ifCond .eq 174, 3) := by decide +kernel
theorem dX12_connect_450 : decode cX12_connect 450 = .ok (.aload_n 0, 1) := by decide +kernel
theorem dX12_connect_451 : decode cX12_connect 451 = .ok (.getfield 283, 3) := by decide +kernel
theorem dX12_connect_454 : decode cX12_connect 454 = .ok (.ifCond .ne 167, 3) := by decide +kernel
theorem dX12_connect_457 : decode cX12_connect 457 = .ok (.aload_n 0, 1) := by decide +kernel
theorem dX12_connect_458 : decode cX12_connect 458 = .ok (.iconst 1, 1) := by decide +kernel
theorem dX12_connect_459 : decode cX12_connect 459 = .ok (.invokestatic 381, 3) := by decide +kernel
theorem dX12_connect_462 : decode cX12_connect 462 = .ok (.iconst 2, 1) := by decide +kernel
theorem dX12_connect_463 : decode cX12_connect 463 = .ok (.invokestatic 381, 3) := by decide +kernel
theorem dX12_connect_466 : decode cX12_connect 466 = .ok (.lor, 1) := by decide +kernel
theorem dX12_connect_467 : decode cX12_connect 467 = .ok (.iconst 3, 1) := by decide +kernel
theorem dX12_connect_468 : decode cX12_connect 468 = .ok (.invokestatic 381, 3) := by decide +kernel
theorem dX12_connect_471 : decode cX12_connect 471 = .ok (.lor, 1) := by decide +kernel
theorem dX12_connect_472 : decode cX12_connect 472 = .ok (.bipush 8, 2) := by decide +kernel
theorem dX12_connect_474 : decode cX12_connect 474 = .ok (.invokestatic 381, 3) := by decide +kernel
theorem dX12_connect_477 : decode cX12_connect 477 = .ok (.lor, 1) := by decide +kernel
theorem dX12_connect_478 : decode cX12_connect 478 = .ok (.bipush 9, 2) := by decide +kernel
theorem dX12_connect_480 : decode cX12_connect 480 = .ok (.invokestatic 381, 3) := by decide +kernel
theorem dX12_connect_483 : decode cX12_connect 483 = .ok (.lor, 1) := by decide +kernel
theorem dX12_connect_484 : decode cX12_connect 484 = .ok (.bipush 24, 2) := by decide +kernel
theorem dX12_connect_486 : decode cX12_connect 486 = .ok (.invokestatic 381, 3) := by decide +kernel
theorem dX12_connect_489 : decode cX12_connect 489 = .ok (.lor, 1) := by decide +kernel
theorem dX12_connect_490 : decode cX12_connect 490 = .ok (.bipush 38, 2) := by decide +kernel
theorem dX12_connect_492 : decode cX12_connect 492 = .ok (.invokestatic 381, 3) := by decide +kernel
theorem dX12_connect_495 : decode cX12_connect 495 = .ok (.lor, 1) := by decide +kernel
theorem dX12_connect_496 : decode cX12_connect 496 = .ok (.invokevirtual 419, 3) := by decide +kernel
theorem dX12_connect_499 : decode cX12_connect 499 = .ok (.aload_n 0, 1) := by decide +kernel
theorem dX12_connect_500 : decode cX12_connect 500 = .ok (.getfield 283, 3) := by decide +kernel
theorem dX12_connect_503 : decode cX12_connect 503 = .ok (.ifCond .ne 44, 3) := by decide +kernel
theorem dX12_connect_506 : decode cX12_connect 506 = .ok (.aload_n 0, 1) := by decide +kernel
theorem dX12_connect_507 : decode cX12_connect 507 = .ok (.getfield 210, 3) := by decide +kernel
theorem dX12_connect_510 : decode cX12_connect 510 = .ok (.bipush 8, 2) := by decide +kernel
theorem dX12_connect_512 : decode cX12_connect 512 = .ok (.baload, 1) := by decide +kernel
theorem dX12_connect_513 : decode cX12_connect 513 = .ok (.ifCond .eq 34, 3) := by decide +kernel
theorem dX12_connect_516 : decode cX12_connect 516 = .ok (.aload_n 0, 1) := by decide +kernel
theorem dX12_connect_517 : decode cX12_connect 517 = .ok (.getfield 31, 3) := by decide +kernel
theorem dX12_connect_520 : decode cX12_connect 520 = .ok (.aload_n 0, 1) := by decide +kernel
theorem dX12_connect_521 : decode cX12_connect 521 = .ok (.getfield 216, 3) := by decide +kernel
theorem dX12_connect_524 : decode cX12_connect 524 = .ok (.bipush 8, 2) := by decide +kernel
theorem dX12_connect_526 : decode cX12_connect 526 = .ok (.iaload, 1) := by decide +kernel
theorem dX12_connect_527 : decode cX12_connect 527 = .ok (.aload_n 0, 1) := by decide +kernel
theorem dX12_connect_528 : decode cX12_connect 528 = .ok (.getfield 219, 3) := by decide +kernel
theorem dX12_connect_531 : decode cX12_connect 531 = .ok (.bipush 8, 2) := by decide +kernel
theorem dX12_connect_533 : decode cX12_connect 533 = .ok (.iaload, 1) := by decide +kernel
theorem dX12_connect_534 : decode cX12_connect 534 = .ok (.invokestatic 427, 3) := by decide +kernel
theorem dX12_connect_537 : decode cX12_connect 537 = .ok (.ifCond .ne 10, 3) := by decide +kernel
theorem dX12_connect_540 : decode cX12_connect 540 = .ok (.aload_n 0, 1) := by decide +kernel
theorem dX12_connect_541 : decode cX12_connect 541 = .ok (.sipush 130, 3) := by decide +kernel
theorem dX12_connect_544 : decode cX12_connect 544 = .ok (.invokevirtual 343, 3) := by decide +kernel
theorem dX12_connect_547 : decode cX12_connect 547 = .ok (.aload_n 0, 1) := by decide +kernel
theorem dX12_connect_548 : decode cX12_connect 548 = .ok (.getfield 283, 3) := by decide +kernel
theorem dX12_connect_551 : decode cX12_connect 551 = .ok (.ifCond .ne 7, 3) := by decide +kernel
theorem dX12_connect_554 : decode cX12_connect 554 = .ok (.aload_n 0, 1) := by decide +kernel
theorem dX12_connect_555 : decode cX12_connect 555 = .ok (.invokevirtual 388, 3) := by decide +kernel
theorem dX12_connect_558 : decode cX12_connect 558 = .ok (.aload_n 0, 1) := by decide +kernel
theorem dX12_connect_559 : decode cX12_connect 559 = .ok (.getfield 353, 3) := by decide +kernel
theorem dX12_connect_562 : decode cX12_connect 562 = .ok (.istore 14, 2) := by decide +kernel
theorem dX12_connect_564 : decode cX12_connect 564 = .ok (.aload_n 0, 1) := by decide +kernel
theorem dX12_connect_565 : decode cX12_connect 565 = .ok (.getfield 356, 3) := by decide +kernel
theorem dX12_connect_568 : decode cX12_connect 568 = .ok (.istore 15, 2) := by decide +kernel
theorem dX12_connect_570 : decode cX12_connect 570 = .ok (.aload_n 0, 1) := by decide +kernel
theorem dX12_connect_571 : decode cX12_connect 571 = .ok (.getfield 283, 3) := by decide +kernel
theorem dX12_connect_574 : decode cX12_connect 574 = .ok (.ifCond .ne 24, 3) := by decide +kernel
theorem dX12_connect_577 : decode cX12_connect 577 = .ok (.aload_n 0, 1) := by decide +kernel
theorem dX12_connect_578 : decode cX12_connect 578 = .ok (.getfield 31, 3) := by decide +kernel
theorem dX12_connect_581 : decode cX12_connect 581 = .ok (.iload 14, 2) := by decide +kernel
theorem dX12_connect_583 : decode cX12_connect 583 = .ok (.iload 15, 2) := by decide +kernel
theorem dX12_connect_585 : decode cX12_connect 585 = .ok (.invokestatic 427, 3) := by decide +kernel
theorem dX12_connect_588 : decode cX12_connect 588 = .ok (.ifCond .ne 10, 3) := by decide +kernel
theorem dX12_connect_591 : decode cX12_connect 591 = .ok (.aload_n 0, 1) := by decide +kernel
theorem dX12_connect_592 : decode cX12_connect 592 = .ok (.sipush 144, 3) := by decide +kernel
theorem dX12_connect_595 : decode cX12_connect 595 = .ok (.invokevirtual 343, 3) := by decide +kernel
theorem dX12_connect_598 : decode cX12_connect 598 = .ok (.aload_n 0, 1) := by decide +kernel
theorem dX12_connect_599 : decode cX12_connect 599 = .ok (.getfield 283, 3) := by decide +kernel
theorem dX12_connect_602 : decode cX12_connect 602 = .ok (.ifCond .ne 7, 3) := by decide +kernel
theorem dX12_connect_605 : decode cX12_connect 605 = .ok (.aload_n 0, 1) := by decide +kernel
theorem dX12_connect_606 : decode cX12_connect 606 = .ok (.invokevirtual 359, 3) := by decide +kernel
theorem dX12_connect_609 : decode cX12_connect 609 = .ok (.aload_n 0, 1) := by decide +kernel
theorem dX12_connect_610 : decode cX12_connect 610 = .ok (.getfield 353, 3) := by decide +kernel
theorem dX12_connect_613 : decode cX12_connect 613 = .ok (.istore 16, 2) := by decide +kernel
theorem dX12_connect_615 : decode cX12_connect 615 = .ok (.aload_n 0, 1) := by decide +kernel
theorem dX12_connect_616 : decode cX12_connect 616 = .ok (.getfield 356, 3) := by decide +kernel
theorem dX12_connect_619 : decode cX12_connect 619 = .ok (.istore 17, 2) := by decide +kernel
theorem dX12_connect_621 : decode cX12_connect 621 = .ok (.iload_n 2, 1) := by decide +kernel
theorem dX12_connect_622 : decode cX12_connect 622 = .ok (.sipush 128, 3) := by decide +kernel
theorem dX12_connect_625 : decode cX12_connect 625 = .ok (.iand, 1) := by decide +kernel
theorem dX12_connect_626 : decode cX12_connect 626 = .ok (.ifCond .eq 14, 3) := by decide +kernel
theorem dX12_connect_629 : decode cX12_connect 629 = .ok (.aload_n 0, 1) := by decide +kernel
theorem dX12_connect_630 : decode cX12_connect 630 = .ok (.getfield 283, 3) := by decide +kernel
theorem dX12_connect_633 : decode cX12_connect 633 = .ok (.ifCond .ne 7, 3) := by decide +kernel
theorem dX12_connect_636 : decode cX12_connect 636 = .ok (.aload_n 0, 1) := by decide +kernel
theorem dX12_connect_637 : decode cX12_connect 637 = .ok (.invokevirtual 388, 3) := by decide +kernel
theorem dX12_connect_640 : decode cX12_connect 640 = .ok (.iload_n 2, 1) := by decide +kernel
theorem dX12_connect_641 : decode cX12_connect 641 = .ok (.bipush 64, 2) := by decide +kernel
theorem dX12_connect_643 : decode cX12_connect 643 = .ok (.iand, 1) := by decide +kernel
theorem dX12_connect_644 : decode cX12_connect 644 = .ok (.ifCond .eq 14, 3) := by decide +kernel
theorem dX12_connect_647 : decode cX12_connect 647 = .ok (.aload_n 0, 1) := by decide +kernel
theorem dX12_connect_648 : decode cX12_connect 648 = .ok (.getfield 283, 3) := by decide +kernel
theorem dX12_connect_651 : decode cX12_connect 651 = .ok (.ifCond .ne 7, 3) := by decide +kernel
theorem dX12_connect_654 : decode cX12_connect 654 = .ok (.aload_n 0, 1) := by decide +kernel
theorem dX12_connect_655 : decode cX12_connect 655 = .ok (.invokevirtual 359, 3) := by decide +kernel
theorem dX12_connect_658 : decode cX12_connect 658 = .ok (.aload_n 0, 1) := by decide +kernel
theorem dX12_connect_659 : decode cX12_connect 659 = .ok (.getfield 283, 3) := by decide +kernel
theorem dX12_connect_662 : decode cX12_connect 662 = .ok (.ifCond .ne 21, 3) := by decide +kernel
theorem dX12_connect_665 : decode cX12_connect 665 = .ok (.aload_n 0, 1) := by decide +kernel
theorem dX12_connect_666 : decode cX12_connect 666 = .ok (.getfield 274, 3) := by decide +kernel
theorem dX12_connect_669 : decode cX12_connect 669 = .ok (.aload_n 0, 1) := by decide +kernel
theorem dX12_connect_670 : decode cX12_connect 670 = .ok (.getfield 277, 3) := by decide +kernel
theorem dX12_connect_673 : decode cX12_connect 673 = .ok (.if_icmp .ge 10, 3) := by decide +kernel
theorem dX12_connect_676 : decode cX12_connect 676 = .ok (.aload_n 0, 1) := by decide +kernel
theorem dX12_connect_677 : decode cX12_connect 677 = .ok (.sipush 129, 3) := by decide +kernel
theorem dX12_connect_680 : decode cX12_connect 680 = .ok (.invokevirtual 343, 3) := by decide +kernel
theorem dX12_connect_683 : decode cX12_connect 683 = .ok (.aload_n 0, 1) := by decide +kernel
theorem dX12_connect_684 : decode cX12_connect 684 = .ok (.getfield 283, 3) := by decide +kernel
theorem dX12_connect_687 : decode cX12_connect 687 = .ok (.ifCond .ne 15, 3) := by decide +kernel
theorem dX12_connect_690 : decode cX12_connect 690 = .ok (.iload 11, 2) := by decide +kernel
theorem dX12_connect_692 : decode cX12_connect 692 = .ok (.ifCond .eq 10, 3) := by decide +kernel
theorem dX12_connect_695 : decode cX12_connect 695 = .ok (.aload_n 0, 1) := by decide +kernel
theorem dX12_connect_696 : decode cX12_connect 696 = .ok (.sipush 140, 3) := by decide +kernel
theorem dX12_connect_699 : decode cX12_connect 699 = .ok (.invokevirtual 343, 3) := by decide +kernel
theorem dX12_connect_702 : decode cX12_connect 702 = .ok (.aload_n 0, 1) := by decide +kernel
theorem dX12_connect_703 : decode cX12_connect 703 = .ok (.getfield 283, 3) := by decide +kernel
theorem dX12_connect_706 : decode cX12_connect 706 = .ok (.ifCond .ne 17, 3) := by decide +kernel
theorem dX12_connect_709 : decode cX12_connect 709 = .ok (.iload 13, 2) := by decide +kernel
theorem dX12_connect_711 : decode cX12_connect 711 = .ok (.bipush 20, 2) := by decide +kernel
theorem dX12_connect_713 : decode cX12_connect 713 = .ok (.if_icmp .le 10, 3) := by decide +kernel
theorem dX12_connect_716 : decode cX12_connect 716 = .ok (.aload_n 0, 1) := by decide +kernel
theorem dX12_connect_717 : decode cX12_connect 717 = .ok (.sipush 133, 3) := by decide +kernel
theorem dX12_connect_720 : decode cX12_connect 720 = .ok (.invokevirtual 343, 3) := by decide +kernel
theorem dX12_connect_723 : decode cX12_connect 723 = .ok (.aload_n 0, 1) := by decide +kernel
theorem dX12_connect_724 : decode cX12_connect 724 = .ok (.getfield 283, 3) := by decide +kernel
theorem dX12_connect_727 : decode cX12_connect 727 = .ok (.ifCond .eq 4, 3) := by decide +kernel
theorem dX12_connect_730 : decode cX12_connect 730 = .ok (.return_, 1) := by decide +kernel
theorem dX12_connect_731 : decode cX12_connect 731 = .ok (.iload 13, 2) := by decide +kernel
theorem dX12_connect_733 : decode cX12_connect 733 = .ok (.ifCond .ne 7, 3) := by decide +kernel
theorem dX12_connect_736 : decode cX12_connect 736 = .ok (.iconst (-1), 1) := by decide +kernel
theorem dX12_connect_737 : decode cX12_connect 737 = .ok (.goto 15, 3) := by decide +kernel
theorem dX12_connect_740 : decode cX12_connect 740 = .ok (.aload_n 0, 1) := by decide +kernel
theorem dX12_connect_741 : decode cX12_connect 741 = .ok (.aload_n 0, 1) := by decide +kernel
theorem dX12_connect_742 : decode cX12_connect 742 = .ok (.getfield 31, 3) := by decide +kernel
theorem dX12_connect_745 : decode cX12_connect 745 = .ok (.iload 12, 2) := by decide +kernel
theorem dX12_connect_747 : decode cX12_connect 747 = .ok (.iload 13, 2) := by decide +kernel
theorem dX12_connect_749 : decode cX12_connect 749 = .ok (.invokevirtual 430, 3) := by decide +kernel
theorem dX12_connect_752 : decode cX12_connect 752 = .ok (.istore 18, 2) := by decide +kernel
theorem dX12_connect_754 : decode cX12_connect 754 = .ok (.iload 18, 2) := by decide +kernel
theorem dX12_connect_756 : decode cX12_connect 756 = .ok (.ifCond .ge 18, 3) := by decide +kernel
theorem dX12_connect_759 : decode cX12_connect 759 = .ok (.aload_n 0, 1) := by decide +kernel
theorem dX12_connect_760 : decode cX12_connect 760 = .ok (.invokevirtual 434, 3) := by decide +kernel
theorem dX12_connect_763 : decode cX12_connect 763 = .ok (.ifCond .ge 11, 3) := by decide +kernel
theorem dX12_connect_766 : decode cX12_connect 766 = .ok (.aload_n 0, 1) := by decide +kernel
theorem dX12_connect_767 : decode cX12_connect 767 = .ok (.sipush 151, 3) := by decide +kernel
theorem dX12_connect_770 : decode cX12_connect 770 = .ok (.invokevirtual 343, 3) := by decide +kernel
theorem dX12_connect_773 : decode cX12_connect 773 = .ok (.return_, 1) := by decide +kernel
theorem dX12_connect_774 : decode cX12_connect 774 = .ok (.iload 13, 2) := by decide +kernel
theorem dX12_connect_776 : decode cX12_connect 776 = .ok (.ifCond .ne 7, 3) := by decide +kernel
theorem dX12_connect_779 : decode cX12_connect 779 = .ok (.iconst 1, 1) := by decide +kernel
theorem dX12_connect_780 : decode cX12_connect 780 = .ok (.goto 4, 3) := by decide +kernel
theorem dX12_connect_783 : decode cX12_connect 783 = .ok (.iconst 0, 1) := by decide +kernel
theorem dX12_connect_784 : decode cX12_connect 784 = .ok (.istore 19, 2) := by decide +kernel
theorem dX12_connect_786 : decode cX12_connect 786 = .ok (.iload 18, 2) := by decide +kernel
theorem dX12_connect_788 : decode cX12_connect 788 = .ok (.ifCond .lt 43, 3) := by decide +kernel
theorem dX12_connect_791 : decode cX12_connect 791 = .ok (.aload_n 0, 1) := by decide +kernel
theorem dX12_connect_792 : decode cX12_connect 792 = .ok (.getfield 58, 3) := by decide +kernel
theorem dX12_connect_795 : decode cX12_connect 795 = .ok (.iload 18, 2) := by decide +kernel
theorem dX12_connect_797 : decode cX12_connect 797 = .ok (.iaload, 1) := by decide +kernel
theorem dX12_connect_798 : decode cX12_connect 798 = .ok (.ifCond .lt 33, 3) := by decide +kernel
theorem dX12_connect_801 : decode cX12_connect 801 = .ok (.aload_n 0, 1) := by decide +kernel
theorem dX12_connect_802 : decode cX12_connect 802 = .ok (.getfield 58, 3) := by decide +kernel
theorem dX12_connect_805 : decode cX12_connect 805 = .ok (.iload 18, 2) := by decide +kernel
theorem dX12_connect_807 : decode cX12_connect 807 = .ok (.iaload, 1) := by decide +kernel
theorem dX12_connect_808 : decode cX12_connect 808 = .ok (.istore 20, 2) := by decide +kernel
theorem dX12_connect_810 : decode cX12_connect 810 = .ok (.aload_n 0, 1) := by decide +kernel
theorem dX12_connect_811 : decode cX12_connect 811 = .ok (.iload 20, 2) := by decide +kernel
theorem dX12_connect_813 : decode cX12_connect 813 = .ok (.sipush 224, 3) := by decide +kernel
theorem dX12_connect_816 : decode cX12_connect 816 = .ok (.iconst 2, 1) := by decide +kernel
theorem dX12_connect_817 : decode cX12_connect 817 = .ok (.sipush 142, 3) := by decide +kernel
theorem dX12_connect_820 : decode cX12_connect 820 = .ok (.iconst 0, 1) := by decide +kernel
theorem dX12_connect_821 : decode cX12_connect 821 = .ok (.iconst 4, 1) := by decide +kernel
theorem dX12_connect_822 : decode cX12_connect 822 = .ok (.invokevirtual 295, 3) := by decide +kernel
theorem dX12_connect_825 : decode cX12_connect 825 = .ok (.aload_n 0, 1) := by decide +kernel
theorem dX12_connect_826 : decode cX12_connect 826 = .ok (.iload 20, 2) := by decide +kernel
theorem dX12_connect_828 : decode cX12_connect 828 = .ok (.invokevirtual 302, 3) := by decide +kernel
theorem dX12_connect_831 : decode cX12_connect 831 = .ok (.iload 18, 2) := by decide +kernel
theorem dX12_connect_833 : decode cX12_connect 833 = .ok (.ifCond .lt 25, 3) := by decide +kernel
theorem dX12_connect_836 : decode cX12_connect 836 = .ok (.aload_n 0, 1) := by decide +kernel
theorem dX12_connect_837 : decode cX12_connect 837 = .ok (.getfield 46, 3) := by decide +kernel
theorem dX12_connect_840 : decode cX12_connect 840 = .ok (.iload 18, 2) := by decide +kernel
theorem dX12_connect_842 : decode cX12_connect 842 = .ok (.baload, 1) := by decide +kernel
theorem dX12_connect_843 : decode cX12_connect 843 = .ok (.ifCond .eq 15, 3) := by decide +kernel
theorem dX12_connect_846 : decode cX12_connect 846 = .ok (.iload_n 2, 1) := by decide +kernel
theorem dX12_connect_847 : decode cX12_connect 847 = .ok (.iconst 2, 1) := by decide +kernel
theorem dX12_connect_848 : decode cX12_connect 848 = .ok (.iand, 1) := by decide +kernel
theorem dX12_connect_849 : decode cX12_connect 849 = .ok (.ifCond .eq 9, 3) := by decide +kernel
theorem dX12_connect_852 : decode cX12_connect 852 = .ok (.aload_n 0, 1) := by decide +kernel
theorem dX12_connect_853 : decode cX12_connect 853 = .ok (.iload 18, 2) := by decide +kernel
theorem dX12_connect_855 : decode cX12_connect 855 = .ok (.invokevirtual 321, 3) := by decide +kernel
theorem dX12_connect_858 : decode cX12_connect 858 = .ok (.iload 18, 2) := by decide +kernel
theorem dX12_connect_860 : decode cX12_connect 860 = .ok (.ifCond .lt 17, 3) := by decide +kernel
theorem dX12_connect_863 : decode cX12_connect 863 = .ok (.aload_n 0, 1) := by decide +kernel
theorem dX12_connect_864 : decode cX12_connect 864 = .ok (.getfield 46, 3) := by decide +kernel
theorem dX12_connect_867 : decode cX12_connect 867 = .ok (.iload 18, 2) := by decide +kernel
theorem dX12_connect_869 : decode cX12_connect 869 = .ok (.baload, 1) := by decide +kernel
theorem dX12_connect_870 : decode cX12_connect 870 = .ok (.ifCond .eq 7, 3) := by decide +kernel
theorem dX12_connect_873 : decode cX12_connect 873 = .ok (.iconst 1, 1) := by decide +kernel
theorem dX12_connect_874 : decode cX12_connect 874 = .ok (.goto 4, 3) := by decide +kernel
theorem dX12_connect_877 : decode cX12_connect 877 = .ok (.iconst 0, 1) := by decide +kernel
theorem dX12_connect_878 : decode cX12_connect 878 = .ok (.istore 20, 2) := by decide +kernel
theorem dX12_connect_880 : decode cX12_connect 880 = .ok (.iload 20, 2) := by decide +kernel
theorem dX12_connect_882 : decode cX12_connect 882 = .ok (.ifCond .ne 97, 3) := by decide +kernel
theorem dX12_connect_885 : decode cX12_connect 885 = .ok (.aload_n 0, 1) := by decide +kernel
theorem dX12_connect_886 : decode cX12_connect 886 = .ok (.invokevirtual 434, 3) := by decide +kernel
theorem dX12_connect_889 : decode cX12_connect 889 = .ok (.istore 18, 2) := by decide +kernel
theorem dX12_connect_891 : decode cX12_connect 891 = .ok (.aload_n 0, 1) := by decide +kernel
theorem dX12_connect_892 : decode cX12_connect 892 = .ok (.getfield 46, 3) := by decide +kernel
theorem dX12_connect_895 : decode cX12_connect 895 = .ok (.iload 18, 2) := by decide +kernel
theorem dX12_connect_897 : decode cX12_connect 897 = .ok (.iconst 1, 1) := by decide +kernel
theorem dX12_connect_898 : decode cX12_connect 898 = .ok (.bastore, 1) := by decide +kernel
theorem dX12_connect_899 : decode cX12_connect 899 = .ok (.aload_n 0, 1) := by decide +kernel
theorem dX12_connect_900 : decode cX12_connect 900 = .ok (.getfield 49, 3) := by decide +kernel
theorem dX12_connect_903 : decode cX12_connect 903 = .ok (.iload 18, 2) := by decide +kernel
theorem dX12_connect_905 : decode cX12_connect 905 = .ok (.aload_n 0, 1) := by decide +kernel
theorem dX12_connect_906 : decode cX12_connect 906 = .ok (.dup, 1) := by decide +kernel
theorem dX12_connect_907 : decode cX12_connect 907 = .ok (.getfield 437, 3) := by decide +kernel
theorem dX12_connect_910 : decode cX12_connect 910 = .ok (.iconst 1, 1) := by decide +kernel
theorem dX12_connect_911 : decode cX12_connect 911 = .ok (.iadd, 1) := by decide +kernel
theorem dX12_connect_912 : decode cX12_connect 912 = .ok (.dup_x1, 1) := by decide +kernel
theorem dX12_connect_913 : decode cX12_connect 913 = .ok (.putfield 437, 3) := by decide +kernel
theorem dX12_connect_916 : decode cX12_connect 916 = .ok (.iastore, 1) := by decide +kernel
theorem dX12_connect_917 : decode cX12_connect 917 = .ok (.iload 19, 2) := by decide +kernel
theorem dX12_connect_919 : decode cX12_connect 919 = .ok (.ifCond .eq 12, 3) := by decide +kernel
theorem dX12_connect_922 : decode cX12_connect 922 = .ok (.aload_n 0, 1) := by decide +kernel
theorem dX12_connect_923 : decode cX12_connect 923 = .ok (.iload 18, 2) := by decide +kernel
theorem dX12_connect_925 : decode cX12_connect 925 = .ok (.invokevirtual 440, 3) := by decide +kernel
theorem dX12_connect_928 : decode cX12_connect 928 = .ok (.goto 51, 3) := by decide +kernel
theorem dX12_connect_931 : decode cX12_connect 931 = .ok (.aload_n 0, 1) := by decide +kernel
theorem dX12_connect_932 : decode cX12_connect 932 = .ok (.getfield 52, 3) := by decide +kernel
theorem dX12_connect_935 : decode cX12_connect 935 = .ok (.iload 18, 2) := by decide +kernel
theorem dX12_connect_937 : decode cX12_connect 937 = .ok (.iload 13, 2) := by decide +kernel
theorem dX12_connect_939 : decode cX12_connect 939 = .ok (.iastore, 1) := by decide +kernel
theorem dX12_connect_940 : decode cX12_connect 940 = .ok (.iconst 0, 1) := by decide +kernel
theorem dX12_connect_941 : decode cX12_connect 941 = .ok (.istore 21, 2) := by decide +kernel
theorem dX12_connect_943 : decode cX12_connect 943 = .ok (.iload 21, 2) := by decide +kernel
theorem dX12_connect_945 : decode cX12_connect 945 = .ok (.iload 13, 2) := by decide +kernel
theorem dX12_connect_947 : decode cX12_connect 947 = .ok (.if_icmp .ge 32, 3) := by decide +kernel
theorem dX12_connect_950 : decode cX12_connect 950 = .ok (.aload_n 0, 1) := by decide +kernel
theorem dX12_connect_951 : decode cX12_connect 951 = .ok (.getfield 55, 3) := by decide +kernel
theorem dX12_connect_954 : decode cX12_connect 954 = .ok (.bipush 20, 2) := by decide +kernel
theorem dX12_connect_956 : decode cX12_connect 956 = .ok (.iload 18, 2) := by decide +kernel
theorem dX12_connect_958 : decode cX12_connect 958 = .ok (.imul, 1) := by decide +kernel
theorem dX12_connect_959 : decode cX12_connect 959 = .ok (.iload 21, 2) := by decide +kernel
theorem dX12_connect_961 : decode cX12_connect 961 = .ok (.iadd, 1) := by decide +kernel
theorem dX12_connect_962 : decode cX12_connect 962 = .ok (.aload_n 0, 1) := by decide +kernel
theorem dX12_connect_963 : decode cX12_connect 963 = .ok (.getfield 31, 3) := by decide +kernel
theorem dX12_connect_966 : decode cX12_connect 966 = .ok (.iload 12, 2) := by decide +kernel
theorem dX12_connect_968 : decode cX12_connect 968 = .ok (.iload 21, 2) := by decide +kernel
theorem dX12_connect_970 : decode cX12_connect 970 = .ok (.iadd, 1) := by decide +kernel
theorem dX12_connect_971 : decode cX12_connect 971 = .ok (.baload, 1) := by decide +kernel
theorem dX12_connect_972 : decode cX12_connect 972 = .ok (.bastore, 1) := by decide +kernel
theorem dX12_connect_973 : decode cX12_connect 973 = .ok (.iinc 21 1, 3) := by decide +kernel
theorem dX12_connect_976 : decode cX12_connect 976 = .ok (.goto (-33), 3) := by decide +kernel
theorem dX12_connect_979 : decode cX12_connect 979 = .ok (.aload_n 0, 1) := by decide +kernel
theorem dX12_connect_980 : decode cX12_connect 980 = .ok (.getfield 74, 3) := by decide +kernel
theorem dX12_connect_983 : decode cX12_connect 983 = .ok (.iload 18, 2) := by decide +kernel
theorem dX12_connect_985 : decode cX12_connect 985 = .ok (.iconst (-1), 1) := by decide +kernel
theorem dX12_connect_986 : decode cX12_connect 986 = .ok (.iastore, 1) := by decide +kernel
theorem dX12_connect_987 : decode cX12_connect 987 = .ok (.aload_n 0, 1) := by decide +kernel
theorem dX12_connect_988 : decode cX12_connect 988 = .ok (.getfield 80, 3) := by decide +kernel
theorem dX12_connect_991 : decode cX12_connect 991 = .ok (.iload 18, 2) := by decide +kernel
theorem dX12_connect_993 : decode cX12_connect 993 = .ok (.ldc2_w 326, 3) := by decide +kernel
theorem dX12_connect_996 : decode cX12_connect 996 = .ok (.lastore, 1) := by decide +kernel
theorem dX12_connect_997 : decode cX12_connect 997 = .ok (.aload_n 0, 1) := by decide +kernel
theorem dX12_connect_998 : decode cX12_connect 998 = .ok (.getfield 83, 3) := by decide +kernel
theorem dX12_connect_1001 : decode cX12_connect 1001 = .ok (.iload 18, 2) := by decide +kernel
theorem dX12_connect_1003 : decode cX12_connect 1003 = .ok (.ldc2_w 326, 3) := by decide +kernel
theorem dX12_connect_1006 : decode cX12_connect 1006 = .ok (.lastore, 1) := by decide +kernel
theorem dX12_connect_1007 : decode cX12_connect 1007 = .ok (.aload_n 0, 1) := by decide +kernel
theorem dX12_connect_1008 : decode cX12_connect 1008 = .ok (.getfield 58, 3) := by decide +kernel
theorem dX12_connect_1011 : decode cX12_connect 1011 = .ok (.iload 18, 2) := by decide +kernel
theorem dX12_connect_1013 : decode cX12_connect 1013 = .ok (.aload_n 0, 1) := by decide +kernel
theorem dX12_connect_1014 : decode cX12_connect 1014 = .ok (.getfield 271, 3) := by decide +kernel
theorem dX12_connect_1017 : decode cX12_connect 1017 = .ok (.iastore, 1) := by decide +kernel
theorem dX12_connect_1018 : decode cX12_connect 1018 = .ok (.aload_n 0, 1) := by decide +kernel
theorem dX12_connect_1019 : decode cX12_connect 1019 = .ok (.getfield 34, 3) := by decide +kernel
theorem dX12_connect_1022 : decode cX12_connect 1022 = .ok (.aload_n 0, 1) := by decide +kernel
theorem dX12_connect_1023 : decode cX12_connect 1023 = .ok (.getfield 271, 3) := by decide +kernel
theorem dX12_connect_1026 : decode cX12_connect 1026 = .ok (.iload 18, 2) := by decide +kernel
theorem dX12_connect_1028 : decode cX12_connect 1028 = .ok (.iastore, 1) := by decide +kernel
theorem dX12_connect_1029 : decode cX12_connect 1029 = .ok (.aload_n 0, 1) := by decide +kernel
theorem dX12_connect_1030 : decode cX12_connect 1030 = .ok (.getfield 61, 3) := by decide +kernel
theorem dX12_connect_1033 : decode cX12_connect 1033 = .ok (.iload 18, 2) := by decide +kernel
theorem dX12_connect_1035 : decode cX12_connect 1035 = .ok (.lload 6, 2) := by decide +kernel
theorem dX12_connect_1037 : decode cX12_connect 1037 = .ok (.lastore, 1) := by decide +kernel
theorem dX12_connect_1038 : decode cX12_connect 1038 = .ok (.aload_n 0, 1) := by decide +kernel
theorem dX12_connect_1039 : decode cX12_connect 1039 = .ok (.getfield 65, 3) := by decide +kernel
theorem dX12_connect_1042 : decode cX12_connect 1042 = .ok (.iload 18, 2) := by decide +kernel
theorem dX12_connect_1044 : decode cX12_connect 1044 = .ok (.iload 8, 2) := by decide +kernel
theorem dX12_connect_1046 : decode cX12_connect 1046 = .ok (.iastore, 1) := by decide +kernel
theorem dX12_connect_1047 : decode cX12_connect 1047 = .ok (.aload_n 0, 1) := by decide +kernel
theorem dX12_connect_1048 : decode cX12_connect 1048 = .ok (.getfield 68, 3) := by decide +kernel
theorem dX12_connect_1051 : decode cX12_connect 1051 = .ok (.iload 18, 2) := by decide +kernel
theorem dX12_connect_1053 : decode cX12_connect 1053 = .ok (.lload 9, 2) := by decide +kernel
theorem dX12_connect_1055 : decode cX12_connect 1055 = .ok (.lastore, 1) := by decide +kernel
theorem dX12_connect_1056 : decode cX12_connect 1056 = .ok (.aload_n 0, 1) := by decide +kernel
theorem dX12_connect_1057 : decode cX12_connect 1057 = .ok (.getfield 71, 3) := by decide +kernel
theorem dX12_connect_1060 : decode cX12_connect 1060 = .ok (.iload 18, 2) := by decide +kernel
theorem dX12_connect_1062 : decode cX12_connect 1062 = .ok (.iload 5, 2) := by decide +kernel
theorem dX12_connect_1064 : decode cX12_connect 1064 = .ok (.iastore, 1) := by decide +kernel
theorem dX12_connect_1065 : decode cX12_connect 1065 = .ok (.iload_n 3, 1) := by decide +kernel
theorem dX12_connect_1066 : decode cX12_connect 1066 = .ok (.ifCond .eq 99, 3) := by decide +kernel
theorem dX12_connect_1069 : decode cX12_connect 1069 = .ok (.aload_n 0, 1) := by decide +kernel
theorem dX12_connect_1070 : decode cX12_connect 1070 = .ok (.getfield 77, 3) := by decide +kernel
theorem dX12_connect_1073 : decode cX12_connect 1073 = .ok (.iload 18, 2) := by decide +kernel
theorem dX12_connect_1075 : decode cX12_connect 1075 = .ok (.aload_n 0, 1) := by decide +kernel
theorem dX12_connect_1076 : decode cX12_connect 1076 = .ok (.getfield 210, 3) := by decide +kernel
theorem dX12_connect_1079 : decode cX12_connect 1079 = .ok (.bipush 24, 2) := by decide +kernel
theorem dX12_connect_1081 : decode cX12_connect 1081 = .ok (.baload, 1) := by decide +kernel
theorem dX12_connect_1082 : decode cX12_connect 1082 = .ok (.ifCond .eq 13, 3) := by decide +kernel
theorem dX12_connect_1085 : decode cX12_connect 1085 = .ok (.aload_n 0, 1) := by decide +kernel
theorem dX12_connect_1086 : decode cX12_connect 1086 = .ok (.getfield 213, 3) := by decide +kernel
theorem dX12_connect_1089 : decode cX12_connect 1089 = .ok (.bipush 24, 2) := by decide +kernel
theorem dX12_connect_1091 : decode cX12_connect 1091 = .ok (.laload, 1) := by decide +kernel
theorem dX12_connect_1092 : decode cX12_connect 1092 = .ok (.goto 4, 3) := by decide +kernel
theorem dX12_connect_1095 : decode cX12_connect 1095 = .ok (.lconst 0, 1) := by decide +kernel
theorem dX12_connect_1096 : decode cX12_connect 1096 = .ok (.lastore, 1) := by decide +kernel
theorem dX12_connect_1097 : decode cX12_connect 1097 = .ok (.iconst 0, 1) := by decide +kernel
theorem dX12_connect_1098 : decode cX12_connect 1098 = .ok (.istore 21, 2) := by decide +kernel
theorem dX12_connect_1100 : decode cX12_connect 1100 = .ok (.iload 21, 2) := by decide +kernel
theorem dX12_connect_1102 : decode cX12_connect 1102 = .ok (.iload 15, 2) := by decide +kernel
theorem dX12_connect_1104 : decode cX12_connect 1104 = .ok (.if_icmp .ge 26, 3) := by decide +kernel
theorem dX12_connect_1107 : decode cX12_connect 1107 = .ok (.aload_n 0, 1) := by decide +kernel
theorem dX12_connect_1108 : decode cX12_connect 1108 = .ok (.getfield 246, 3) := by decide +kernel
theorem dX12_connect_1111 : decode cX12_connect 1111 = .ok (.iload 21, 2) := by decide +kernel
theorem dX12_connect_1113 : decode cX12_connect 1113 = .ok (.aload_n 0, 1) := by decide +kernel
theorem dX12_connect_1114 : decode cX12_connect 1114 = .ok (.getfield 31, 3) := by decide +kernel
theorem dX12_connect_1117 : decode cX12_connect 1117 = .ok (.iload 14, 2) := by decide +kernel
theorem dX12_connect_1119 : decode cX12_connect 1119 = .ok (.iload 21, 2) := by decide +kernel
theorem dX12_connect_1121 : decode cX12_connect 1121 = .ok (.iadd, 1) := by decide +kernel
theorem dX12_connect_1122 : decode cX12_connect 1122 = .ok (.baload, 1) := by decide +kernel
theorem dX12_connect_1123 : decode cX12_connect 1123 = .ok (.bastore, 1) := by decide +kernel
theorem dX12_connect_1124 : decode cX12_connect 1124 = .ok (.iinc 21 1, 3) := by decide +kernel
theorem dX12_connect_1127 : decode cX12_connect 1127 = .ok (.goto (-27), 3) := by decide +kernel
theorem dX12_connect_1130 : decode cX12_connect 1130 = .ok (.aload_n 0, 1) := by decide +kernel
theorem dX12_connect_1131 : decode cX12_connect 1131 = .ok (.iload 15, 2) := by decide +kernel
theorem dX12_connect_1133 : decode cX12_connect 1133 = .ok (.putfield 443, 3) := by decide +kernel
theorem dX12_connect_1136 : decode cX12_connect 1136 = .ok (.aload_n 0, 1) := by decide +kernel
theorem dX12_connect_1137 : decode cX12_connect 1137 = .ok (.getfield 74, 3) := by decide +kernel
theorem dX12_connect_1140 : decode cX12_connect 1140 = .ok (.iload 18, 2) := by decide +kernel
theorem dX12_connect_1142 : decode cX12_connect 1142 = .ok (.aload_n 0, 1) := by decide +kernel
theorem dX12_connect_1143 : decode cX12_connect 1143 = .ok (.iload 16, 2) := by decide +kernel
theorem dX12_connect_1145 : decode cX12_connect 1145 = .ok (.iload 17, 2) := by decide +kernel
theorem dX12_connect_1147 : decode cX12_connect 1147 = .ok (.iload 4, 2) := by decide +kernel
theorem dX12_connect_1149 : decode cX12_connect 1149 = .ok (.iload_n 2, 1) := by decide +kernel
theorem dX12_connect_1150 : decode cX12_connect 1150 = .ok (.bipush 32, 2) := by decide +kernel
theorem dX12_connect_1152 : decode cX12_connect 1152 = .ok (.iand, 1) := by decide +kernel
theorem dX12_connect_1153 : decode cX12_connect 1153 = .ok (.ifCond .eq 7, 3) := by decide +kernel
theorem dX12_connect_1156 : decode cX12_connect 1156 = .ok (.iconst 1, 1) := by decide +kernel
theorem dX12_connect_1157 : decode cX12_connect 1157 = .ok (.goto 4, 3) := by decide +kernel
theorem dX12_connect_1160 : decode cX12_connect 1160 = .ok (.iconst 0, 1) := by decide +kernel
theorem dX12_connect_1161 : decode cX12_connect 1161 = .ok (.invokevirtual 446, 3) := by decide +kernel
theorem dX12_connect_1164 : decode cX12_connect 1164 = .ok (.iastore, 1) := by decide +kernel
theorem dX12_connect_1165 : decode cX12_connect 1165 = .ok (.aload_n 0, 1) := by decide +kernel
theorem dX12_connect_1166 : decode cX12_connect 1166 = .ok (.iconst 0, 1) := by decide +kernel
theorem dX12_connect_1167 : decode cX12_connect 1167 = .ok (.putfield 450, 3) := by decide +kernel
theorem dX12_connect_1170 : decode cX12_connect 1170 = .ok (.aload_n 0, 1) := by decide +kernel
theorem dX12_connect_1171 : decode cX12_connect 1171 = .ok (.iload 20, 2) := by decide +kernel
theorem dX12_connect_1173 : decode cX12_connect 1173 = .ok (.ifCond .eq 7, 3) := by decide +kernel
theorem dX12_connect_1176 : decode cX12_connect 1176 = .ok (.iconst 1, 1) := by decide +kernel
theorem dX12_connect_1177 : decode cX12_connect 1177 = .ok (.goto 4, 3) := by decide +kernel
theorem dX12_connect_1180 : decode cX12_connect 1180 = .ok (.iconst 0, 1) := by decide +kernel
theorem dX12_connect_1181 : decode cX12_connect 1181 = .ok (.invokevirtual 453, 3) := by decide +kernel
theorem dX12_connect_1184 : decode cX12_connect 1184 = .ok (.aload_n 0, 1) := by decide +kernel
theorem dX12_connect_1185 : decode cX12_connect 1185 = .ok (.iconst 0, 1) := by decide +kernel
theorem dX12_connect_1186 : decode cX12_connect 1186 = .ok (.invokevirtual 453, 3) := by decide +kernel
theorem dX12_connect_1189 : decode cX12_connect 1189 = .ok (.aload_n 0, 1) := by decide +kernel
theorem dX12_connect_1190 : decode cX12_connect 1190 = .ok (.bipush 11, 2) := by decide +kernel
theorem dX12_connect_1192 : decode cX12_connect 1192 = .ok (.iload 19, 2) := by decide +kernel
theorem dX12_connect_1194 : decode cX12_connect 1194 = .ok (.ifCond .eq 15, 3) := by decide +kernel
theorem dX12_connect_1197 : decode cX12_connect 1197 = .ok (.iconst 3, 1) := by decide +kernel
theorem dX12_connect_1198 : decode cX12_connect 1198 = .ok (.aload_n 0, 1) := by decide +kernel
theorem dX12_connect_1199 : decode cX12_connect 1199 = .ok (.getfield 52, 3) := by decide +kernel
theorem dX12_connect_1202 : decode cX12_connect 1202 = .ok (.iload 18, 2) := by decide +kernel
theorem dX12_connect_1204 : decode cX12_connect 1204 = .ok (.iaload, 1) := by decide +kernel
theorem dX12_connect_1205 : decode cX12_connect 1205 = .ok (.iadd, 1) := by decide +kernel
theorem dX12_connect_1206 : decode cX12_connect 1206 = .ok (.goto 4, 3) := by decide +kernel
theorem dX12_connect_1209 : decode cX12_connect 1209 = .ok (.iconst 0, 1) := by decide +kernel
theorem dX12_connect_1210 : decode cX12_connect 1210 = .ok (.iadd, 1) := by decide +kernel
theorem dX12_connect_1211 : decode cX12_connect 1211 = .ok (.invokevirtual 453, 3) := by decide +kernel
theorem dX12_connect_1214 : decode cX12_connect 1214 = .ok (.aload_n 0, 1) := by decide +kernel
theorem dX12_connect_1215 : decode cX12_connect 1215 = .ok (.bipush 33, 2) := by decide +kernel
theorem dX12_connect_1217 : decode cX12_connect 1217 = .ok (.invokevirtual 453, 3) := by decide +kernel
theorem dX12_connect_1220 : decode cX12_connect 1220 = .ok (.aload_n 0, 1) := by decide +kernel
theorem dX12_connect_1221 : decode cX12_connect 1221 = .ok (.iconst 0, 1) := by decide +kernel
theorem dX12_connect_1222 : decode cX12_connect 1222 = .ok (.invokevirtual 453, 3) := by decide +kernel
theorem dX12_connect_1225 : decode cX12_connect 1225 = .ok (.aload_n 0, 1) := by decide +kernel
theorem dX12_connect_1226 : decode cX12_connect 1226 = .ok (.bipush 8, 2) := by decide +kernel
theorem dX12_connect_1228 : decode cX12_connect 1228 = .ok (.invokevirtual 453, 3) := by decide +kernel
theorem dX12_connect_1231 : decode cX12_connect 1231 = .ok (.aload_n 0, 1) := by decide +kernel
theorem dX12_connect_1232 : decode cX12_connect 1232 = .ok (.bipush 39, 2) := by decide +kernel
theorem dX12_connect_1234 : decode cX12_connect 1234 = .ok (.invokevirtual 453, 3) := by decide +kernel
theorem dX12_connect_1237 : decode cX12_connect 1237 = .ok (.aload_n 0, 1) := by decide +kernel
theorem dX12_connect_1238 : decode cX12_connect 1238 = .ok (.iconst 0, 1) := by decide +kernel
theorem dX12_connect_1239 : decode cX12_connect 1239 = .ok (.invokevirtual 453, 3) := by decide +kernel
theorem dX12_connect_1242 : decode cX12_connect 1242 = .ok (.aload_n 0, 1) := by decide +kernel
theorem dX12_connect_1243 : decode cX12_connect 1243 = .ok (.iconst 0, 1) := by decide +kernel
theorem dX12_connect_1244 : decode cX12_connect 1244 = .ok (.invokevirtual 453, 3) := by decide +kernel
theorem dX12_connect_1247 : decode cX12_connect 1247 = .ok (.aload_n 0, 1) := by decide +kernel
theorem dX12_connect_1248 : decode cX12_connect 1248 = .ok (.iconst 1, 1) := by decide +kernel
theorem dX12_connect_1249 : decode cX12_connect 1249 = .ok (.invokevirtual 453, 3) := by decide +kernel
theorem dX12_connect_1252 : decode cX12_connect 1252 = .ok (.aload_n 0, 1) := by decide +kernel
theorem dX12_connect_1253 : decode cX12_connect 1253 = .ok (.sipush 147, 3) := by decide +kernel
theorem dX12_connect_1256 : decode cX12_connect 1256 = .ok (.invokevirtual 453, 3) := by decide +kernel
theorem dX12_connect_1259 : decode cX12_connect 1259 = .ok (.aload_n 0, 1) := by decide +kernel
theorem dX12_connect_1260 : decode cX12_connect 1260 = .ok (.bipush 34, 2) := by decide +kernel
theorem dX12_connect_1262 : decode cX12_connect 1262 = .ok (.invokevirtual 453, 3) := by decide +kernel
theorem dX12_connect_1265 : decode cX12_connect 1265 = .ok (.aload_n 0, 1) := by decide +kernel
theorem dX12_connect_1266 : decode cX12_connect 1266 = .ok (.iconst 0, 1) := by decide +kernel
theorem dX12_connect_1267 : decode cX12_connect 1267 = .ok (.invokevirtual 453, 3) := by decide +kernel
theorem dX12_connect_1270 : decode cX12_connect 1270 = .ok (.aload_n 0, 1) := by decide +kernel
theorem dX12_connect_1271 : decode cX12_connect 1271 = .ok (.iconst 4, 1) := by decide +kernel
theorem dX12_connect_1272 : decode cX12_connect 1272 = .ok (.invokevirtual 453, 3) := by decide +kernel
theorem dX12_connect_1275 : decode cX12_connect 1275 = .ok (.iload 19, 2) := by decide +kernel
theorem dX12_connect_1277 : decode cX12_connect 1277 = .ok (.ifCond .eq 63, 3) := by decide +kernel
theorem dX12_connect_1280 : decode cX12_connect 1280 = .ok (.aload_n 0, 1) := by decide +kernel
theorem dX12_connect_1281 : decode cX12_connect 1281 = .ok (.bipush 18, 2) := by decide +kernel
theorem dX12_connect_1283 : decode cX12_connect 1283 = .ok (.invokevirtual 453, 3) := by decide +kernel
theorem dX12_connect_1286 : decode cX12_connect 1286 = .ok (.aload_n 0, 1) := by decide +kernel
theorem dX12_connect_1287 : decode cX12_connect 1287 = .ok (.iconst 0, 1) := by decide +kernel
theorem dX12_connect_1288 : decode cX12_connect 1288 = .ok (.invokevirtual 453, 3) := by decide +kernel
theorem dX12_connect_1291 : decode cX12_connect 1291 = .ok (.aload_n 0, 1) := by decide +kernel
theorem dX12_connect_1292 : decode cX12_connect 1292 = .ok (.aload_n 0, 1) := by decide +kernel
theorem dX12_connect_1293 : decode cX12_connect 1293 = .ok (.getfield 52, 3) := by decide +kernel
theorem dX12_connect_1296 : decode cX12_connect 1296 = .ok (.iload 18, 2) := by decide +kernel
theorem dX12_connect_1298 : decode cX12_connect 1298 = .ok (.iaload, 1) := by decide +kernel
theorem dX12_connect_1299 : decode cX12_connect 1299 = .ok (.invokevirtual 453, 3) := by decide +kernel
theorem dX12_connect_1302 : decode cX12_connect 1302 = .ok (.iconst 0, 1) := by decide +kernel
theorem dX12_connect_1303 : decode cX12_connect 1303 = .ok (.istore 21, 2) := by decide +kernel
theorem dX12_connect_1305 : decode cX12_connect 1305 = .ok (.iload 21, 2) := by decide +kernel
theorem dX12_connect_1307 : decode cX12_connect 1307 = .ok (.aload_n 0, 1) := by decide +kernel
theorem dX12_connect_1308 : decode cX12_connect 1308 = .ok (.getfield 52, 3) := by decide +kernel
theorem dX12_connect_1311 : decode cX12_connect 1311 = .ok (.iload 18, 2) := by decide +kernel
theorem dX12_connect_1313 : decode cX12_connect 1313 = .ok (.iaload, 1) := by decide +kernel
theorem dX12_connect_1314 : decode cX12_connect 1314 = .ok (.if_icmp .ge 26, 3) := by decide +kernel
theorem dX12_connect_1317 : decode cX12_connect 1317 = .ok (.aload_n 0, 1) := by decide +kernel
theorem dX12_connect_1318 : decode cX12_connect 1318 = .ok (.aload_n 0, 1) := by decide +kernel
theorem dX12_connect_1319 : decode cX12_connect 1319 = .ok (.getfield 55, 3) := by decide +kernel
theorem dX12_connect_1322 : decode cX12_connect 1322 = .ok (.bipush 20, 2) := by decide +kernel
theorem dX12_connect_1324 : decode cX12_connect 1324 = .ok (.iload 18, 2) := by decide +kernel
theorem dX12_connect_1326 : decode cX12_connect 1326 = .ok (.imul, 1) := by decide +kernel
theorem dX12_connect_1327 : decode cX12_connect 1327 = .ok (.iload 21, 2) := by decide +kernel
theorem dX12_connect_1329 : decode cX12_connect 1329 = .ok (.iadd, 1) := by decide +kernel
theorem dX12_connect_1330 : decode cX12_connect 1330 = .ok (.baload, 1) := by decide +kernel
theorem dX12_connect_1331 : decode cX12_connect 1331 = .ok (.invokevirtual 453, 3) := by decide +kernel
theorem dX12_connect_1334 : decode cX12_connect 1334 = .ok (.iinc 21 1, 3) := by decide +kernel
theorem dX12_connect_1337 : decode cX12_connect 1337 = .ok (.goto (-32), 3) := by decide +kernel
theorem dX12_connect_1340 : decode cX12_connect 1340 = .ok (.aload_n 0, 1) := by decide +kernel
theorem dX12_connect_1341 : decode cX12_connect 1341 = .ok (.aload_n 0, 1) := by decide +kernel
theorem dX12_connect_1342 : decode cX12_connect 1342 = .ok (.getfield 271, 3) := by decide +kernel
theorem dX12_connect_1345 : decode cX12_connect 1345 = .ok (.bipush 32, 2) := by decide +kernel
theorem dX12_connect_1347 : decode cX12_connect 1347 = .ok (.invokevirtual 456, 3) := by decide +kernel
theorem dX12_connect_1350 : decode cX12_connect 1350 = .ok (.aload_n 0, 1) := by decide +kernel
theorem dX12_connect_1351 : decode cX12_connect 1351 = .ok (.iload 18, 2) := by decide +kernel
theorem dX12_connect_1353 : decode cX12_connect 1353 = .ok (.invokevirtual 459, 3) := by decide +kernel
theorem dX12_connect_1356 : decode cX12_connect 1356 = .ok (.aload_n 0, 1) := by decide +kernel
theorem dX12_connect_1357 : decode cX12_connect 1357 = .ok (.iload 18, 2) := by decide +kernel
theorem dX12_connect_1359 : decode cX12_connect 1359 = .ok (.invokevirtual 462, 3) := by decide +kernel
theorem dX12_connect_1362 : decode cX12_connect 1362 = .ok (.return_, 1) := by decide +kernel
theorem dX12_byteOf_0 : decode cX12_byteOf 0 = .ok (.aload_n 0, 1) := by decide +kernel
theorem dX12_byteOf_1 : decode cX12_byteOf 1 = .ok (.getfield 228, 3) := by decide +kernel
theorem dX12_byteOf_4 : decode cX12_byteOf 4 = .ok (.aload_n 0, 1) := by decide +kernel
theorem dX12_byteOf_5 : decode cX12_byteOf 5 = .ok (.dup, 1) := by decide +kernel
theorem dX12_byteOf_6 : decode cX12_byteOf 6 = .ok (.getfield 450, 3) := by decide +kernel
theorem dX12_byteOf_9 : decode cX12_byteOf 9 = .ok (.dup_x1, 1) := by decide +kernel
theorem dX12_byteOf_10 : decode cX12_byteOf 10 = .ok (.iconst 1, 1) := by decide +kernel
theorem dX12_byteOf_11 : decode cX12_byteOf 11 = .ok (.iadd, 1) := by decide +kernel
theorem dX12_byteOf_12 : decode cX12_byteOf 12 = .ok (.putfield 450, 3) := by decide +kernel
theorem dX12_byteOf_15 : decode cX12_byteOf 15 = .ok (.iload_n 1, 1) := by decide +kernel
theorem dX12_byteOf_16 : decode cX12_byteOf 16 = .ok (.i2b, 1) := by decide +kernel
theorem dX12_byteOf_17 : decode cX12_byteOf 17 = .ok (.bastore, 1) := by decide +kernel
theorem dX12_byteOf_18 : decode cX12_byteOf 18 = .ok (.return_, 1) := by decide +kernel
theorem dX12_variableOf_0 : decode cX12_variableOf 0 = .ok (.lload_n 1, 1) := by decide +kernel
theorem dX12_variableOf_1 : decode cX12_variableOf 1 = .ok (.lstore_n 3, 1) := by decide +kernel
theorem dX12_variableOf_2 : decode cX12_variableOf 2 = .ok (.lload_n 3, 1) := by decide +kernel
theorem dX12_variableOf_3 : decode cX12_variableOf 3 = .ok (.ldc2_w 465, 3) := by decide +kernel
theorem dX12_variableOf_6 : decode cX12_variableOf 6 = .ok (.lcmp, 1) := by decide +kernel
theorem dX12_variableOf_7 : decode cX12_variableOf 7 = .ok (.ifCond .le 25, 3) := by decide +kernel
theorem dX12_variableOf_10 : decode cX12_variableOf 10 = .ok (.aload_n 0, 1) := by decide +kernel
theorem dX12_variableOf_11 : decode cX12_variableOf 11 = .ok (.lload_n 3, 1) := by decide +kernel
theorem dX12_variableOf_12 : decode cX12_variableOf 12 = .ok (.ldc2_w 465, 3) := by decide +kernel
theorem dX12_variableOf_15 : decode cX12_variableOf 15 = .ok (.land, 1) := by decide +kernel
theorem dX12_variableOf_16 : decode cX12_variableOf 16 = .ok (.l2i, 1) := by decide +kernel
theorem dX12_variableOf_17 : decode cX12_variableOf 17 = .ok (.sipush 128, 3) := by decide +kernel
theorem dX12_variableOf_20 : decode cX12_variableOf 20 = .ok (.ior, 1) := by decide +kernel
theorem dX12_variableOf_21 : decode cX12_variableOf 21 = .ok (.invokevirtual 453, 3) := by decide +kernel
theorem dX12_variableOf_24 : decode cX12_variableOf 24 = .ok (.lload_n 3, 1) := by decide +kernel
theorem dX12_variableOf_25 : decode cX12_variableOf 25 = .ok (.bipush 7, 2) := by decide +kernel
theorem dX12_variableOf_27 : decode cX12_variableOf 27 = .ok (.lshr, 1) := by decide +kernel
theorem dX12_variableOf_28 : decode cX12_variableOf 28 = .ok (.lstore_n 3, 1) := by decide +kernel
theorem dX12_variableOf_29 : decode cX12_variableOf 29 = .ok (.goto (-27), 3) := by decide +kernel
theorem dX12_variableOf_32 : decode cX12_variableOf 32 = .ok (.aload_n 0, 1) := by decide +kernel
theorem dX12_variableOf_33 : decode cX12_variableOf 33 = .ok (.lload_n 3, 1) := by decide +kernel
theorem dX12_variableOf_34 : decode cX12_variableOf 34 = .ok (.l2i, 1) := by decide +kernel
theorem dX12_variableOf_35 : decode cX12_variableOf 35 = .ok (.invokevirtual 453, 3) := by decide +kernel
theorem dX12_variableOf_38 : decode cX12_variableOf 38 = .ok (.return_, 1) := by decide +kernel
theorem dX12_wrap_0 : decode cX12_wrap 0 = .ok (.aload_n 0, 1) := by decide +kernel
theorem dX12_wrap_1 : decode cX12_wrap 1 = .ok (.iconst 0, 1) := by decide +kernel
theorem dX12_wrap_2 : decode cX12_wrap 2 = .ok (.putfield 306, 3) := by decide +kernel
theorem dX12_wrap_5 : decode cX12_wrap 5 = .ok (.aload_n 0, 1) := by decide +kernel
theorem dX12_wrap_6 : decode cX12_wrap 6 = .ok (.iload_n 1, 1) := by decide +kernel
theorem dX12_wrap_7 : decode cX12_wrap 7 = .ok (.invokevirtual 309, 3) := by decide +kernel
theorem dX12_wrap_10 : decode cX12_wrap 10 = .ok (.aload_n 0, 1) := by decide +kernel
theorem dX12_wrap_11 : decode cX12_wrap 11 = .ok (.getfield 450, 3) := by decide +kernel
theorem dX12_wrap_14 : decode cX12_wrap 14 = .ok (.istore_n 2, 1) := by decide +kernel
theorem dX12_wrap_15 : decode cX12_wrap 15 = .ok (.iload_n 2, 1) := by decide +kernel
theorem dX12_wrap_16 : decode cX12_wrap 16 = .ok (.bipush 127, 2) := by decide +kernel
theorem dX12_wrap_18 : decode cX12_wrap 18 = .ok (.if_icmp .le 23, 3) := by decide +kernel
theorem dX12_wrap_21 : decode cX12_wrap 21 = .ok (.aload_n 0, 1) := by decide +kernel
theorem dX12_wrap_22 : decode cX12_wrap 22 = .ok (.iload_n 2, 1) := by decide +kernel
theorem dX12_wrap_23 : decode cX12_wrap 23 = .ok (.bipush 127, 2) := by decide +kernel
theorem dX12_wrap_25 : decode cX12_wrap 25 = .ok (.iand, 1) := by decide +kernel
theorem dX12_wrap_26 : decode cX12_wrap 26 = .ok (.sipush 128, 3) := by decide +kernel
theorem dX12_wrap_29 : decode cX12_wrap 29 = .ok (.ior, 1) := by decide +kernel
theorem dX12_wrap_30 : decode cX12_wrap 30 = .ok (.invokevirtual 309, 3) := by decide +kernel
theorem dX12_wrap_33 : decode cX12_wrap 33 = .ok (.iload_n 2, 1) := by decide +kernel
theorem dX12_wrap_34 : decode cX12_wrap 34 = .ok (.bipush 7, 2) := by decide +kernel
theorem dX12_wrap_36 : decode cX12_wrap 36 = .ok (.ishr, 1) := by decide +kernel
theorem dX12_wrap_37 : decode cX12_wrap 37 = .ok (.istore_n 2, 1) := by decide +kernel
theorem dX12_wrap_38 : decode cX12_wrap 38 = .ok (.goto (-23), 3) := by decide +kernel
theorem dX12_wrap_41 : decode cX12_wrap 41 = .ok (.aload_n 0, 1) := by decide +kernel
theorem dX12_wrap_42 : decode cX12_wrap 42 = .ok (.iload_n 2, 1) := by decide +kernel
theorem dX12_wrap_43 : decode cX12_wrap 43 = .ok (.invokevirtual 309, 3) := by decide +kernel
theorem dX12_wrap_46 : decode cX12_wrap 46 = .ok (.iconst 0, 1) := by decide +kernel
theorem dX12_wrap_47 : decode cX12_wrap 47 = .ok (.istore_n 3, 1) := by decide +kernel
theorem dX12_wrap_48 : decode cX12_wrap 48 = .ok (.iload_n 3, 1) := by decide +kernel
theorem dX12_wrap_49 : decode cX12_wrap 49 = .ok (.aload_n 0, 1) := by decide +kernel
theorem dX12_wrap_50 : decode cX12_wrap 50 = .ok (.getfield 450, 3) := by decide +kernel
theorem dX12_wrap_53 : decode cX12_wrap 53 = .ok (.if_icmp .ge 31, 3) := by decide +kernel
theorem dX12_wrap_56 : decode cX12_wrap 56 = .ok (.aload_n 0, 1) := by decide +kernel
theorem dX12_wrap_57 : decode cX12_wrap 57 = .ok (.getfield 225, 3) := by decide +kernel
theorem dX12_wrap_60 : decode cX12_wrap 60 = .ok (.aload_n 0, 1) := by decide +kernel
theorem dX12_wrap_61 : decode cX12_wrap 61 = .ok (.dup, 1) := by decide +kernel
theorem dX12_wrap_62 : decode cX12_wrap 62 = .ok (.getfield 306, 3) := by decide +kernel
theorem dX12_wrap_65 : decode cX12_wrap 65 = .ok (.dup_x1, 1) := by decide +kernel
theorem dX12_wrap_66 : decode cX12_wrap 66 = .ok (.iconst 1, 1) := by decide +kernel
theorem dX12_wrap_67 : decode cX12_wrap 67 = .ok (.iadd, 1) := by decide +kernel
theorem dX12_wrap_68 : decode cX12_wrap 68 = .ok (.putfield 306, 3) := by decide +kernel
theorem dX12_wrap_71 : decode cX12_wrap 71 = .ok (.aload_n 0, 1) := by decide +kernel
theorem dX12_wrap_72 : decode cX12_wrap 72 = .ok (.getfield 228, 3) := by decide +kernel
theorem dX12_wrap_75 : decode cX12_wrap 75 = .ok (.iload_n 3, 1) := by decide +kernel
theorem dX12_wrap_76 : decode cX12_wrap 76 = .ok (.baload, 1) := by decide +kernel
theorem dX12_wrap_77 : decode cX12_wrap 77 = .ok (.bastore, 1) := by decide +kernel
theorem dX12_wrap_78 : decode cX12_wrap 78 = .ok (.iinc 3 1, 3) := by decide +kernel
theorem dX12_wrap_81 : decode cX12_wrap 81 = .ok (.goto (-33), 3) := by decide +kernel
theorem dX12_wrap_84 : decode cX12_wrap 84 = .ok (.return_, 1) := by decide +kernel
theorem dX12_sendBody_0 : decode cX12_sendBody 0 = .ok (.aload_n 0, 1) := by decide +kernel
theorem dX12_sendBody_1 : decode cX12_sendBody 1 = .ok (.iload_n 2, 1) := by decide +kernel
theorem dX12_sendBody_2 : decode cX12_sendBody 2 = .ok (.invokevirtual 467, 3) := by decide +kernel
theorem dX12_sendBody_5 : decode cX12_sendBody 5 = .ok (.aload_n 0, 1) := by decide +kernel
theorem dX12_sendBody_6 : decode cX12_sendBody 6 = .ok (.iload_n 1, 1) := by decide +kernel
theorem dX12_sendBody_7 : decode cX12_sendBody 7 = .ok (.invokevirtual 312, 3) := by decide +kernel
theorem dX12_sendBody_10 : decode cX12_sendBody 10 = .ok (.return_, 1) := by decide +kernel
theorem dX12_client_0 : decode cX12_client 0 = .ok (.iconst 0, 1) := by decide +kernel
theorem dX12_client_1 : decode cX12_client 1 = .ok (.istore 4, 2) := by decide +kernel
theorem dX12_client_3 : decode cX12_client 3 = .ok (.iload 4, 2) := by decide +kernel
theorem dX12_client_5 : decode cX12_client 5 = .ok (.bipush 12, 2) := by decide +kernel
theorem dX12_client_7 : decode cX12_client 7 = .ok (.if_icmp .ge 94, 3) := by decide +kernel
theorem dX12_client_10 : decode cX12_client 10 = .ok (.aload_n 0, 1) := by decide +kernel
theorem dX12_client_11 : decode cX12_client 11 = .ok (.getfield 46, 3) := by decide +kernel
theorem dX12_client_14 : decode cX12_client 14 = .ok (.iload 4, 2) := by decide +kernel
theorem dX12_client_16 : decode cX12_client 16 = .ok (.baload, 1) := by decide +kernel
theorem dX12_client_17 : decode cX12_client 17 = .ok (.ifCond .eq 18, 3) := by decide +kernel
theorem dX12_client_20 : decode cX12_client 20 = .ok (.aload_n 0, 1) := by decide +kernel
theorem dX12_client_21 : decode cX12_client 21 = .ok (.getfield 52, 3) := by decide +kernel
theorem dX12_client_24 : decode cX12_client 24 = .ok (.iload 4, 2) := by decide +kernel
theorem dX12_client_26 : decode cX12_client 26 = .ok (.iaload, 1) := by decide +kernel
theorem dX12_client_27 : decode cX12_client 27 = .ok (.iload_n 3, 1) := by decide +kernel
theorem dX12_client_28 : decode cX12_client 28 = .ok (.if_icmp .ne 7, 3) := by decide +kernel
theorem dX12_client_31 : decode cX12_client 31 = .ok (.iconst 1, 1) := by decide +kernel
theorem dX12_client_32 : decode cX12_client 32 = .ok (.goto 4, 3) := by decide +kernel
theorem dX12_client_35 : decode cX12_client 35 = .ok (.iconst 0, 1) := by decide +kernel
theorem dX12_client_36 : decode cX12_client 36 = .ok (.istore 5, 2) := by decide +kernel
theorem dX12_client_38 : decode cX12_client 38 = .ok (.iconst 0, 1) := by decide +kernel
theorem dX12_client_39 : decode cX12_client 39 = .ok (.istore 6, 2) := by decide +kernel
theorem dX12_client_41 : decode cX12_client 41 = .ok (.iload 6, 2) := by decide +kernel
theorem dX12_client_43 : decode cX12_client 43 = .ok (.iload_n 3, 1) := by decide +kernel
theorem dX12_client_44 : decode cX12_client 44 = .ok (.if_icmp .ge 43, 3) := by decide +kernel
theorem dX12_client_47 : decode cX12_client 47 = .ok (.iload 5, 2) := by decide +kernel
theorem dX12_client_49 : decode cX12_client 49 = .ok (.ifCond .eq 38, 3) := by decide +kernel
theorem dX12_client_52 : decode cX12_client 52 = .ok (.aload_n 0, 1) := by decide +kernel
theorem dX12_client_53 : decode cX12_client 53 = .ok (.getfield 55, 3) := by decide +kernel
theorem dX12_client_56 : decode cX12_client 56 = .ok (.bipush 20, 2) := by decide +kernel
theorem dX12_client_58 : decode cX12_client 58 = .ok (.iload 4, 2) := by decide +kernel
theorem dX12_client_60 : decode cX12_client 60 = .ok (.imul, 1) := by decide +kernel
theorem dX12_client_61 : decode cX12_client 61 = .ok (.iload 6, 2) := by decide +kernel
theorem dX12_client_63 : decode cX12_client 63 = .ok (.iadd, 1) := by decide +kernel
theorem dX12_client_64 : decode cX12_client 64 = .ok (.baload, 1) := by decide +kernel
theorem dX12_client_65 : decode cX12_client 65 = .ok (.aload_n 1, 1) := by decide +kernel
theorem dX12_client_66 : decode cX12_client 66 = .ok (.iload_n 2, 1) := by decide +kernel
theorem dX12_client_67 : decode cX12_client 67 = .ok (.iload 6, 2) := by decide +kernel
theorem dX12_client_69 : decode cX12_client 69 = .ok (.iadd, 1) := by decide +kernel
theorem dX12_client_70 : decode cX12_client 70 = .ok (.baload, 1) := by decide +kernel
theorem dX12_client_71 : decode cX12_client 71 = .ok (.if_icmp .ne 7, 3) := by decide +kernel
theorem dX12_client_74 : decode cX12_client 74 = .ok (.iconst 1, 1) := by decide +kernel
theorem dX12_client_75 : decode cX12_client 75 = .ok (.goto 4, 3) := by decide +kernel
theorem dX12_client_78 : decode cX12_client 78 = .ok (.iconst 0, 1) := by decide +kernel
theorem dX12_client_79 : decode cX12_client 79 = .ok (.istore 5, 2) := by decide +kernel
theorem dX12_client_81 : decode cX12_client 81 = .ok (.iinc 6 1, 3) := by decide +kernel
theorem dX12_client_84 : decode cX12_client 84 = .ok (.goto (-43), 3) := by decide +kernel
theorem dX12_client_87 : decode cX12_client 87 = .ok (.iload 5, 2) := by decide +kernel
theorem dX12_client_89 : decode cX12_client 89 = .ok (.ifCond .eq 6, 3) := by decide +kernel
theorem dX12_client_92 : decode cX12_client 92 = .ok (.iload 4, 2) := by decide +kernel
theorem dX12_client_94 : decode cX12_client 94 = .ok (.ireturn, 1) := by decide +kernel
theorem dX12_client_95 : decode cX12_client 95 = .ok (.iinc 4 1, 3) := by decide +kernel
theorem dX12_client_98 : decode cX12_client 98 = .ok (.goto (-95), 3) := by decide +kernel
theorem dX12_client_101 : decode cX12_client 101 = .ok (.iconst (-1), 1) := by decide +kernel
theorem dX12_client_102 : decode cX12_client 102 = .ok (.ireturn, 1) := by decide +kernel
theorem dX12_free_0 : decode cX12_free 0 = .ok (.iconst 0, 1) := by decide +kernel
theorem dX12_free_1 : decode cX12_free 1 = .ok (.istore_n 1, 1) := by decide +kernel
theorem dX12_free_2 : decode cX12_free 2 = .ok (.iload_n 1, 1) := by decide +kernel
theorem dX12_free_3 : decode cX12_free 3 = .ok (.bipush 12, 2) := by decide +kernel
theorem dX12_free_5 : decode cX12_free 5 = .ok (.if_icmp .ge 20, 3) := by decide +kernel
theorem dX12_free_8 : decode cX12_free 8 = .ok (.aload_n 0, 1) := by decide +kernel
theorem dX12_free_9 : decode cX12_free 9 = .ok (.getfield 46, 3) := by decide +kernel
theorem dX12_free_12 : decode cX12_free 12 = .ok (.iload_n 1, 1) := by decide +kernel
theorem dX12_free_13 : decode cX12_free 13 = .ok (.baload, 1) := by decide +kernel
theorem dX12_free_14 : decode cX12_free 14 = .ok (.ifCond .ne 5, 3) := by decide +kernel
theorem dX12_free_17 : decode cX12_free 17 = .ok (.iload_n 1, 1) := by decide +kernel
theorem dX12_free_18 : decode cX12_free 18 = .ok (.ireturn, 1) := by decide +kernel
theorem dX12_free_19 : decode cX12_free 19 = .ok (.iinc 1 1, 3) := by decide +kernel
theorem dX12_free_22 : decode cX12_free 22 = .ok (.goto (-20), 3) := by decide +kernel
theorem dX12_free_25 : decode cX12_free 25 = .ok (.iconst (-1), 1) := by decide +kernel
theorem dX12_free_26 : decode cX12_free 26 = .ok (.ireturn, 1) := by decide +kernel
theorem dX12_name_0 : decode cX12_name 0 = .ok (.aload_n 0, 1) := by decide +kernel
theorem dX12_name_1 : decode cX12_name 1 = .ok (.dup, 1) := by decide +kernel
theorem dX12_name_2 : decode cX12_name 2 = .ok (.getfield 470, 3) := by decide +kernel
theorem dX12_name_5 : decode cX12_name 5 = .ok (.iconst 1, 1) := by decide +kernel
theorem dX12_name_6 : decode cX12_name 6 = .ok (.iadd, 1) := by decide +kernel
theorem dX12_name_7 : decode cX12_name 7 = .ok (.putfield 470, 3) := by decide +kernel
theorem dX12_name_10 : decode cX12_name 10 = .ok (.iconst 0, 1) := by decide +kernel
theorem dX12_name_11 : decode cX12_name 11 = .ok (.istore_n 2, 1) := by decide +kernel
theorem dX12_name_12 : decode cX12_name 12 = .ok (.iload_n 2, 1) := by decide +kernel
theorem dX12_name_13 : decode cX12_name 13 = .ok (.ifCond .ne 203, 3) := by decide +kernel
theorem dX12_name_16 : decode cX12_name 16 = .ok (.aload_n 0, 1) := by decide +kernel
theorem dX12_name_17 : decode cX12_name 17 = .ok (.dup, 1) := by decide +kernel
theorem dX12_name_18 : decode cX12_name 18 = .ok (.getfield 473, 3) := by decide +kernel
theorem dX12_name_21 : decode cX12_name 21 = .ok (.iconst 1, 1) := by decide +kernel
theorem dX12_name_22 : decode cX12_name 22 = .ok (.iadd, 1) := by decide +kernel
theorem dX12_name_23 : decode cX12_name 23 = .ok (.putfield 473, 3) := by decide +kernel
theorem dX12_name_26 : decode cX12_name 26 = .ok (.iconst 1, 1) := by decide +kernel
theorem dX12_name_27 : decode cX12_name 27 = .ok (.istore_n 3, 1) := by decide +kernel
theorem dX12_name_28 : decode cX12_name 28 = .ok (.iconst 1, 1) := by decide +kernel
theorem dX12_name_29 : decode cX12_name 29 = .ok (.istore 4, 2) := by decide +kernel
theorem dX12_name_31 : decode cX12_name 31 = .ok (.aload_n 0, 1) := by decide +kernel
theorem dX12_name_32 : decode cX12_name 32 = .ok (.getfield 473, 3) := by decide +kernel
theorem dX12_name_35 : decode cX12_name 35 = .ok (.iload 4, 2) := by decide +kernel
theorem dX12_name_37 : decode cX12_name 37 = .ok (.idiv, 1) := by decide +kernel
theorem dX12_name_38 : decode cX12_name 38 = .ok (.bipush 9, 2) := by decide +kernel
theorem dX12_name_40 : decode cX12_name 40 = .ok (.if_icmp .le 16, 3) := by decide +kernel
theorem dX12_name_43 : decode cX12_name 43 = .ok (.iload 4, 2) := by decide +kernel
theorem dX12_name_45 : decode cX12_name 45 = .ok (.bipush 10, 2) := by decide +kernel
theorem dX12_name_47 : decode cX12_name 47 = .ok (.imul, 1) := by decide +kernel
theorem dX12_name_48 : decode cX12_name 48 = .ok (.istore 4, 2) := by decide +kernel
theorem dX12_name_50 : decode cX12_name 50 = .ok (.iinc 3 1, 3) := by decide +kernel
theorem dX12_name_53 : decode cX12_name 53 = .ok (.goto (-22), 3) := by decide +kernel
theorem dX12_name_56 : decode cX12_name 56 = .ok (.aload_n 0, 1) := by decide +kernel
theorem dX12_name_57 : decode cX12_name 57 = .ok (.getfield 228, 3) := by decide +kernel
theorem dX12_name_60 : decode cX12_name 60 = .ok (.iconst 0, 1) := by decide +kernel
theorem dX12_name_61 : decode cX12_name 61 = .ok (.bipush 97, 2) := by decide +kernel
theorem dX12_name_63 : decode cX12_name 63 = .ok (.bastore, 1) := by decide +kernel
theorem dX12_name_64 : decode cX12_name 64 = .ok (.aload_n 0, 1) := by decide +kernel
theorem dX12_name_65 : decode cX12_name 65 = .ok (.getfield 228, 3) := by decide +kernel
theorem dX12_name_68 : decode cX12_name 68 = .ok (.iconst 1, 1) := by decide +kernel
theorem dX12_name_69 : decode cX12_name 69 = .ok (.bipush 117, 2) := by decide +kernel
theorem dX12_name_71 : decode cX12_name 71 = .ok (.bastore, 1) := by decide +kernel
theorem dX12_name_72 : decode cX12_name 72 = .ok (.aload_n 0, 1) := by decide +kernel
theorem dX12_name_73 : decode cX12_name 73 = .ok (.getfield 228, 3) := by decide +kernel
theorem dX12_name_76 : decode cX12_name 76 = .ok (.iconst 2, 1) := by decide +kernel
theorem dX12_name_77 : decode cX12_name 77 = .ok (.bipush 116, 2) := by decide +kernel
theorem dX12_name_79 : decode cX12_name 79 = .ok (.bastore, 1) := by decide +kernel
theorem dX12_name_80 : decode cX12_name 80 = .ok (.aload_n 0, 1) := by decide +kernel
theorem dX12_name_81 : decode cX12_name 81 = .ok (.getfield 228, 3) := by decide +kernel
theorem dX12_name_84 : decode cX12_name 84 = .ok (.iconst 3, 1) := by decide +kernel
theorem dX12_name_85 : decode cX12_name 85 = .ok (.bipush 111, 2) := by decide +kernel
theorem dX12_name_87 : decode cX12_name 87 = .ok (.bastore, 1) := by decide +kernel
theorem dX12_name_88 : decode cX12_name 88 = .ok (.iconst 0, 1) := by decide +kernel
theorem dX12_name_89 : decode cX12_name 89 = .ok (.istore 5, 2) := by decide +kernel
theorem dX12_name_91 : decode cX12_name 91 = .ok (.iload 5, 2) := by decide +kernel
theorem dX12_name_93 : decode cX12_name 93 = .ok (.iload_n 3, 1) := by decide +kernel
theorem dX12_name_94 : decode cX12_name 94 = .ok (.if_icmp .ge 39, 3) := by decide +kernel
theorem dX12_name_97 : decode cX12_name 97 = .ok (.aload_n 0, 1) := by decide +kernel
theorem dX12_name_98 : decode cX12_name 98 = .ok (.getfield 228, 3) := by decide +kernel
theorem dX12_name_101 : decode cX12_name 101 = .ok (.iconst 4, 1) := by decide +kernel
theorem dX12_name_102 : decode cX12_name 102 = .ok (.iload 5, 2) := by decide +kernel
theorem dX12_name_104 : decode cX12_name 104 = .ok (.iadd, 1) := by decide +kernel
theorem dX12_name_105 : decode cX12_name 105 = .ok (.bipush 48, 2) := by decide +kernel
theorem dX12_name_107 : decode cX12_name 107 = .ok (.aload_n 0, 1) := by decide +kernel
theorem dX12_name_108 : decode cX12_name 108 = .ok (.getfield 473, 3) := by decide +kernel
theorem dX12_name_111 : decode cX12_name 111 = .ok (.iload 4, 2) := by decide +kernel
theorem dX12_name_113 : decode cX12_name 113 = .ok (.idiv, 1) := by decide +kernel
theorem dX12_name_114 : decode cX12_name 114 = .ok (.bipush 10, 2) := by decide +kernel
theorem dX12_name_116 : decode cX12_name 116 = .ok (.irem, 1) := by decide +kernel
theorem dX12_name_117 : decode cX12_name 117 = .ok (.iadd, 1) := by decide +kernel
theorem dX12_name_118 : decode cX12_name 118 = .ok (.i2b, 1) := by decide +kernel
theorem dX12_name_119 : decode cX12_name 119 = .ok (.bastore, 1) := by decide +kernel
theorem dX12_name_120 : decode cX12_name 120 = .ok (.iload 4, 2) := by decide +kernel
theorem dX12_name_122 : decode cX12_name 122 = .ok (.bipush 10, 2) := by decide +kernel
theorem dX12_name_124 : decode cX12_name 124 = .ok (.idiv, 1) := by decide +kernel
theorem dX12_name_125 : decode cX12_name 125 = .ok (.istore 4, 2) := by decide +kernel
theorem dX12_name_127 : decode cX12_name 127 = .ok (.iinc 5 1, 3) := by decide +kernel
theorem dX12_name_130 : decode cX12_name 130 = .ok (.goto (-39), 3) := by decide +kernel
theorem dX12_name_133 : decode cX12_name 133 = .ok (.aload_n 0, 1) := by decide +kernel
theorem dX12_name_134 : decode cX12_name 134 = .ok (.getfield 46, 3) := by decide +kernel
theorem dX12_name_137 : decode cX12_name 137 = .ok (.iload_n 1, 1) := by decide +kernel
theorem dX12_name_138 : decode cX12_name 138 = .ok (.iconst 0, 1) := by decide +kernel
theorem dX12_name_139 : decode cX12_name 139 = .ok (.bastore, 1) := by decide +kernel
theorem dX12_name_140 : decode cX12_name 140 = .ok (.aload_n 0, 1) := by decide +kernel
theorem dX12_name_141 : decode cX12_name 141 = .ok (.aload_n 0, 1) := by decide +kernel
theorem dX12_name_142 : decode cX12_name 142 = .ok (.getfield 228, 3) := by decide +kernel
theorem dX12_name_145 : decode cX12_name 145 = .ok (.iconst 0, 1) := by decide +kernel
theorem dX12_name_146 : decode cX12_name 146 = .ok (.iconst 4, 1) := by decide +kernel
theorem dX12_name_147 : decode cX12_name 147 = .ok (.iload_n 3, 1) := by decide +kernel
theorem dX12_name_148 : decode cX12_name 148 = .ok (.iadd, 1) := by decide +kernel
theorem dX12_name_149 : decode cX12_name 149 = .ok (.invokevirtual 430, 3) := by decide +kernel
theorem dX12_name_152 : decode cX12_name 152 = .ok (.ifCond .ge 7, 3) := by decide +kernel
theorem dX12_name_155 : decode cX12_name 155 = .ok (.iconst 1, 1) := by decide +kernel
theorem dX12_name_156 : decode cX12_name 156 = .ok (.goto 4, 3) := by decide +kernel
theorem dX12_name_159 : decode cX12_name 159 = .ok (.iconst 0, 1) := by decide +kernel
theorem dX12_name_160 : decode cX12_name 160 = .ok (.istore_n 2, 1) := by decide +kernel
theorem dX12_name_161 : decode cX12_name 161 = .ok (.aload_n 0, 1) := by decide +kernel
theorem dX12_name_162 : decode cX12_name 162 = .ok (.getfield 46, 3) := by decide +kernel
theorem dX12_name_165 : decode cX12_name 165 = .ok (.iload_n 1, 1) := by decide +kernel
theorem dX12_name_166 : decode cX12_name 166 = .ok (.iconst 1, 1) := by decide +kernel
theorem dX12_name_167 : decode cX12_name 167 = .ok (.bastore, 1) := by decide +kernel
theorem dX12_name_168 : decode cX12_name 168 = .ok (.aload_n 0, 1) := by decide +kernel
theorem dX12_name_169 : decode cX12_name 169 = .ok (.getfield 52, 3) := by decide +kernel
theorem dX12_name_172 : decode cX12_name 172 = .ok (.iload_n 1, 1) := by decide +kernel
theorem dX12_name_173 : decode cX12_name 173 = .ok (.iconst 4, 1) := by decide +kernel
theorem dX12_name_174 : decode cX12_name 174 = .ok (.iload_n 3, 1) := by decide +kernel
theorem dX12_name_175 : decode cX12_name 175 = .ok (.iadd, 1) := by decide +kernel
theorem dX12_name_176 : decode cX12_name 176 = .ok (.iastore, 1) := by decide +kernel
theorem dX12_name_177 : decode cX12_name 177 = .ok (.iconst 0, 1) := by decide +kernel
theorem dX12_name_178 : decode cX12_name 178 = .ok (.istore 5, 2) := by decide +kernel
theorem dX12_name_180 : decode cX12_name 180 = .ok (.iload 5, 2) := by decide +kernel
theorem dX12_name_182 : decode cX12_name 182 = .ok (.iconst 4, 1) := by decide +kernel
theorem dX12_name_183 : decode cX12_name 183 = .ok (.iload_n 3, 1) := by decide +kernel
theorem dX12_name_184 : decode cX12_name 184 = .ok (.iadd, 1) := by decide +kernel
theorem dX12_name_185 : decode cX12_name 185 = .ok (.if_icmp .ge 28, 3) := by decide +kernel
theorem dX12_name_188 : decode cX12_name 188 = .ok (.aload_n 0, 1) := by decide +kernel
theorem dX12_name_189 : decode cX12_name 189 = .ok (.getfield 55, 3) := by decide +kernel
theorem dX12_name_192 : decode cX12_name 192 = .ok (.bipush 20, 2) := by decide +kernel
theorem dX12_name_194 : decode cX12_name 194 = .ok (.iload_n 1, 1) := by decide +kernel
theorem dX12_name_195 : decode cX12_name 195 = .ok (.imul, 1) := by decide +kernel
theorem dX12_name_196 : decode cX12_name 196 = .ok (.iload 5, 2) := by decide +kernel
theorem dX12_name_198 : decode cX12_name 198 = .ok (.iadd, 1) := by decide +kernel
theorem dX12_name_199 : decode cX12_name 199 = .ok (.aload_n 0, 1) := by decide +kernel
theorem dX12_name_200 : decode cX12_name 200 = .ok (.getfield 228, 3) := by decide +kernel
theorem dX12_name_203 : decode cX12_name 203 = .ok (.iload 5, 2) := by decide +kernel
theorem dX12_name_205 : decode cX12_name 205 = .ok (.baload, 1) := by decide +kernel
theorem dX12_name_206 : decode cX12_name 206 = .ok (.bastore, 1) := by decide +kernel
theorem dX12_name_207 : decode cX12_name 207 = .ok (.iinc 5 1, 3) := by decide +kernel
theorem dX12_name_210 : decode cX12_name 210 = .ok (.goto (-30), 3) := by decide +kernel
theorem dX12_name_213 : decode cX12_name 213 = .ok (.goto (-201), 3) := by decide +kernel
theorem dX12_name_216 : decode cX12_name 216 = .ok (.return_, 1) := by decide +kernel
theorem dX12_message_0 : decode cX12_message 0 = .ok (.iconst 0, 1) := by decide +kernel
theorem dX12_message_1 : decode cX12_message 1 = .ok (.istore 5, 2) := by decide +kernel
theorem dX12_message_3 : decode cX12_message 3 = .ok (.iload 5, 2) := by decide +kernel
theorem dX12_message_5 : decode cX12_message 5 = .ok (.sipush 640, 3) := by decide +kernel
theorem dX12_message_8 : decode cX12_message 8 = .ok (.if_icmp .ge 17, 3) := by decide +kernel
theorem dX12_message_11 : decode cX12_message 11 = .ok (.aload_n 0, 1) := by decide +kernel
theorem dX12_message_12 : decode cX12_message 12 = .ok (.getfield 204, 3) := by decide +kernel
theorem dX12_message_15 : decode cX12_message 15 = .ok (.iload 5, 2) := by decide +kernel
theorem dX12_message_17 : decode cX12_message 17 = .ok (.iconst 0, 1) := by decide +kernel
theorem dX12_message_18 : decode cX12_message 18 = .ok (.bastore, 1) := by decide +kernel
theorem dX12_message_19 : decode cX12_message 19 = .ok (.iinc 5 1, 3) := by decide +kernel
theorem dX12_message_22 : decode cX12_message 22 = .ok (.goto (-19), 3) := by decide +kernel
theorem dX12_message_25 : decode cX12_message 25 = .ok (.iconst 0, 1) := by decide +kernel
theorem dX12_message_26 : decode cX12_message 26 = .ok (.istore 5, 2) := by decide +kernel
theorem dX12_message_28 : decode cX12_message 28 = .ok (.iload 5, 2) := by decide +kernel
theorem dX12_message_30 : decode cX12_message 30 = .ok (.aload_n 0, 1) := by decide +kernel
theorem dX12_message_31 : decode cX12_message 31 = .ok (.getfield 476, 3) := by decide +kernel
theorem dX12_message_34 : decode cX12_message 34 = .ok (.if_icmp .ge 22, 3) := by decide +kernel
theorem dX12_message_37 : decode cX12_message 37 = .ok (.aload_n 0, 1) := by decide +kernel
theorem dX12_message_38 : decode cX12_message 38 = .ok (.getfield 204, 3) := by decide +kernel
theorem dX12_message_41 : decode cX12_message 41 = .ok (.aload_n 0, 1) := by decide +kernel
theorem dX12_message_42 : decode cX12_message 42 = .ok (.getfield 207, 3) := by decide +kernel
theorem dX12_message_45 : decode cX12_message 45 = .ok (.iload 5, 2) := by decide +kernel
theorem dX12_message_47 : decode cX12_message 47 = .ok (.iaload, 1) := by decide +kernel
theorem dX12_message_48 : decode cX12_message 48 = .ok (.iconst 1, 1) := by decide +kernel
theorem dX12_message_49 : decode cX12_message 49 = .ok (.bastore, 1) := by decide +kernel
theorem dX12_message_50 : decode cX12_message 50 = .ok (.iinc 5 1, 3) := by decide +kernel
theorem dX12_message_53 : decode cX12_message 53 = .ok (.goto (-25), 3) := by decide +kernel
theorem dX12_message_56 : decode cX12_message 56 = .ok (.iconst 0, 1) := by decide +kernel
theorem dX12_message_57 : decode cX12_message 57 = .ok (.istore 5, 2) := by decide +kernel
theorem dX12_message_59 : decode cX12_message 59 = .ok (.iload 5, 2) := by decide +kernel
theorem dX12_message_61 : decode cX12_message 61 = .ok (.bipush 12, 2) := by decide +kernel
theorem dX12_message_63 : decode cX12_message 63 = .ok (.if_icmp .ge 125, 3) := by decide +kernel
theorem dX12_message_66 : decode cX12_message 66 = .ok (.aload_n 0, 1) := by decide +kernel
theorem dX12_message_67 : decode cX12_message 67 = .ok (.getfield 46, 3) := by decide +kernel
theorem dX12_message_70 : decode cX12_message 70 = .ok (.iload 5, 2) := by decide +kernel
theorem dX12_message_72 : decode cX12_message 72 = .ok (.baload, 1) := by decide +kernel
theorem dX12_message_73 : decode cX12_message 73 = .ok (.ifCond .ne 6, 3) := by decide +kernel
theorem dX12_message_76 : decode cX12_message 76 = .ok (.goto 106, 3) := by decide +kernel
theorem dX12_message_79 : decode cX12_message 79 = .ok (.aload_n 0, 1) := by decide +kernel
theorem dX12_message_80 : decode cX12_message 80 = .ok (.getfield 74, 3) := by decide +kernel
theorem dX12_message_83 : decode cX12_message 83 = .ok (.iload 5, 2) := by decide +kernel
theorem dX12_message_85 : decode cX12_message 85 = .ok (.iaload, 1) := by decide +kernel
theorem dX12_message_86 : decode cX12_message 86 = .ok (.ifCond .lt 16, 3) := by decide +kernel
theorem dX12_message_89 : decode cX12_message 89 = .ok (.aload_n 0, 1) := by decide +kernel
theorem dX12_message_90 : decode cX12_message 90 = .ok (.getfield 204, 3) := by decide +kernel
theorem dX12_message_93 : decode cX12_message 93 = .ok (.aload_n 0, 1) := by decide +kernel
theorem dX12_message_94 : decode cX12_message 94 = .ok (.getfield 74, 3) := by decide +kernel
theorem dX12_message_97 : decode cX12_message 97 = .ok (.iload 5, 2) := by decide +kernel
theorem dX12_message_99 : decode cX12_message 99 = .ok (.iaload, 1) := by decide +kernel
theorem dX12_message_100 : decode cX12_message 100 = .ok (.iconst 1, 1) := by decide +kernel
theorem dX12_message_101 : decode cX12_message 101 = .ok (.bastore, 1) := by decide +kernel
theorem dX12_message_102 : decode cX12_message 102 = .ok (.iconst 0, 1) := by decide +kernel
theorem dX12_message_103 : decode cX12_message 103 = .ok (.istore 6, 2) := by decide +kernel
theorem dX12_message_105 : decode cX12_message 105 = .ok (.iload 6, 2) := by decide +kernel
theorem dX12_message_107 : decode cX12_message 107 = .ok (.aload_n 0, 1) := by decide +kernel
theorem dX12_message_108 : decode cX12_message 108 = .ok (.getfield 107, 3) := by decide +kernel
theorem dX12_message_111 : decode cX12_message 111 = .ok (.iload 5, 2) := by decide +kernel
theorem dX12_message_113 : decode cX12_message 113 = .ok (.iaload, 1) := by decide +kernel
theorem dX12_message_114 : decode cX12_message 114 = .ok (.if_icmp .ge 28, 3) := by decide +kernel
theorem dX12_message_117 : decode cX12_message 117 = .ok (.aload_n 0, 1) := by decide +kernel
theorem dX12_message_118 : decode cX12_message 118 = .ok (.getfield 204, 3) := by decide +kernel
theorem dX12_message_121 : decode cX12_message 121 = .ok (.aload_n 0, 1) := by decide +kernel
theorem dX12_message_122 : decode cX12_message 122 = .ok (.getfield 113, 3) := by decide +kernel
theorem dX12_message_125 : decode cX12_message 125 = .ok (.bipush 16, 2) := by decide +kernel
theorem dX12_message_127 : decode cX12_message 127 = .ok (.iload 5, 2) := by decide +kernel
theorem dX12_message_129 : decode cX12_message 129 = .ok (.imul, 1) := by decide +kernel
theorem dX12_message_130 : decode cX12_message 130 = .ok (.iload 6, 2) := by decide +kernel
theorem dX12_message_132 : decode cX12_message 132 = .ok (.iadd, 1) := by decide +kernel
theorem dX12_message_133 : decode cX12_message 133 = .ok (.iaload, 1) := by decide +kernel
theorem dX12_message_134 : decode cX12_message 134 = .ok (.iconst 1, 1) := by decide +kernel
theorem dX12_message_135 : decode cX12_message 135 = .ok (.bastore, 1) := by decide +kernel
theorem dX12_message_136 : decode cX12_message 136 = .ok (.iinc 6 1, 3) := by decide +kernel
theorem dX12_message_139 : decode cX12_message 139 = .ok (.goto (-34), 3) := by decide +kernel
theorem dX12_message_142 : decode cX12_message 142 = .ok (.iconst 0, 1) := by decide +kernel
theorem dX12_message_143 : decode cX12_message 143 = .ok (.istore 6, 2) := by decide +kernel
theorem dX12_message_145 : decode cX12_message 145 = .ok (.iload 6, 2) := by decide +kernel
theorem dX12_message_147 : decode cX12_message 147 = .ok (.aload_n 0, 1) := by decide +kernel
theorem dX12_message_148 : decode cX12_message 148 = .ok (.getfield 128, 3) := by decide +kernel
theorem dX12_message_151 : decode cX12_message 151 = .ok (.iload 5, 2) := by decide +kernel
theorem dX12_message_153 : decode cX12_message 153 = .ok (.iaload, 1) := by decide +kernel
theorem dX12_message_154 : decode cX12_message 154 = .ok (.if_icmp .ge 28, 3) := by decide +kernel
theorem dX12_message_157 : decode cX12_message 157 = .ok (.aload_n 0, 1) := by decide +kernel
theorem dX12_message_158 : decode cX12_message 158 = .ok (.getfield 204, 3) := by decide +kernel
theorem dX12_message_161 : decode cX12_message 161 = .ok (.aload_n 0, 1) := by decide +kernel
theorem dX12_message_162 : decode cX12_message 162 = .ok (.getfield 131, 3) := by decide +kernel
theorem dX12_message_165 : decode cX12_message 165 = .ok (.bipush 24, 2) := by decide +kernel
theorem dX12_message_167 : decode cX12_message 167 = .ok (.iload 5, 2) := by decide +kernel
theorem dX12_message_169 : decode cX12_message 169 = .ok (.imul, 1) := by decide +kernel
theorem dX12_message_170 : decode cX12_message 170 = .ok (.iload 6, 2) := by decide +kernel
theorem dX12_message_172 : decode cX12_message 172 = .ok (.iadd, 1) := by decide +kernel
theorem dX12_message_173 : decode cX12_message 173 = .ok (.iaload, 1) := by decide +kernel
theorem dX12_message_174 : decode cX12_message 174 = .ok (.iconst 1, 1) := by decide +kernel
theorem dX12_message_175 : decode cX12_message 175 = .ok (.bastore, 1) := by decide +kernel
theorem dX12_message_176 : decode cX12_message 176 = .ok (.iinc 6 1, 3) := by decide +kernel
theorem dX12_message_179 : decode cX12_message 179 = .ok (.goto (-34), 3) := by decide +kernel
theorem dX12_message_182 : decode cX12_message 182 = .ok (.iinc 5 1, 3) := by decide +kernel
theorem dX12_message_185 : decode cX12_message 185 = .ok (.goto (-126), 3) := by decide +kernel
theorem dX12_message_188 : decode cX12_message 188 = .ok (.iconst 0, 1) := by decide +kernel
theorem dX12_message_189 : decode cX12_message 189 = .ok (.istore 5, 2) := by decide +kernel
theorem dX12_message_191 : decode cX12_message 191 = .ok (.aload_n 0, 1) := by decide +kernel
theorem dX12_message_192 : decode cX12_message 192 = .ok (.getfield 204, 3) := by decide +kernel
theorem dX12_message_195 : decode cX12_message 195 = .ok (.iload 5, 2) := by decide +kernel
theorem dX12_message_197 : decode cX12_message 197 = .ok (.baload, 1) := by decide +kernel
theorem dX12_message_198 : decode cX12_message 198 = .ok (.ifCond .eq 9, 3) := by decide +kernel
theorem dX12_message_201 : decode cX12_message 201 = .ok (.iinc 5 1, 3) := by decide +kernel
theorem dX12_message_204 : decode cX12_message 204 = .ok (.goto (-13), 3) := by decide +kernel
theorem dX12_message_207 : decode cX12_message 207 = .ok (.sipush 480, 3) := by decide +kernel
theorem dX12_message_210 : decode cX12_message 210 = .ok (.iload 5, 2) := by decide +kernel
theorem dX12_message_212 : decode cX12_message 212 = .ok (.imul, 1) := by decide +kernel
theorem dX12_message_213 : decode cX12_message 213 = .ok (.istore 6, 2) := by decide +kernel
theorem dX12_message_215 : decode cX12_message 215 = .ok (.aload_n 0, 1) := by decide +kernel
theorem dX12_message_216 : decode cX12_message 216 = .ok (.getfield 153, 3) := by decide +kernel
theorem dX12_message_219 : decode cX12_message 219 = .ok (.iload 5, 2) := by decide +kernel
theorem dX12_message_221 : decode cX12_message 221 = .ok (.aload_n 0, 1) := by decide +kernel
theorem dX12_message_222 : decode cX12_message 222 = .ok (.getfield 443, 3) := by decide +kernel
theorem dX12_message_225 : decode cX12_message 225 = .ok (.iastore, 1) := by decide +kernel
theorem dX12_message_226 : decode cX12_message 226 = .ok (.iconst 0, 1) := by decide +kernel
theorem dX12_message_227 : decode cX12_message 227 = .ok (.istore 7, 2) := by decide +kernel
theorem dX12_message_229 : decode cX12_message 229 = .ok (.iload 7, 2) := by decide +kernel
theorem dX12_message_231 : decode cX12_message 231 = .ok (.aload_n 0, 1) := by decide +kernel
theorem dX12_message_232 : decode cX12_message 232 = .ok (.getfield 443, 3) := by decide +kernel
theorem dX12_message_235 : decode cX12_message 235 = .ok (.if_icmp .ge 26, 3) := by decide +kernel
theorem dX12_message_238 : decode cX12_message 238 = .ok (.aload_n 0, 1) := by decide +kernel
theorem dX12_message_239 : decode cX12_message 239 = .ok (.getfield 150, 3) := by decide +kernel
theorem dX12_message_242 : decode cX12_message 242 = .ok (.iload 6, 2) := by decide +kernel
theorem dX12_message_244 : decode cX12_message 244 = .ok (.iinc 6 1, 3) := by decide +kernel
theorem dX12_message_247 : decode cX12_message 247 = .ok (.aload_n 0, 1) := by decide +kernel
theorem dX12_message_248 : decode cX12_message 248 = .ok (.getfield 246, 3) := by decide +kernel
theorem dX12_message_251 : decode cX12_message 251 = .ok (.iload 7, 2) := by decide +kernel
theorem dX12_message_253 : decode cX12_message 253 = .ok (.baload, 1) := by decide +kernel
theorem dX12_message_254 : decode cX12_message 254 = .ok (.bastore, 1) := by decide +kernel
theorem dX12_message_255 : decode cX12_message 255 = .ok (.iinc 7 1, 3) := by decide +kernel
theorem dX12_message_258 : decode cX12_message 258 = .ok (.goto (-29), 3) := by decide +kernel
theorem dX12_message_261 : decode cX12_message 261 = .ok (.aload_n 0, 1) := by decide +kernel
theorem dX12_message_262 : decode cX12_message 262 = .ok (.getfield 156, 3) := by decide +kernel
theorem dX12_message_265 : decode cX12_message 265 = .ok (.iload 5, 2) := by decide +kernel
theorem dX12_message_267 : decode cX12_message 267 = .ok (.iload 6, 2) := by decide +kernel
theorem dX12_message_269 : decode cX12_message 269 = .ok (.iastore, 1) := by decide +kernel
theorem dX12_message_270 : decode cX12_message 270 = .ok (.aload_n 0, 1) := by decide +kernel
theorem dX12_message_271 : decode cX12_message 271 = .ok (.getfield 159, 3) := by decide +kernel
theorem dX12_message_274 : decode cX12_message 274 = .ok (.iload 5, 2) := by decide +kernel
theorem dX12_message_276 : decode cX12_message 276 = .ok (.iload_n 2, 1) := by decide +kernel
theorem dX12_message_277 : decode cX12_message 277 = .ok (.iastore, 1) := by decide +kernel
theorem dX12_message_278 : decode cX12_message 278 = .ok (.aload_n 0, 1) := by decide +kernel
theorem dX12_message_279 : decode cX12_message 279 = .ok (.iload 6, 2) := by decide +kernel
theorem dX12_message_281 : decode cX12_message 281 = .ok (.iload_n 1, 1) := by decide +kernel
theorem dX12_message_282 : decode cX12_message 282 = .ok (.iload_n 2, 1) := by decide +kernel
theorem dX12_message_283 : decode cX12_message 283 = .ok (.invokevirtual 479, 3) := by decide +kernel
theorem dX12_message_286 : decode cX12_message 286 = .ok (.istore 6, 2) := by decide +kernel
theorem dX12_message_288 : decode cX12_message 288 = .ok (.aload_n 0, 1) := by decide +kernel
theorem dX12_message_289 : decode cX12_message 289 = .ok (.getfield 162, 3) := by decide +kernel
theorem dX12_message_292 : decode cX12_message 292 = .ok (.iload 5, 2) := by decide +kernel
theorem dX12_message_294 : decode cX12_message 294 = .ok (.aload_n 0, 1) := by decide +kernel
theorem dX12_message_295 : decode cX12_message 295 = .ok (.getfield 210, 3) := by decide +kernel
theorem dX12_message_298 : decode cX12_message 298 = .ok (.iconst 1, 1) := by decide +kernel
theorem dX12_message_299 : decode cX12_message 299 = .ok (.baload, 1) := by decide +kernel
theorem dX12_message_300 : decode cX12_message 300 = .ok (.ifCond .eq 13, 3) := by decide +kernel
theorem dX12_message_303 : decode cX12_message 303 = .ok (.aload_n 0, 1) := by decide +kernel
theorem dX12_message_304 : decode cX12_message 304 = .ok (.getfield 213, 3) := by decide +kernel
theorem dX12_message_307 : decode cX12_message 307 = .ok (.iconst 1, 1) := by decide +kernel
theorem dX12_message_308 : decode cX12_message 308 = .ok (.laload, 1) := by decide +kernel
theorem dX12_message_309 : decode cX12_message 309 = .ok (.l2i, 1) := by decide +kernel
theorem dX12_message_310 : decode cX12_message 310 = .ok (.goto 4, 3) := by decide +kernel
theorem dX12_message_313 : decode cX12_message 313 = .ok (.iconst (-1), 1) := by decide +kernel
theorem dX12_message_314 : decode cX12_message 314 = .ok (.iastore, 1) := by decide +kernel
theorem dX12_message_315 : decode cX12_message 315 = .ok (.aload_n 0, 1) := by decide +kernel
theorem dX12_message_316 : decode cX12_message 316 = .ok (.getfield 165, 3) := by decide +kernel
theorem dX12_message_319 : decode cX12_message 319 = .ok (.iload 5, 2) := by decide +kernel
theorem dX12_message_321 : decode cX12_message 321 = .ok (.aload_n 0, 1) := by decide +kernel
theorem dX12_message_322 : decode cX12_message 322 = .ok (.getfield 210, 3) := by decide +kernel
theorem dX12_message_325 : decode cX12_message 325 = .ok (.iconst 2, 1) := by decide +kernel
theorem dX12_message_326 : decode cX12_message 326 = .ok (.baload, 1) := by decide +kernel
theorem dX12_message_327 : decode cX12_message 327 = .ok (.ifCond .eq 12, 3) := by decide +kernel
theorem dX12_message_330 : decode cX12_message 330 = .ok (.aload_n 0, 1) := by decide +kernel
theorem dX12_message_331 : decode cX12_message 331 = .ok (.getfield 213, 3) := by decide +kernel
theorem dX12_message_334 : decode cX12_message 334 = .ok (.iconst 2, 1) := by decide +kernel
theorem dX12_message_335 : decode cX12_message 335 = .ok (.laload, 1) := by decide +kernel
theorem dX12_message_336 : decode cX12_message 336 = .ok (.goto 6, 3) := by decide +kernel
theorem dX12_message_339 : decode cX12_message 339 = .ok (.ldc2_w 326, 3) := by decide +kernel
theorem dX12_message_342 : decode cX12_message 342 = .ok (.lastore, 1) := by decide +kernel
theorem dX12_message_343 : decode cX12_message 343 = .ok (.aload_n 0, 1) := by decide +kernel
theorem dX12_message_344 : decode cX12_message 344 = .ok (.getfield 168, 3) := by decide +kernel
theorem dX12_message_347 : decode cX12_message 347 = .ok (.iload 5, 2) := by decide +kernel
theorem dX12_message_349 : decode cX12_message 349 = .ok (.aload_n 0, 1) := by decide +kernel
theorem dX12_message_350 : decode cX12_message 350 = .ok (.getfield 268, 3) := by decide +kernel
theorem dX12_message_353 : decode cX12_message 353 = .ok (.iastore, 1) := by decide +kernel
theorem dX12_message_354 : decode cX12_message 354 = .ok (.aload_n 0, 1) := by decide +kernel
theorem dX12_message_355 : decode cX12_message 355 = .ok (.getfield 171, 3) := by decide +kernel
theorem dX12_message_358 : decode cX12_message 358 = .ok (.iload 5, 2) := by decide +kernel
theorem dX12_message_360 : decode cX12_message 360 = .ok (.iload 6, 2) := by decide +kernel
theorem dX12_message_362 : decode cX12_message 362 = .ok (.iastore, 1) := by decide +kernel
theorem dX12_message_363 : decode cX12_message 363 = .ok (.aload_n 0, 1) := by decide +kernel
theorem dX12_message_364 : decode cX12_message 364 = .ok (.getfield 174, 3) := by decide +kernel
theorem dX12_message_367 : decode cX12_message 367 = .ok (.iload 5, 2) := by decide +kernel
theorem dX12_message_369 : decode cX12_message 369 = .ok (.aload_n 0, 1) := by decide +kernel
theorem dX12_message_370 : decode cX12_message 370 = .ok (.getfield 210, 3) := by decide +kernel
theorem dX12_message_373 : decode cX12_message 373 = .ok (.iconst 3, 1) := by decide +kernel
theorem dX12_message_374 : decode cX12_message 374 = .ok (.baload, 1) := by decide +kernel
theorem dX12_message_375 : decode cX12_message 375 = .ok (.ifCond .eq 12, 3) := by decide +kernel
theorem dX12_message_378 : decode cX12_message 378 = .ok (.aload_n 0, 1) := by decide +kernel
theorem dX12_message_379 : decode cX12_message 379 = .ok (.getfield 219, 3) := by decide +kernel
theorem dX12_message_382 : decode cX12_message 382 = .ok (.iconst 3, 1) := by decide +kernel
theorem dX12_message_383 : decode cX12_message 383 = .ok (.iaload, 1) := by decide +kernel
theorem dX12_message_384 : decode cX12_message 384 = .ok (.goto 4, 3) := by decide +kernel
theorem dX12_message_387 : decode cX12_message 387 = .ok (.iconst (-1), 1) := by decide +kernel
theorem dX12_message_388 : decode cX12_message 388 = .ok (.iastore, 1) := by decide +kernel
theorem dX12_message_389 : decode cX12_message 389 = .ok (.aload_n 0, 1) := by decide +kernel
theorem dX12_message_390 : decode cX12_message 390 = .ok (.getfield 210, 3) := by decide +kernel
theorem dX12_message_393 : decode cX12_message 393 = .ok (.iconst 3, 1) := by decide +kernel
theorem dX12_message_394 : decode cX12_message 394 = .ok (.baload, 1) := by decide +kernel
theorem dX12_message_395 : decode cX12_message 395 = .ok (.ifCond .eq 24, 3) := by decide +kernel
theorem dX12_message_398 : decode cX12_message 398 = .ok (.aload_n 0, 1) := by decide +kernel
theorem dX12_message_399 : decode cX12_message 399 = .ok (.iload 6, 2) := by decide +kernel
theorem dX12_message_401 : decode cX12_message 401 = .ok (.aload_n 0, 1) := by decide +kernel
theorem dX12_message_402 : decode cX12_message 402 = .ok (.getfield 216, 3) := by decide +kernel
theorem dX12_message_405 : decode cX12_message 405 = .ok (.iconst 3, 1) := by decide +kernel
theorem dX12_message_406 : decode cX12_message 406 = .ok (.iaload, 1) := by decide +kernel
theorem dX12_message_407 : decode cX12_message 407 = .ok (.aload_n 0, 1) := by decide +kernel
theorem dX12_message_408 : decode cX12_message 408 = .ok (.getfield 219, 3) := by decide +kernel
theorem dX12_message_411 : decode cX12_message 411 = .ok (.iconst 3, 1) := by decide +kernel
theorem dX12_message_412 : decode cX12_message 412 = .ok (.iaload, 1) := by decide +kernel
theorem dX12_message_413 : decode cX12_message 413 = .ok (.invokevirtual 479, 3) := by decide +kernel
theorem dX12_message_416 : decode cX12_message 416 = .ok (.goto 5, 3) := by decide +kernel
theorem dX12_message_419 : decode cX12_message 419 = .ok (.iload 6, 2) := by decide +kernel
theorem dX12_message_421 : decode cX12_message 421 = .ok (.istore 6, 2) := by decide +kernel
theorem dX12_message_423 : decode cX12_message 423 = .ok (.aload_n 0, 1) := by decide +kernel
theorem dX12_message_424 : decode cX12_message 424 = .ok (.getfield 177, 3) := by decide +kernel
theorem dX12_message_427 : decode cX12_message 427 = .ok (.iload 5, 2) := by decide +kernel
theorem dX12_message_429 : decode cX12_message 429 = .ok (.iload 6, 2) := by decide +kernel
theorem dX12_message_431 : decode cX12_message 431 = .ok (.iastore, 1) := by decide +kernel
theorem dX12_message_432 : decode cX12_message 432 = .ok (.aload_n 0, 1) := by decide +kernel
theorem dX12_message_433 : decode cX12_message 433 = .ok (.getfield 180, 3) := by decide +kernel
theorem dX12_message_436 : decode cX12_message 436 = .ok (.iload 5, 2) := by decide +kernel
