theorem dX12_thrown_0 : decode cX12_thrown 0 = .ok (.aload_n 0, 1) := by decide +kernel
theorem dX12_thrown_1 : decode cX12_thrown 1 = .ok (.getfield 1, 3) := by decide +kernel
theorem dX12_thrown_4 : decode cX12_thrown 4 = .ok (.ireturn, 1) := by decide +kernel
theorem dX12_init_0 : decode cX12_init 0 = .ok (.aload_n 0, 1) := by decide +kernel
theorem dX12_init_1 : decode cX12_init 1 = .ok (.invokespecial 7, 3) := by decide +kernel
theorem dX12_init_4 : decode cX12_init 4 = .ok (.aload_n 0, 1) := by decide +kernel
theorem dX12_init_5 : decode cX12_init 5 = .ok (.bipush 8, 2) := by decide +kernel
theorem dX12_init_7 : decode cX12_init 7 = .ok (.newarray .boolean, 2) := by decide +kernel
theorem dX12_init_9 : decode cX12_init 9 = .ok (.putfield 13, 3) := by decide +kernel
theorem dX12_init_12 : decode cX12_init 12 = .ok (.aload_n 0, 1) := by decide +kernel
theorem dX12_init_13 : decode cX12_init 13 = .ok (.bipush 8, 2) := by decide +kernel
theorem dX12_init_15 : decode cX12_init 15 = .ok (.newarray .boolean, 2) := by decide +kernel
theorem dX12_init_17 : decode cX12_init 17 = .ok (.putfield 17, 3) := by decide +kernel
theorem dX12_init_20 : decode cX12_init 20 = .ok (.aload_n 0, 1) := by decide +kernel
theorem dX12_init_21 : decode cX12_init 21 = .ok (.bipush 8, 2) := by decide +kernel
theorem dX12_init_23 : decode cX12_init 23 = .ok (.newarray .int, 2) := by decide +kernel
theorem dX12_init_25 : decode cX12_init 25 = .ok (.putfield 20, 3) := by decide +kernel
theorem dX12_init_28 : decode cX12_init 28 = .ok (.aload_n 0, 1) := by decide +kernel
theorem dX12_init_29 : decode cX12_init 29 = .ok (.sipush 16000, 3) := by decide +kernel
theorem dX12_init_32 : decode cX12_init 32 = .ok (.newarray .byte, 2) := by decide +kernel
theorem dX12_init_34 : decode cX12_init 34 = .ok (.putfield 24, 3) := by decide +kernel
theorem dX12_init_37 : decode cX12_init 37 = .ok (.aload_n 0, 1) := by decide +kernel
theorem dX12_init_38 : decode cX12_init 38 = .ok (.bipush 8, 2) := by decide +kernel
theorem dX12_init_40 : decode cX12_init 40 = .ok (.newarray .int, 2) := by decide +kernel
theorem dX12_init_42 : decode cX12_init 42 = .ok (.putfield 28, 3) := by decide +kernel
theorem dX12_init_45 : decode cX12_init 45 = .ok (.aload_n 0, 1) := by decide +kernel
theorem dX12_init_46 : decode cX12_init 46 = .ok (.sipush 3280, 3) := by decide +kernel
theorem dX12_init_49 : decode cX12_init 49 = .ok (.newarray .byte, 2) := by decide +kernel
theorem dX12_init_51 : decode cX12_init 51 = .ok (.putfield 31, 3) := by decide +kernel
theorem dX12_init_54 : decode cX12_init 54 = .ok (.aload_n 0, 1) := by decide +kernel
theorem dX12_init_55 : decode cX12_init 55 = .ok (.bipush 8, 2) := by decide +kernel
theorem dX12_init_57 : decode cX12_init 57 = .ok (.newarray .int, 2) := by decide +kernel
theorem dX12_init_59 : decode cX12_init 59 = .ok (.putfield 34, 3) := by decide +kernel
theorem dX12_init_62 : decode cX12_init 62 = .ok (.aload_n 0, 1) := by decide +kernel
theorem dX12_init_63 : decode cX12_init 63 = .ok (.bipush 8, 2) := by decide +kernel
theorem dX12_init_65 : decode cX12_init 65 = .ok (.newarray .int, 2) := by decide +kernel
theorem dX12_init_67 : decode cX12_init 67 = .ok (.putfield 37, 3) := by decide +kernel
theorem dX12_init_70 : decode cX12_init 70 = .ok (.aload_n 0, 1) := by decide +kernel
theorem dX12_init_71 : decode cX12_init 71 = .ok (.bipush 32, 2) := by decide +kernel
theorem dX12_init_73 : decode cX12_init 73 = .ok (.newarray .int, 2) := by decide +kernel
theorem dX12_init_75 : decode cX12_init 75 = .ok (.putfield 40, 3) := by decide +kernel
theorem dX12_init_78 : decode cX12_init 78 = .ok (.aload_n 0, 1) := by decide +kernel
theorem dX12_init_79 : decode cX12_init 79 = .ok (.sipush 2048, 3) := by decide +kernel
theorem dX12_init_82 : decode cX12_init 82 = .ok (.newarray .byte, 2) := by decide +kernel
theorem dX12_init_84 : decode cX12_init 84 = .ok (.putfield 43, 3) := by decide +kernel
theorem dX12_init_87 : decode cX12_init 87 = .ok (.aload_n 0, 1) := by decide +kernel
theorem dX12_init_88 : decode cX12_init 88 = .ok (.bipush 12, 2) := by decide +kernel
theorem dX12_init_90 : decode cX12_init 90 = .ok (.newarray .boolean, 2) := by decide +kernel
theorem dX12_init_92 : decode cX12_init 92 = .ok (.putfield 46, 3) := by decide +kernel
theorem dX12_init_95 : decode cX12_init 95 = .ok (.aload_n 0, 1) := by decide +kernel
theorem dX12_init_96 : decode cX12_init 96 = .ok (.bipush 12, 2) := by decide +kernel
theorem dX12_init_98 : decode cX12_init 98 = .ok (.newarray .int, 2) := by decide +kernel
theorem dX12_init_100 : decode cX12_init 100 = .ok (.putfield 49, 3) := by decide +kernel
theorem dX12_init_103 : decode cX12_init 103 = .ok (.aload_n 0, 1) := by decide +kernel
theorem dX12_init_104 : decode cX12_init 104 = .ok (.bipush 12, 2) := by decide +kernel
theorem dX12_init_106 : decode cX12_init 106 = .ok (.newarray .int, 2) := by decide +kernel
theorem dX12_init_108 : decode cX12_init 108 = .ok (.putfield 52, 3) := by decide +kernel
theorem dX12_init_111 : decode cX12_init 111 = .ok (.aload_n 0, 1) := by decide +kernel
theorem dX12_init_112 : decode cX12_init 112 = .ok (.sipush 240, 3) := by decide +kernel
theorem dX12_init_115 : decode cX12_init 115 = .ok (.newarray .byte, 2) := by decide +kernel
theorem dX12_init_117 : decode cX12_init 117 = .ok (.putfield 55, 3) := by decide +kernel
theorem dX12_init_120 : decode cX12_init 120 = .ok (.aload_n 0, 1) := by decide +kernel
theorem dX12_init_121 : decode cX12_init 121 = .ok (.bipush 12, 2) := by decide +kernel
theorem dX12_init_123 : decode cX12_init 123 = .ok (.newarray .int, 2) := by decide +kernel
theorem dX12_init_125 : decode cX12_init 125 = .ok (.putfield 58, 3) := by decide +kernel
theorem dX12_init_128 : decode cX12_init 128 = .ok (.aload_n 0, 1) := by decide +kernel
theorem dX12_init_129 : decode cX12_init 129 = .ok (.bipush 12, 2) := by decide +kernel
theorem dX12_init_131 : decode cX12_init 131 = .ok (.newarray .long, 2) := by decide +kernel
theorem dX12_init_133 : decode cX12_init 133 = .ok (.putfield 61, 3) := by decide +kernel
theorem dX12_init_136 : decode cX12_init 136 = .ok (.aload_n 0, 1) := by decide +kernel
theorem dX12_init_137 : decode cX12_init 137 = .ok (.bipush 12, 2) := by decide +kernel
theorem dX12_init_139 : decode cX12_init 139 = .ok (.newarray .int, 2) := by decide +kernel
theorem dX12_init_141 : decode cX12_init 141 = .ok (.putfield 65, 3) := by decide +kernel
theorem dX12_init_144 : decode cX12_init 144 = .ok (.aload_n 0, 1) := by decide +kernel
theorem dX12_init_145 : decode cX12_init 145 = .ok (.bipush 12, 2) := by decide +kernel
theorem dX12_init_147 : decode cX12_init 147 = .ok (.newarray .long, 2) := by decide +kernel
theorem dX12_init_149 : decode cX12_init 149 = .ok (.putfield 68, 3) := by decide +kernel
theorem dX12_init_152 : decode cX12_init 152 = .ok (.aload_n 0, 1) := by decide +kernel
theorem dX12_init_153 : decode cX12_init 153 = .ok (.bipush 12, 2) := by decide +kernel
theorem dX12_init_155 : decode cX12_init 155 = .ok (.newarray .int, 2) := by decide +kernel
theorem dX12_init_157 : decode cX12_init 157 = .ok (.putfield 71, 3) := by decide +kernel
theorem dX12_init_160 : decode cX12_init 160 = .ok (.aload_n 0, 1) := by decide +kernel
theorem dX12_init_161 : decode cX12_init 161 = .ok (.bipush 12, 2) := by decide +kernel
theorem dX12_init_163 : decode cX12_init 163 = .ok (.newarray .int, 2) := by decide +kernel
theorem dX12_init_165 : decode cX12_init 165 = .ok (.putfield 74, 3) := by decide +kernel
theorem dX12_init_168 : decode cX12_init 168 = .ok (.aload_n 0, 1) := by decide +kernel
theorem dX12_init_169 : decode cX12_init 169 = .ok (.bipush 12, 2) := by decide +kernel
theorem dX12_init_171 : decode cX12_init 171 = .ok (.newarray .long, 2) := by decide +kernel
theorem dX12_init_173 : decode cX12_init 173 = .ok (.putfield 77, 3) := by decide +kernel
theorem dX12_init_176 : decode cX12_init 176 = .ok (.aload_n 0, 1) := by decide +kernel
theorem dX12_init_177 : decode cX12_init 177 = .ok (.bipush 12, 2) := by decide +kernel
theorem dX12_init_179 : decode cX12_init 179 = .ok (.newarray .long, 2) := by decide +kernel
theorem dX12_init_181 : decode cX12_init 181 = .ok (.putfield 80, 3) := by decide +kernel
theorem dX12_init_184 : decode cX12_init 184 = .ok (.aload_n 0, 1) := by decide +kernel
theorem dX12_init_185 : decode cX12_init 185 = .ok (.bipush 12, 2) := by decide +kernel
theorem dX12_init_187 : decode cX12_init 187 = .ok (.newarray .long, 2) := by decide +kernel
theorem dX12_init_189 : decode cX12_init 189 = .ok (.putfield 83, 3) := by decide +kernel
theorem dX12_init_192 : decode cX12_init 192 = .ok (.aload_n 0, 1) := by decide +kernel
theorem dX12_init_193 : decode cX12_init 193 = .ok (.bipush 12, 2) := by decide +kernel
theorem dX12_init_195 : decode cX12_init 195 = .ok (.newarray .int, 2) := by decide +kernel
theorem dX12_init_197 : decode cX12_init 197 = .ok (.putfield 86, 3) := by decide +kernel
theorem dX12_init_200 : decode cX12_init 200 = .ok (.aload_n 0, 1) := by decide +kernel
theorem dX12_init_201 : decode cX12_init 201 = .ok (.bipush 96, 2) := by decide +kernel
theorem dX12_init_203 : decode cX12_init 203 = .ok (.newarray .int, 2) := by decide +kernel
theorem dX12_init_205 : decode cX12_init 205 = .ok (.putfield 89, 3) := by decide +kernel
theorem dX12_init_208 : decode cX12_init 208 = .ok (.aload_n 0, 1) := by decide +kernel
theorem dX12_init_209 : decode cX12_init 209 = .ok (.sipush 6144, 3) := by decide +kernel
theorem dX12_init_212 : decode cX12_init 212 = .ok (.newarray .byte, 2) := by decide +kernel
theorem dX12_init_214 : decode cX12_init 214 = .ok (.putfield 92, 3) := by decide +kernel
theorem dX12_init_217 : decode cX12_init 217 = .ok (.aload_n 0, 1) := by decide +kernel
theorem dX12_init_218 : decode cX12_init 218 = .ok (.bipush 96, 2) := by decide +kernel
theorem dX12_init_220 : decode cX12_init 220 = .ok (.newarray .int, 2) := by decide +kernel
theorem dX12_init_222 : decode cX12_init 222 = .ok (.putfield 95, 3) := by decide +kernel
theorem dX12_init_225 : decode cX12_init 225 = .ok (.aload_n 0, 1) := by decide +kernel
theorem dX12_init_226 : decode cX12_init 226 = .ok (.bipush 96, 2) := by decide +kernel
theorem dX12_init_228 : decode cX12_init 228 = .ok (.newarray .int, 2) := by decide +kernel
theorem dX12_init_230 : decode cX12_init 230 = .ok (.putfield 98, 3) := by decide +kernel
theorem dX12_init_233 : decode cX12_init 233 = .ok (.aload_n 0, 1) := by decide +kernel
theorem dX12_init_234 : decode cX12_init 234 = .ok (.bipush 96, 2) := by decide +kernel
theorem dX12_init_236 : decode cX12_init 236 = .ok (.newarray .int, 2) := by decide +kernel
theorem dX12_init_238 : decode cX12_init 238 = .ok (.putfield 101, 3) := by decide +kernel
theorem dX12_init_241 : decode cX12_init 241 = .ok (.aload_n 0, 1) := by decide +kernel
theorem dX12_init_242 : decode cX12_init 242 = .ok (.bipush 96, 2) := by decide +kernel
theorem dX12_init_244 : decode cX12_init 244 = .ok (.newarray .int, 2) := by decide +kernel
theorem dX12_init_246 : decode cX12_init 246 = .ok (.putfield 104, 3) := by decide +kernel
theorem dX12_init_249 : decode cX12_init 249 = .ok (.aload_n 0, 1) := by decide +kernel
theorem dX12_init_250 : decode cX12_init 250 = .ok (.bipush 12, 2) := by decide +kernel
theorem dX12_init_252 : decode cX12_init 252 = .ok (.newarray .int, 2) := by decide +kernel
theorem dX12_init_254 : decode cX12_init 254 = .ok (.putfield 107, 3) := by decide +kernel
theorem dX12_init_257 : decode cX12_init 257 = .ok (.aload_n 0, 1) := by decide +kernel
theorem dX12_init_258 : decode cX12_init 258 = .ok (.sipush 192, 3) := by decide +kernel
theorem dX12_init_261 : decode cX12_init 261 = .ok (.newarray .int, 2) := by decide +kernel
theorem dX12_init_263 : decode cX12_init 263 = .ok (.putfield 110, 3) := by decide +kernel
theorem dX12_init_266 : decode cX12_init 266 = .ok (.aload_n 0, 1) := by decide +kernel
theorem dX12_init_267 : decode cX12_init 267 = .ok (.sipush 192, 3) := by decide +kernel
theorem dX12_init_270 : decode cX12_init 270 = .ok (.newarray .int, 2) := by decide +kernel
theorem dX12_init_272 : decode cX12_init 272 = .ok (.putfield 113, 3) := by decide +kernel
theorem dX12_init_275 : decode cX12_init 275 = .ok (.aload_n 0, 1) := by decide +kernel
theorem dX12_init_276 : decode cX12_init 276 = .ok (.sipush 192, 3) := by decide +kernel
theorem dX12_init_279 : decode cX12_init 279 = .ok (.newarray .int, 2) := by decide +kernel
theorem dX12_init_281 : decode cX12_init 281 = .ok (.putfield 116, 3) := by decide +kernel
theorem dX12_init_284 : decode cX12_init 284 = .ok (.aload_n 0, 1) := by decide +kernel
theorem dX12_init_285 : decode cX12_init 285 = .ok (.sipush 192, 3) := by decide +kernel
theorem dX12_init_288 : decode cX12_init 288 = .ok (.newarray .int, 2) := by decide +kernel
theorem dX12_init_290 : decode cX12_init 290 = .ok (.putfield 119, 3) := by decide +kernel
theorem dX12_init_293 : decode cX12_init 293 = .ok (.aload_n 0, 1) := by decide +kernel
theorem dX12_init_294 : decode cX12_init 294 = .ok (.sipush 192, 3) := by decide +kernel
theorem dX12_init_297 : decode cX12_init 297 = .ok (.newarray .int, 2) := by decide +kernel
theorem dX12_init_299 : decode cX12_init 299 = .ok (.putfield 122, 3) := by decide +kernel
theorem dX12_init_302 : decode cX12_init 302 = .ok (.aload_n 0, 1) := by decide +kernel
theorem dX12_init_303 : decode cX12_init 303 = .ok (.sipush 192, 3) := by decide +kernel
theorem dX12_init_306 : decode cX12_init 306 = .ok (.newarray .boolean, 2) := by decide +kernel
theorem dX12_init_308 : decode cX12_init 308 = .ok (.putfield 125, 3) := by decide +kernel
theorem dX12_init_311 : decode cX12_init 311 = .ok (.aload_n 0, 1) := by decide +kernel
theorem dX12_init_312 : decode cX12_init 312 = .ok (.bipush 12, 2) := by decide +kernel
theorem dX12_init_314 : decode cX12_init 314 = .ok (.newarray .int, 2) := by decide +kernel
theorem dX12_init_316 : decode cX12_init 316 = .ok (.putfield 128, 3) := by decide +kernel
theorem dX12_init_319 : decode cX12_init 319 = .ok (.aload_n 0, 1) := by decide +kernel
theorem dX12_init_320 : decode cX12_init 320 = .ok (.sipush 288, 3) := by decide +kernel
theorem dX12_init_323 : decode cX12_init 323 = .ok (.newarray .int, 2) := by decide +kernel
theorem dX12_init_325 : decode cX12_init 325 = .ok (.putfield 131, 3) := by decide +kernel
theorem dX12_init_328 : decode cX12_init 328 = .ok (.aload_n 0, 1) := by decide +kernel
theorem dX12_init_329 : decode cX12_init 329 = .ok (.sipush 288, 3) := by decide +kernel
theorem dX12_init_332 : decode cX12_init 332 = .ok (.newarray .int, 2) := by decide +kernel
theorem dX12_init_334 : decode cX12_init 334 = .ok (.putfield 134, 3) := by decide +kernel
theorem dX12_init_337 : decode cX12_init 337 = .ok (.aload_n 0, 1) := by decide +kernel
theorem dX12_init_338 : decode cX12_init 338 = .ok (.sipush 288, 3) := by decide +kernel
theorem dX12_init_341 : decode cX12_init 341 = .ok (.newarray .int, 2) := by decide +kernel
theorem dX12_init_343 : decode cX12_init 343 = .ok (.putfield 137, 3) := by decide +kernel
theorem dX12_init_346 : decode cX12_init 346 = .ok (.aload_n 0, 1) := by decide +kernel
theorem dX12_init_347 : decode cX12_init 347 = .ok (.sipush 288, 3) := by decide +kernel
theorem dX12_init_350 : decode cX12_init 350 = .ok (.newarray .int, 2) := by decide +kernel
theorem dX12_init_352 : decode cX12_init 352 = .ok (.putfield 140, 3) := by decide +kernel
theorem dX12_init_355 : decode cX12_init 355 = .ok (.aload_n 0, 1) := by decide +kernel
theorem dX12_init_356 : decode cX12_init 356 = .ok (.bipush 12, 2) := by decide +kernel
theorem dX12_init_358 : decode cX12_init 358 = .ok (.newarray .int, 2) := by decide +kernel
theorem dX12_init_360 : decode cX12_init 360 = .ok (.putfield 143, 3) := by decide +kernel
theorem dX12_init_363 : decode cX12_init 363 = .ok (.aload_n 0, 1) := by decide +kernel
theorem dX12_init_364 : decode cX12_init 364 = .ok (.bipush 96, 2) := by decide +kernel
theorem dX12_init_366 : decode cX12_init 366 = .ok (.newarray .int, 2) := by decide +kernel
theorem dX12_init_368 : decode cX12_init 368 = .ok (.putfield 146, 3) := by decide +kernel
theorem dX12_init_371 : decode cX12_init 371 = .ok (.aload_n 0, 1) := by decide +kernel
theorem dX12_init_372 : decode cX12_init 372 = .ok (.ldc 149, 2) := by decide +kernel
theorem dX12_init_374 : decode cX12_init 374 = .ok (.newarray .byte, 2) := by decide +kernel
theorem dX12_init_376 : decode cX12_init 376 = .ok (.putfield 150, 3) := by decide +kernel
theorem dX12_init_379 : decode cX12_init 379 = .ok (.aload_n 0, 1) := by decide +kernel
theorem dX12_init_380 : decode cX12_init 380 = .ok (.sipush 640, 3) := by decide +kernel
theorem dX12_init_383 : decode cX12_init 383 = .ok (.newarray .int, 2) := by decide +kernel
theorem dX12_init_385 : decode cX12_init 385 = .ok (.putfield 153, 3) := by decide +kernel
theorem dX12_init_388 : decode cX12_init 388 = .ok (.aload_n 0, 1) := by decide +kernel
theorem dX12_init_389 : decode cX12_init 389 = .ok (.sipush 640, 3) := by decide +kernel
theorem dX12_init_392 : decode cX12_init 392 = .ok (.newarray .int, 2) := by decide +kernel
theorem dX12_init_394 : decode cX12_init 394 = .ok (.putfield 156, 3) := by decide +kernel
theorem dX12_init_397 : decode cX12_init 397 = .ok (.aload_n 0, 1) := by decide +kernel
theorem dX12_init_398 : decode cX12_init 398 = .ok (.sipush 640, 3) := by decide +kernel
theorem dX12_init_401 : decode cX12_init 401 = .ok (.newarray .int, 2) := by decide +kernel
theorem dX12_init_403 : decode cX12_init 403 = .ok (.putfield 159, 3) := by decide +kernel
theorem dX12_init_406 : decode cX12_init 406 = .ok (.aload_n 0, 1) := by decide +kernel
theorem dX12_init_407 : decode cX12_init 407 = .ok (.sipush 640, 3) := by decide +kernel
theorem dX12_init_410 : decode cX12_init 410 = .ok (.newarray .int, 2) := by decide +kernel
theorem dX12_init_412 : decode cX12_init 412 = .ok (.putfield 162, 3) := by decide +kernel
theorem dX12_init_415 : decode cX12_init 415 = .ok (.aload_n 0, 1) := by decide +kernel
theorem dX12_init_416 : decode cX12_init 416 = .ok (.sipush 640, 3) := by decide +kernel
theorem dX12_init_419 : decode cX12_init 419 = .ok (.newarray .long, 2) := by decide +kernel
theorem dX12_init_421 : decode cX12_init 421 = .ok (.putfield 165, 3) := by decide +kernel
theorem dX12_init_424 : decode cX12_init 424 = .ok (.aload_n 0, 1) := by decide +kernel
theorem dX12_init_425 : decode cX12_init 425 = .ok (.sipush 640, 3) := by decide +kernel
theorem dX12_init_428 : decode cX12_init 428 = .ok (.newarray .int, 2) := by decide +kernel
theorem dX12_init_430 : decode cX12_init 430 = .ok (.putfield 168, 3) := by decide +kernel
theorem dX12_init_433 : decode cX12_init 433 = .ok (.aload_n 0, 1) := by decide +kernel
theorem dX12_init_434 : decode cX12_init 434 = .ok (.sipush 640, 3) := by decide +kernel
theorem dX12_init_437 : decode cX12_init 437 = .ok (.newarray .int, 2) := by decide +kernel
theorem dX12_init_439 : decode cX12_init 439 = .ok (.putfield 171, 3) := by decide +kernel
theorem dX12_init_442 : decode cX12_init 442 = .ok (.aload_n 0, 1) := by decide +kernel
theorem dX12_init_443 : decode cX12_init 443 = .ok (.sipush 640, 3) := by decide +kernel
theorem dX12_init_446 : decode cX12_init 446 = .ok (.newarray .int, 2) := by decide +kernel
theorem dX12_init_448 : decode cX12_init 448 = .ok (.putfield 174, 3) := by decide +kernel
theorem dX12_init_451 : decode cX12_init 451 = .ok (.aload_n 0, 1) := by decide +kernel
theorem dX12_init_452 : decode cX12_init 452 = .ok (.sipush 640, 3) := by decide +kernel
theorem dX12_init_455 : decode cX12_init 455 = .ok (.newarray .int, 2) := by decide +kernel
theorem dX12_init_457 : decode cX12_init 457 = .ok (.putfield 177, 3) := by decide +kernel
theorem dX12_init_460 : decode cX12_init 460 = .ok (.aload_n 0, 1) := by decide +kernel
theorem dX12_init_461 : decode cX12_init 461 = .ok (.sipush 640, 3) := by decide +kernel
theorem dX12_init_464 : decode cX12_init 464 = .ok (.newarray .int, 2) := by decide +kernel
theorem dX12_init_466 : decode cX12_init 466 = .ok (.putfield 180, 3) := by decide +kernel
theorem dX12_init_469 : decode cX12_init 469 = .ok (.aload_n 0, 1) := by decide +kernel
theorem dX12_init_470 : decode cX12_init 470 = .ok (.sipush 640, 3) := by decide +kernel
theorem dX12_init_473 : decode cX12_init 473 = .ok (.newarray .int, 2) := by decide +kernel
theorem dX12_init_475 : decode cX12_init 475 = .ok (.putfield 183, 3) := by decide +kernel
theorem dX12_init_478 : decode cX12_init 478 = .ok (.aload_n 0, 1) := by decide +kernel
theorem dX12_init_479 : decode cX12_init 479 = .ok (.sipush 640, 3) := by decide +kernel
theorem dX12_init_482 : decode cX12_init 482 = .ok (.newarray .int, 2) := by decide +kernel
theorem dX12_init_484 : decode cX12_init 484 = .ok (.putfield 186, 3) := by decide +kernel
theorem dX12_init_487 : decode cX12_init 487 = .ok (.aload_n 0, 1) := by decide +kernel
theorem dX12_init_488 : decode cX12_init 488 = .ok (.sipush 640, 3) := by decide +kernel
theorem dX12_init_491 : decode cX12_init 491 = .ok (.newarray .int, 2) := by decide +kernel
theorem dX12_init_493 : decode cX12_init 493 = .ok (.putfield 189, 3) := by decide +kernel
theorem dX12_init_496 : decode cX12_init 496 = .ok (.aload_n 0, 1) := by decide +kernel
theorem dX12_init_497 : decode cX12_init 497 = .ok (.sipush 640, 3) := by decide +kernel
theorem dX12_init_500 : decode cX12_init 500 = .ok (.newarray .int, 2) := by decide +kernel
theorem dX12_init_502 : decode cX12_init 502 = .ok (.putfield 192, 3) := by decide +kernel
theorem dX12_init_505 : decode cX12_init 505 = .ok (.aload_n 0, 1) := by decide +kernel
theorem dX12_init_506 : decode cX12_init 506 = .ok (.sipush 640, 3) := by decide +kernel
theorem dX12_init_509 : decode cX12_init 509 = .ok (.newarray .int, 2) := by decide +kernel
theorem dX12_init_511 : decode cX12_init 511 = .ok (.putfield 195, 3) := by decide +kernel
theorem dX12_init_514 : decode cX12_init 514 = .ok (.aload_n 0, 1) := by decide +kernel
theorem dX12_init_515 : decode cX12_init 515 = .ok (.sipush 640, 3) := by decide +kernel
theorem dX12_init_518 : decode cX12_init 518 = .ok (.newarray .int, 2) := by decide +kernel
theorem dX12_init_520 : decode cX12_init 520 = .ok (.putfield 198, 3) := by decide +kernel
theorem dX12_init_523 : decode cX12_init 523 = .ok (.aload_n 0, 1) := by decide +kernel
theorem dX12_init_524 : decode cX12_init 524 = .ok (.sipush 640, 3) := by decide +kernel
theorem dX12_init_527 : decode cX12_init 527 = .ok (.newarray .int, 2) := by decide +kernel
theorem dX12_init_529 : decode cX12_init 529 = .ok (.putfield 201, 3) := by decide +kernel
theorem dX12_init_532 : decode cX12_init 532 = .ok (.aload_n 0, 1) := by decide +kernel
theorem dX12_init_533 : decode cX12_init 533 = .ok (.sipush 640, 3) := by decide +kernel
theorem dX12_init_536 : decode cX12_init 536 = .ok (.newarray .boolean, 2) := by decide +kernel
theorem dX12_init_538 : decode cX12_init 538 = .ok (.putfield 204, 3) := by decide +kernel
theorem dX12_init_541 : decode cX12_init 541 = .ok (.aload_n 0, 1) := by decide +kernel
theorem dX12_init_542 : decode cX12_init 542 = .ok (.bipush 16, 2) := by decide +kernel
theorem dX12_init_544 : decode cX12_init 544 = .ok (.newarray .int, 2) := by decide +kernel
theorem dX12_init_546 : decode cX12_init 546 = .ok (.putfield 207, 3) := by decide +kernel
theorem dX12_init_549 : decode cX12_init 549 = .ok (.aload_n 0, 1) := by decide +kernel
theorem dX12_init_550 : decode cX12_init 550 = .ok (.bipush 64, 2) := by decide +kernel
theorem dX12_init_552 : decode cX12_init 552 = .ok (.newarray .boolean, 2) := by decide +kernel
theorem dX12_init_554 : decode cX12_init 554 = .ok (.putfield 210, 3) := by decide +kernel
theorem dX12_init_557 : decode cX12_init 557 = .ok (.aload_n 0, 1) := by decide +kernel
theorem dX12_init_558 : decode cX12_init 558 = .ok (.bipush 64, 2) := by decide +kernel
theorem dX12_init_560 : decode cX12_init 560 = .ok (.newarray .long, 2) := by decide +kernel
theorem dX12_init_562 : decode cX12_init 562 = .ok (.putfield 213, 3) := by decide +kernel
theorem dX12_init_565 : decode cX12_init 565 = .ok (.aload_n 0, 1) := by decide +kernel
theorem dX12_init_566 : decode cX12_init 566 = .ok (.bipush 64, 2) := by decide +kernel
theorem dX12_init_568 : decode cX12_init 568 = .ok (.newarray .int, 2) := by decide +kernel
theorem dX12_init_570 : decode cX12_init 570 = .ok (.putfield 216, 3) := by decide +kernel
theorem dX12_init_573 : decode cX12_init 573 = .ok (.aload_n 0, 1) := by decide +kernel
theorem dX12_init_574 : decode cX12_init 574 = .ok (.bipush 64, 2) := by decide +kernel
theorem dX12_init_576 : decode cX12_init 576 = .ok (.newarray .int, 2) := by decide +kernel
theorem dX12_init_578 : decode cX12_init 578 = .ok (.putfield 219, 3) := by decide +kernel
theorem dX12_init_581 : decode cX12_init 581 = .ok (.aload_n 0, 1) := by decide +kernel
theorem dX12_init_582 : decode cX12_init 582 = .ok (.sipush 410, 3) := by decide +kernel
theorem dX12_init_585 : decode cX12_init 585 = .ok (.newarray .byte, 2) := by decide +kernel
theorem dX12_init_587 : decode cX12_init 587 = .ok (.putfield 222, 3) := by decide +kernel
theorem dX12_init_590 : decode cX12_init 590 = .ok (.aload_n 0, 1) := by decide +kernel
theorem dX12_init_591 : decode cX12_init 591 = .ok (.sipush 1200, 3) := by decide +kernel
theorem dX12_init_594 : decode cX12_init 594 = .ok (.newarray .byte, 2) := by decide +kernel
theorem dX12_init_596 : decode cX12_init 596 = .ok (.putfield 225, 3) := by decide +kernel
theorem dX12_init_599 : decode cX12_init 599 = .ok (.aload_n 0, 1) := by decide +kernel
theorem dX12_init_600 : decode cX12_init 600 = .ok (.sipush 1200, 3) := by decide +kernel
theorem dX12_init_603 : decode cX12_init 603 = .ok (.newarray .byte, 2) := by decide +kernel
theorem dX12_init_605 : decode cX12_init 605 = .ok (.putfield 228, 3) := by decide +kernel
theorem dX12_init_608 : decode cX12_init 608 = .ok (.aload_n 0, 1) := by decide +kernel
theorem dX12_init_609 : decode cX12_init 609 = .ok (.sipush 410, 3) := by decide +kernel
theorem dX12_init_612 : decode cX12_init 612 = .ok (.newarray .int, 2) := by decide +kernel
theorem dX12_init_614 : decode cX12_init 614 = .ok (.putfield 231, 3) := by decide +kernel
theorem dX12_init_617 : decode cX12_init 617 = .ok (.aload_n 0, 1) := by decide +kernel
theorem dX12_init_618 : decode cX12_init 618 = .ok (.sipush 410, 3) := by decide +kernel
theorem dX12_init_621 : decode cX12_init 621 = .ok (.newarray .int, 2) := by decide +kernel
theorem dX12_init_623 : decode cX12_init 623 = .ok (.putfield 234, 3) := by decide +kernel
theorem dX12_init_626 : decode cX12_init 626 = .ok (.aload_n 0, 1) := by decide +kernel
theorem dX12_init_627 : decode cX12_init 627 = .ok (.sipush 410, 3) := by decide +kernel
theorem dX12_init_630 : decode cX12_init 630 = .ok (.newarray .int, 2) := by decide +kernel
theorem dX12_init_632 : decode cX12_init 632 = .ok (.putfield 237, 3) := by decide +kernel
theorem dX12_init_635 : decode cX12_init 635 = .ok (.aload_n 0, 1) := by decide +kernel
theorem dX12_init_636 : decode cX12_init 636 = .ok (.sipush 410, 3) := by decide +kernel
theorem dX12_init_639 : decode cX12_init 639 = .ok (.newarray .int, 2) := by decide +kernel
theorem dX12_init_641 : decode cX12_init 641 = .ok (.putfield 240, 3) := by decide +kernel
theorem dX12_init_644 : decode cX12_init 644 = .ok (.aload_n 0, 1) := by decide +kernel
theorem dX12_init_645 : decode cX12_init 645 = .ok (.sipush 410, 3) := by decide +kernel
theorem dX12_init_648 : decode cX12_init 648 = .ok (.newarray .boolean, 2) := by decide +kernel
theorem dX12_init_650 : decode cX12_init 650 = .ok (.putfield 243, 3) := by decide +kernel
theorem dX12_init_653 : decode cX12_init 653 = .ok (.aload_n 0, 1) := by decide +kernel
theorem dX12_init_654 : decode cX12_init 654 = .ok (.bipush 64, 2) := by decide +kernel
theorem dX12_init_656 : decode cX12_init 656 = .ok (.newarray .byte, 2) := by decide +kernel
theorem dX12_init_658 : decode cX12_init 658 = .ok (.putfield 246, 3) := by decide +kernel
theorem dX12_init_661 : decode cX12_init 661 = .ok (.iconst 0, 1) := by decide +kernel
theorem dX12_init_662 : decode cX12_init 662 = .ok (.istore_n 1, 1) := by decide +kernel
theorem dX12_init_663 : decode cX12_init 663 = .ok (.iload_n 1, 1) := by decide +kernel
theorem dX12_init_664 : decode cX12_init 664 = .ok (.bipush 8, 2) := by decide +kernel
theorem dX12_init_666 : decode cX12_init 666 = .ok (.if_icmp .ge 16, 3) := by decide +kernel
theorem dX12_init_669 : decode cX12_init 669 = .ok (.aload_n 0, 1) := by decide +kernel
theorem dX12_init_670 : decode cX12_init 670 = .ok (.getfield 34, 3) := by decide +kernel
theorem dX12_init_673 : decode cX12_init 673 = .ok (.iload_n 1, 1) := by decide +kernel
theorem dX12_init_674 : decode cX12_init 674 = .ok (.iconst (-1), 1) := by decide +kernel
theorem dX12_init_675 : decode cX12_init 675 = .ok (.iastore, 1) := by decide +kernel
theorem dX12_init_676 : decode cX12_init 676 = .ok (.iinc 1 1, 3) := by decide +kernel
theorem dX12_init_679 : decode cX12_init 679 = .ok (.goto (-16), 3) := by decide +kernel
theorem dX12_init_682 : decode cX12_init 682 = .ok (.return_, 1) := by decide +kernel
theorem dX12_refuses_0 : decode cX12_refuses 0 = .ok (.aload_n 0, 1) := by decide +kernel
theorem dX12_refuses_1 : decode cX12_refuses 1 = .ok (.iload_n 1, 1) := by decide +kernel
theorem dX12_refuses_2 : decode cX12_refuses 2 = .ok (.putfield 1, 3) := by decide +kernel
theorem dX12_refuses_5 : decode cX12_refuses 5 = .ok (.iload_n 1, 1) := by decide +kernel
theorem dX12_refuses_6 : decode cX12_refuses 6 = .ok (.ifCond .eq 7, 3) := by decide +kernel
theorem dX12_refuses_9 : decode cX12_refuses 9 = .ok (.iconst 1, 1) := by decide +kernel
theorem dX12_refuses_10 : decode cX12_refuses 10 = .ok (.goto 4, 3) := by decide +kernel
theorem dX12_refuses_13 : decode cX12_refuses 13 = .ok (.iconst 0, 1) := by decide +kernel
theorem dX12_refuses_14 : decode cX12_refuses 14 = .ok (.ireturn, 1) := by decide +kernel
theorem dX12_isConnection_0 : decode cX12_isConnection 0 = .ok (.iload_n 0, 1) := by decide +kernel
theorem dX12_isConnection_1 : decode cX12_isConnection 1 = .ok (.ifCond .lt 13, 3) := by decide +kernel
theorem dX12_isConnection_4 : decode cX12_isConnection 4 = .ok (.iload_n 0, 1) := by decide +kernel
theorem dX12_isConnection_5 : decode cX12_isConnection 5 = .ok (.bipush 8, 2) := by decide +kernel
theorem dX12_isConnection_7 : decode cX12_isConnection 7 = .ok (.if_icmp .ge 7, 3) := by decide +kernel
theorem dX12_isConnection_10 : decode cX12_isConnection 10 = .ok (.iconst 1, 1) := by decide +kernel
theorem dX12_isConnection_11 : decode cX12_isConnection 11 = .ok (.goto 4, 3) := by decide +kernel
theorem dX12_isConnection_14 : decode cX12_isConnection 14 = .ok (.iconst 0, 1) := by decide +kernel
theorem dX12_isConnection_15 : decode cX12_isConnection 15 = .ok (.ireturn, 1) := by decide +kernel
theorem dX12_hasSession_0 : decode cX12_hasSession 0 = .ok (.iload_n 1, 1) := by decide +kernel
theorem dX12_hasSession_1 : decode cX12_hasSession 1 = .ok (.ifCond .lt 22, 3) := by decide +kernel
theorem dX12_hasSession_4 : decode cX12_hasSession 4 = .ok (.iload_n 1, 1) := by decide +kernel
theorem dX12_hasSession_5 : decode cX12_hasSession 5 = .ok (.bipush 12, 2) := by decide +kernel
theorem dX12_hasSession_7 : decode cX12_hasSession 7 = .ok (.if_icmp .ge 16, 3) := by decide +kernel
theorem dX12_hasSession_10 : decode cX12_hasSession 10 = .ok (.aload_n 0, 1) := by decide +kernel
theorem dX12_hasSession_11 : decode cX12_hasSession 11 = .ok (.getfield 46, 3) := by decide +kernel
theorem dX12_hasSession_14 : decode cX12_hasSession 14 = .ok (.iload_n 1, 1) := by decide +kernel
theorem dX12_hasSession_15 : decode cX12_hasSession 15 = .ok (.baload, 1) := by decide +kernel
theorem dX12_hasSession_16 : decode cX12_hasSession 16 = .ok (.ifCond .eq 7, 3) := by decide +kernel
theorem dX12_hasSession_19 : decode cX12_hasSession 19 = .ok (.iconst 1, 1) := by decide +kernel
theorem dX12_hasSession_20 : decode cX12_hasSession 20 = .ok (.goto 4, 3) := by decide +kernel
theorem dX12_hasSession_23 : decode cX12_hasSession 23 = .ok (.iconst 0, 1) := by decide +kernel
theorem dX12_hasSession_24 : decode cX12_hasSession 24 = .ok (.ireturn, 1) := by decide +kernel
theorem dX12_open_0 : decode cX12_open 0 = .ok (.aload_n 0, 1) := by decide +kernel
theorem dX12_open_1 : decode cX12_open 1 = .ok (.iload_n 1, 1) := by decide +kernel
theorem dX12_open_2 : decode cX12_open 2 = .ok (.invokestatic 249, 3) := by decide +kernel
theorem dX12_open_5 : decode cX12_open 5 = .ok (.ifCond .ne 7, 3) := by decide +kernel
theorem dX12_open_8 : decode cX12_open 8 = .ok (.iconst 1, 1) := by decide +kernel
theorem dX12_open_9 : decode cX12_open 9 = .ok (.goto 17, 3) := by decide +kernel
theorem dX12_open_12 : decode cX12_open 12 = .ok (.aload_n 0, 1) := by decide +kernel
theorem dX12_open_13 : decode cX12_open 13 = .ok (.getfield 13, 3) := by decide +kernel
theorem dX12_open_16 : decode cX12_open 16 = .ok (.iload_n 1, 1) := by decide +kernel
theorem dX12_open_17 : decode cX12_open 17 = .ok (.baload, 1) := by decide +kernel
theorem dX12_open_18 : decode cX12_open 18 = .ok (.ifCond .eq 7, 3) := by decide +kernel
theorem dX12_open_21 : decode cX12_open 21 = .ok (.iconst 2, 1) := by decide +kernel
theorem dX12_open_22 : decode cX12_open 22 = .ok (.goto 4, 3) := by decide +kernel
theorem dX12_open_25 : decode cX12_open 25 = .ok (.iconst 0, 1) := by decide +kernel
theorem dX12_open_26 : decode cX12_open 26 = .ok (.invokevirtual 253, 3) := by decide +kernel
theorem dX12_open_29 : decode cX12_open 29 = .ok (.ifCond .eq 4, 3) := by decide +kernel
theorem dX12_open_32 : decode cX12_open 32 = .ok (.return_, 1) := by decide +kernel
theorem dX12_open_33 : decode cX12_open 33 = .ok (.aload_n 0, 1) := by decide +kernel
theorem dX12_open_34 : decode cX12_open 34 = .ok (.getfield 13, 3) := by decide +kernel
theorem dX12_open_37 : decode cX12_open 37 = .ok (.iload_n 1, 1) := by decide +kernel
theorem dX12_open_38 : decode cX12_open 38 = .ok (.iconst 1, 1) := by decide +kernel
theorem dX12_open_39 : decode cX12_open 39 = .ok (.bastore, 1) := by decide +kernel
theorem dX12_open_40 : decode cX12_open 40 = .ok (.aload_n 0, 1) := by decide +kernel
theorem dX12_open_41 : decode cX12_open 41 = .ok (.getfield 17, 3) := by decide +kernel
theorem dX12_open_44 : decode cX12_open 44 = .ok (.iload_n 1, 1) := by decide +kernel
theorem dX12_open_45 : decode cX12_open 45 = .ok (.iconst 0, 1) := by decide +kernel
theorem dX12_open_46 : decode cX12_open 46 = .ok (.bastore, 1) := by decide +kernel
theorem dX12_open_47 : decode cX12_open 47 = .ok (.aload_n 0, 1) := by decide +kernel
theorem dX12_open_48 : decode cX12_open 48 = .ok (.getfield 20, 3) := by decide +kernel
theorem dX12_open_51 : decode cX12_open 51 = .ok (.iload_n 1, 1) := by decide +kernel
theorem dX12_open_52 : decode cX12_open 52 = .ok (.iconst 0, 1) := by decide +kernel
theorem dX12_open_53 : decode cX12_open 53 = .ok (.iastore, 1) := by decide +kernel
theorem dX12_open_54 : decode cX12_open 54 = .ok (.aload_n 0, 1) := by decide +kernel
theorem dX12_open_55 : decode cX12_open 55 = .ok (.getfield 28, 3) := by decide +kernel
theorem dX12_open_58 : decode cX12_open 58 = .ok (.iload_n 1, 1) := by decide +kernel
theorem dX12_open_59 : decode cX12_open 59 = .ok (.iconst 0, 1) := by decide +kernel
theorem dX12_open_60 : decode cX12_open 60 = .ok (.iastore, 1) := by decide +kernel
theorem dX12_open_61 : decode cX12_open 61 = .ok (.aload_n 0, 1) := by decide +kernel
theorem dX12_open_62 : decode cX12_open 62 = .ok (.getfield 34, 3) := by decide +kernel
theorem dX12_open_65 : decode cX12_open 65 = .ok (.iload_n 1, 1) := by decide +kernel
theorem dX12_open_66 : decode cX12_open 66 = .ok (.iconst (-1), 1) := by decide +kernel
theorem dX12_open_67 : decode cX12_open 67 = .ok (.iastore, 1) := by decide +kernel
theorem dX12_open_68 : decode cX12_open 68 = .ok (.iconst 0, 1) := by decide +kernel
theorem dX12_open_69 : decode cX12_open 69 = .ok (.istore_n 2, 1) := by decide +kernel
theorem dX12_open_70 : decode cX12_open 70 = .ok (.iload_n 2, 1) := by decide +kernel
theorem dX12_open_71 : decode cX12_open 71 = .ok (.iconst 4, 1) := by decide +kernel
theorem dX12_open_72 : decode cX12_open 72 = .ok (.if_icmp .ge 20, 3) := by decide +kernel
theorem dX12_open_75 : decode cX12_open 75 = .ok (.aload_n 0, 1) := by decide +kernel
theorem dX12_open_76 : decode cX12_open 76 = .ok (.getfield 40, 3) := by decide +kernel
theorem dX12_open_79 : decode cX12_open 79 = .ok (.iconst 4, 1) := by decide +kernel
theorem dX12_open_80 : decode cX12_open 80 = .ok (.iload_n 1, 1) := by decide +kernel
theorem dX12_open_81 : decode cX12_open 81 = .ok (.imul, 1) := by decide +kernel
theorem dX12_open_82 : decode cX12_open 82 = .ok (.iload_n 2, 1) := by decide +kernel
theorem dX12_open_83 : decode cX12_open 83 = .ok (.iadd, 1) := by decide +kernel
theorem dX12_open_84 : decode cX12_open 84 = .ok (.iconst 0, 1) := by decide +kernel
theorem dX12_open_85 : decode cX12_open 85 = .ok (.iastore, 1) := by decide +kernel
theorem dX12_open_86 : decode cX12_open 86 = .ok (.iinc 2 1, 3) := by decide +kernel
theorem dX12_open_89 : decode cX12_open 89 = .ok (.goto (-19), 3) := by decide +kernel
theorem dX12_open_92 : decode cX12_open 92 = .ok (.return_, 1) := by decide +kernel
theorem dX12_feed_0 : decode cX12_feed 0 = .ok (.aload_n 0, 1) := by decide +kernel
theorem dX12_feed_1 : decode cX12_feed 1 = .ok (.iload_n 1, 1) := by decide +kernel
theorem dX12_feed_2 : decode cX12_feed 2 = .ok (.invokestatic 249, 3) := by decide +kernel
theorem dX12_feed_5 : decode cX12_feed 5 = .ok (.ifCond .ne 7, 3) := by decide +kernel
theorem dX12_feed_8 : decode cX12_feed 8 = .ok (.iconst 1, 1) := by decide +kernel
theorem dX12_feed_9 : decode cX12_feed 9 = .ok (.goto 34, 3) := by decide +kernel
theorem dX12_feed_12 : decode cX12_feed 12 = .ok (.iload 6, 2) := by decide +kernel
theorem dX12_feed_14 : decode cX12_feed 14 = .ok (.iconst 1, 1) := by decide +kernel
theorem dX12_feed_15 : decode cX12_feed 15 = .ok (.if_icmp .lt 10, 3) := by decide +kernel
theorem dX12_feed_18 : decode cX12_feed 18 = .ok (.iload 6, 2) := by decide +kernel
theorem dX12_feed_20 : decode cX12_feed 20 = .ok (.bipush 16, 2) := by decide +kernel
theorem dX12_feed_22 : decode cX12_feed 22 = .ok (.if_icmp .le 7, 3) := by decide +kernel
theorem dX12_feed_25 : decode cX12_feed 25 = .ok (.iconst 2, 1) := by decide +kernel
theorem dX12_feed_26 : decode cX12_feed 26 = .ok (.goto 17, 3) := by decide +kernel
theorem dX12_feed_29 : decode cX12_feed 29 = .ok (.aload_n 0, 1) := by decide +kernel
theorem dX12_feed_30 : decode cX12_feed 30 = .ok (.getfield 13, 3) := by decide +kernel
theorem dX12_feed_33 : decode cX12_feed 33 = .ok (.iload_n 1, 1) := by decide +kernel
theorem dX12_feed_34 : decode cX12_feed 34 = .ok (.baload, 1) := by decide +kernel
theorem dX12_feed_35 : decode cX12_feed 35 = .ok (.ifCond .ne 7, 3) := by decide +kernel
theorem dX12_feed_38 : decode cX12_feed 38 = .ok (.iconst 3, 1) := by decide +kernel
theorem dX12_feed_39 : decode cX12_feed 39 = .ok (.goto 4, 3) := by decide +kernel
theorem dX12_feed_42 : decode cX12_feed 42 = .ok (.iconst 0, 1) := by decide +kernel
theorem dX12_feed_43 : decode cX12_feed 43 = .ok (.invokevirtual 253, 3) := by decide +kernel
theorem dX12_feed_46 : decode cX12_feed 46 = .ok (.ifCond .eq 5, 3) := by decide +kernel
theorem dX12_feed_49 : decode cX12_feed 49 = .ok (.iconst 0, 1) := by decide +kernel
theorem dX12_feed_50 : decode cX12_feed 50 = .ok (.ireturn, 1) := by decide +kernel
theorem dX12_feed_51 : decode cX12_feed 51 = .ok (.iconst 0, 1) := by decide +kernel
theorem dX12_feed_52 : decode cX12_feed 52 = .ok (.istore 7, 2) := by decide +kernel
theorem dX12_feed_54 : decode cX12_feed 54 = .ok (.iconst 0, 1) := by decide +kernel
theorem dX12_feed_55 : decode cX12_feed 55 = .ok (.istore 8, 2) := by decide +kernel
theorem dX12_feed_57 : decode cX12_feed 57 = .ok (.iload 8, 2) := by decide +kernel
theorem dX12_feed_59 : decode cX12_feed 59 = .ok (.iload 6, 2) := by decide +kernel
theorem dX12_feed_61 : decode cX12_feed 61 = .ok (.if_icmp .ge 87, 3) := by decide +kernel
theorem dX12_feed_64 : decode cX12_feed 64 = .ok (.aload_n 0, 1) := by decide +kernel
theorem dX12_feed_65 : decode cX12_feed 65 = .ok (.getfield 13, 3) := by decide +kernel
theorem dX12_feed_68 : decode cX12_feed 68 = .ok (.iload_n 1, 1) := by decide +kernel
theorem dX12_feed_69 : decode cX12_feed 69 = .ok (.baload, 1) := by decide +kernel
theorem dX12_feed_70 : decode cX12_feed 70 = .ok (.ifCond .eq 78, 3) := by decide +kernel
theorem dX12_feed_73 : decode cX12_feed 73 = .ok (.aload_n 0, 1) := by decide +kernel
theorem dX12_feed_74 : decode cX12_feed 74 = .ok (.getfield 31, 3) := by decide +kernel
theorem dX12_feed_77 : decode cX12_feed 77 = .ok (.sipush 410, 3) := by decide +kernel
theorem dX12_feed_80 : decode cX12_feed 80 = .ok (.iload_n 1, 1) := by decide +kernel
theorem dX12_feed_81 : decode cX12_feed 81 = .ok (.imul, 1) := by decide +kernel
theorem dX12_feed_82 : decode cX12_feed 82 = .ok (.aload_n 0, 1) := by decide +kernel
theorem dX12_feed_83 : decode cX12_feed 83 = .ok (.getfield 28, 3) := by decide +kernel
theorem dX12_feed_86 : decode cX12_feed 86 = .ok (.iload_n 1, 1) := by decide +kernel
theorem dX12_feed_87 : decode cX12_feed 87 = .ok (.iaload, 1) := by decide +kernel
theorem dX12_feed_88 : decode cX12_feed 88 = .ok (.iadd, 1) := by decide +kernel
theorem dX12_feed_89 : decode cX12_feed 89 = .ok (.iload 8, 2) := by decide +kernel
theorem dX12_feed_91 : decode cX12_feed 91 = .ok (.bipush 8, 2) := by decide +kernel
theorem dX12_feed_93 : decode cX12_feed 93 = .ok (.if_icmp .ge 7, 3) := by decide +kernel
theorem dX12_feed_96 : decode cX12_feed 96 = .ok (.lload_n 2, 1) := by decide +kernel
theorem dX12_feed_97 : decode cX12_feed 97 = .ok (.goto 5, 3) := by decide +kernel
theorem dX12_feed_100 : decode cX12_feed 100 = .ok (.lload 4, 2) := by decide +kernel
theorem dX12_feed_102 : decode cX12_feed 102 = .ok (.bipush 8, 2) := by decide +kernel
theorem dX12_feed_104 : decode cX12_feed 104 = .ok (.iload 8, 2) := by decide +kernel
theorem dX12_feed_106 : decode cX12_feed 106 = .ok (.bipush 8, 2) := by decide +kernel
theorem dX12_feed_108 : decode cX12_feed 108 = .ok (.irem, 1) := by decide +kernel
theorem dX12_feed_109 : decode cX12_feed 109 = .ok (.imul, 1) := by decide +kernel
theorem dX12_feed_110 : decode cX12_feed 110 = .ok (.lushr, 1) := by decide +kernel
theorem dX12_feed_111 : decode cX12_feed 111 = .ok (.l2i, 1) := by decide +kernel
theorem dX12_feed_112 : decode cX12_feed 112 = .ok (.i2b, 1) := by decide +kernel
theorem dX12_feed_113 : decode cX12_feed 113 = .ok (.bastore, 1) := by decide +kernel
theorem dX12_feed_114 : decode cX12_feed 114 = .ok (.aload_n 0, 1) := by decide +kernel
theorem dX12_feed_115 : decode cX12_feed 115 = .ok (.getfield 28, 3) := by decide +kernel
theorem dX12_feed_118 : decode cX12_feed 118 = .ok (.iload_n 1, 1) := by decide +kernel
theorem dX12_feed_119 : decode cX12_feed 119 = .ok (.dup2, 1) := by decide +kernel
theorem dX12_feed_120 : decode cX12_feed 120 = .ok (.iaload, 1) := by decide +kernel
theorem dX12_feed_121 : decode cX12_feed 121 = .ok (.iconst 1, 1) := by decide +kernel
theorem dX12_feed_122 : decode cX12_feed 122 = .ok (.iadd, 1) := by decide +kernel
theorem dX12_feed_123 : decode cX12_feed 123 = .ok (.iastore, 1) := by decide +kernel
theorem dX12_feed_124 : decode cX12_feed 124 = .ok (.iload 7, 2) := by decide +kernel
theorem dX12_feed_126 : decode cX12_feed 126 = .ok (.aload_n 0, 1) := by decide +kernel
theorem dX12_feed_127 : decode cX12_feed 127 = .ok (.iload_n 1, 1) := by decide +kernel
theorem dX12_feed_128 : decode cX12_feed 128 = .ok (.invokevirtual 256, 3) := by decide +kernel
theorem dX12_feed_131 : decode cX12_feed 131 = .ok (.ifCond .eq 7, 3) := by decide +kernel
theorem dX12_feed_134 : decode cX12_feed 134 = .ok (.iconst 1, 1) := by decide +kernel
theorem dX12_feed_135 : decode cX12_feed 135 = .ok (.goto 4, 3) := by decide +kernel
theorem dX12_feed_138 : decode cX12_feed 138 = .ok (.iconst 0, 1) := by decide +kernel
theorem dX12_feed_139 : decode cX12_feed 139 = .ok (.iadd, 1) := by decide +kernel
theorem dX12_feed_140 : decode cX12_feed 140 = .ok (.istore 7, 2) := by decide +kernel
theorem dX12_feed_142 : decode cX12_feed 142 = .ok (.iinc 8 1, 3) := by decide +kernel
theorem dX12_feed_145 : decode cX12_feed 145 = .ok (.goto (-88), 3) := by decide +kernel
theorem dX12_feed_148 : decode cX12_feed 148 = .ok (.iload 7, 2) := by decide +kernel
theorem dX12_feed_150 : decode cX12_feed 150 = .ok (.ireturn, 1) := by decide +kernel
theorem dX12_look_0 : decode cX12_look 0 = .ok (.sipush 410, 3) := by decide +kernel
theorem dX12_look_3 : decode cX12_look 3 = .ok (.iload_n 1, 1) := by decide +kernel
theorem dX12_look_4 : decode cX12_look 4 = .ok (.imul, 1) := by decide +kernel
theorem dX12_look_5 : decode cX12_look 5 = .ok (.istore_n 2, 1) := by decide +kernel
theorem dX12_look_6 : decode cX12_look 6 = .ok (.lconst 0, 1) := by decide +kernel
theorem dX12_look_7 : decode cX12_look 7 = .ok (.lstore_n 3, 1) := by decide +kernel
theorem dX12_look_8 : decode cX12_look 8 = .ok (.iconst 0, 1) := by decide +kernel
theorem dX12_look_9 : decode cX12_look 9 = .ok (.istore 5, 2) := by decide +kernel
theorem dX12_look_11 : decode cX12_look 11 = .ok (.iconst 0, 1) := by decide +kernel
theorem dX12_look_12 : decode cX12_look 12 = .ok (.istore 6, 2) := by decide +kernel
theorem dX12_look_14 : decode cX12_look 14 = .ok (.iload 5, 2) := by decide +kernel
theorem dX12_look_16 : decode cX12_look 16 = .ok (.iconst 4, 1) := by decide +kernel
theorem dX12_look_17 : decode cX12_look 17 = .ok (.if_icmp .ge 74, 3) := by decide +kernel
theorem dX12_look_20 : decode cX12_look 20 = .ok (.iconst 1, 1) := by decide +kernel
theorem dX12_look_21 : decode cX12_look 21 = .ok (.iload 5, 2) := by decide +kernel
theorem dX12_look_23 : decode cX12_look 23 = .ok (.iadd, 1) := by decide +kernel
theorem dX12_look_24 : decode cX12_look 24 = .ok (.aload_n 0, 1) := by decide +kernel
theorem dX12_look_25 : decode cX12_look 25 = .ok (.getfield 28, 3) := by decide +kernel
theorem dX12_look_28 : decode cX12_look 28 = .ok (.iload_n 1, 1) := by decide +kernel
theorem dX12_look_29 : decode cX12_look 29 = .ok (.iaload, 1) := by decide +kernel
theorem dX12_look_30 : decode cX12_look 30 = .ok (.if_icmp .ge 61, 3) := by decide +kernel
theorem dX12_look_33 : decode cX12_look 33 = .ok (.iload 6, 2) := by decide +kernel
theorem dX12_look_35 : decode cX12_look 35 = .ok (.ifCond .ne 56, 3) := by decide +kernel
theorem dX12_look_38 : decode cX12_look 38 = .ok (.aload_n 0, 1) := by decide +kernel
theorem dX12_look_39 : decode cX12_look 39 = .ok (.getfield 31, 3) := by decide +kernel
theorem dX12_look_42 : decode cX12_look 42 = .ok (.iload_n 2, 1) := by decide +kernel
theorem dX12_look_43 : decode cX12_look 43 = .ok (.iconst 1, 1) := by decide +kernel
theorem dX12_look_44 : decode cX12_look 44 = .ok (.iadd, 1) := by decide +kernel
theorem dX12_look_45 : decode cX12_look 45 = .ok (.iload 5, 2) := by decide +kernel
theorem dX12_look_47 : decode cX12_look 47 = .ok (.iadd, 1) := by decide +kernel
theorem dX12_look_48 : decode cX12_look 48 = .ok (.baload, 1) := by decide +kernel
theorem dX12_look_49 : decode cX12_look 49 = .ok (.sipush 255, 3) := by decide +kernel
theorem dX12_look_52 : decode cX12_look 52 = .ok (.iand, 1) := by decide +kernel
theorem dX12_look_53 : decode cX12_look 53 = .ok (.istore 7, 2) := by decide +kernel
theorem dX12_look_55 : decode cX12_look 55 = .ok (.lload_n 3, 1) := by decide +kernel
theorem dX12_look_56 : decode cX12_look 56 = .ok (.iload 7, 2) := by decide +kernel
theorem dX12_look_58 : decode cX12_look 58 = .ok (.bipush 127, 2) := by decide +kernel
theorem dX12_look_60 : decode cX12_look 60 = .ok (.iand, 1) := by decide +kernel
theorem dX12_look_61 : decode cX12_look 61 = .ok (.i2l, 1) := by decide +kernel
theorem dX12_look_62 : decode cX12_look 62 = .ok (.bipush 7, 2) := by decide +kernel
theorem dX12_look_64 : decode cX12_look 64 = .ok (.iload 5, 2) := by decide +kernel
theorem dX12_look_66 : decode cX12_look 66 = .ok (.imul, 1) := by decide +kernel
theorem dX12_look_67 : decode cX12_look 67 = .ok (.lshl, 1) := by decide +kernel
theorem dX12_look_68 : decode cX12_look 68 = .ok (.lor, 1) := by decide +kernel
theorem dX12_look_69 : decode cX12_look 69 = .ok (.lstore_n 3, 1) := by decide +kernel
theorem dX12_look_70 : decode cX12_look 70 = .ok (.iinc 5 1, 3) := by decide +kernel
theorem dX12_look_73 : decode cX12_look 73 = .ok (.iload 7, 2) := by decide +kernel
theorem dX12_look_75 : decode cX12_look 75 = .ok (.sipush 128, 3) := by decide +kernel
theorem dX12_look_78 : decode cX12_look 78 = .ok (.if_icmp .ge 7, 3) := by decide +kernel
theorem dX12_look_81 : decode cX12_look 81 = .ok (.iconst 1, 1) := by decide +kernel
theorem dX12_look_82 : decode cX12_look 82 = .ok (.goto 4, 3) := by decide +kernel
theorem dX12_look_85 : decode cX12_look 85 = .ok (.iconst 0, 1) := by decide +kernel
theorem dX12_look_86 : decode cX12_look 86 = .ok (.istore 6, 2) := by decide +kernel
theorem dX12_look_88 : decode cX12_look 88 = .ok (.goto (-74), 3) := by decide +kernel
theorem dX12_look_91 : decode cX12_look 91 = .ok (.iload 6, 2) := by decide +kernel
theorem dX12_look_93 : decode cX12_look 93 = .ok (.ifCond .ne 19, 3) := by decide +kernel
theorem dX12_look_96 : decode cX12_look 96 = .ok (.iload 5, 2) := by decide +kernel
theorem dX12_look_98 : decode cX12_look 98 = .ok (.iconst 4, 1) := by decide +kernel
theorem dX12_look_99 : decode cX12_look 99 = .ok (.if_icmp .ne 11, 3) := by decide +kernel
theorem dX12_look_102 : decode cX12_look 102 = .ok (.aload_n 0, 1) := by decide +kernel
theorem dX12_look_103 : decode cX12_look 103 = .ok (.iload_n 1, 1) := by decide +kernel
theorem dX12_look_104 : decode cX12_look 104 = .ok (.sipush 129, 3) := by decide +kernel
theorem dX12_look_107 : decode cX12_look 107 = .ok (.invokevirtual 259, 3) := by decide +kernel
theorem dX12_look_110 : decode cX12_look 110 = .ok (.iconst 0, 1) := by decide +kernel
theorem dX12_look_111 : decode cX12_look 111 = .ok (.ireturn, 1) := by decide +kernel
theorem dX12_look_112 : decode cX12_look 112 = .ok (.lload_n 3, 1) := by decide +kernel
theorem dX12_look_113 : decode cX12_look 113 = .ok (.ldc2_w 263, 3) := by decide +kernel
theorem dX12_look_116 : decode cX12_look 116 = .ok (.lcmp, 1) := by decide +kernel
theorem dX12_look_117 : decode cX12_look 117 = .ok (.ifCond .le 13, 3) := by decide +kernel
theorem dX12_look_120 : decode cX12_look 120 = .ok (.aload_n 0, 1) := by decide +kernel
theorem dX12_look_121 : decode cX12_look 121 = .ok (.iload_n 1, 1) := by decide +kernel
theorem dX12_look_122 : decode cX12_look 122 = .ok (.sipush 149, 3) := by decide +kernel
theorem dX12_look_125 : decode cX12_look 125 = .ok (.invokevirtual 259, 3) := by decide +kernel
theorem dX12_look_128 : decode cX12_look 128 = .ok (.iconst 0, 1) := by decide +kernel
theorem dX12_look_129 : decode cX12_look 129 = .ok (.ireturn, 1) := by decide +kernel
theorem dX12_look_130 : decode cX12_look 130 = .ok (.aload_n 0, 1) := by decide +kernel
theorem dX12_look_131 : decode cX12_look 131 = .ok (.getfield 28, 3) := by decide +kernel
theorem dX12_look_134 : decode cX12_look 134 = .ok (.iload_n 1, 1) := by decide +kernel
theorem dX12_look_135 : decode cX12_look 135 = .ok (.iaload, 1) := by decide +kernel
theorem dX12_look_136 : decode cX12_look 136 = .ok (.i2l, 1) := by decide +kernel
theorem dX12_look_137 : decode cX12_look 137 = .ok (.iconst 1, 1) := by decide +kernel
theorem dX12_look_138 : decode cX12_look 138 = .ok (.iload 5, 2) := by decide +kernel
theorem dX12_look_140 : decode cX12_look 140 = .ok (.iadd, 1) := by decide +kernel
theorem dX12_look_141 : decode cX12_look 141 = .ok (.i2l, 1) := by decide +kernel
theorem dX12_look_142 : decode cX12_look 142 = .ok (.lload_n 3, 1) := by decide +kernel
theorem dX12_look_143 : decode cX12_look 143 = .ok (.ladd, 1) := by decide +kernel
theorem dX12_look_144 : decode cX12_look 144 = .ok (.lcmp, 1) := by decide +kernel
theorem dX12_look_145 : decode cX12_look 145 = .ok (.ifCond .ge 5, 3) := by decide +kernel
theorem dX12_look_148 : decode cX12_look 148 = .ok (.iconst 0, 1) := by decide +kernel
theorem dX12_look_149 : decode cX12_look 149 = .ok (.ireturn, 1) := by decide +kernel
theorem dX12_look_150 : decode cX12_look 150 = .ok (.aload_n 0, 1) := by decide +kernel
theorem dX12_look_151 : decode cX12_look 151 = .ok (.dup, 1) := by decide +kernel
theorem dX12_look_152 : decode cX12_look 152 = .ok (.getfield 265, 3) := by decide +kernel
theorem dX12_look_155 : decode cX12_look 155 = .ok (.iconst 1, 1) := by decide +kernel
theorem dX12_look_156 : decode cX12_look 156 = .ok (.iadd, 1) := by decide +kernel
theorem dX12_look_157 : decode cX12_look 157 = .ok (.putfield 265, 3) := by decide +kernel
theorem dX12_look_160 : decode cX12_look 160 = .ok (.aload_n 0, 1) := by decide +kernel
theorem dX12_look_161 : decode cX12_look 161 = .ok (.getfield 37, 3) := by decide +kernel
theorem dX12_look_164 : decode cX12_look 164 = .ok (.iload_n 1, 1) := by decide +kernel
theorem dX12_look_165 : decode cX12_look 165 = .ok (.aload_n 0, 1) := by decide +kernel
theorem dX12_look_166 : decode cX12_look 166 = .ok (.getfield 268, 3) := by decide +kernel
theorem dX12_look_169 : decode cX12_look 169 = .ok (.iastore, 1) := by decide +kernel
theorem dX12_look_170 : decode cX12_look 170 = .ok (.aload_n 0, 1) := by decide +kernel
theorem dX12_look_171 : decode cX12_look 171 = .ok (.iload_n 1, 1) := by decide +kernel
theorem dX12_look_172 : decode cX12_look 172 = .ok (.putfield 271, 3) := by decide +kernel
theorem dX12_look_175 : decode cX12_look 175 = .ok (.aload_n 0, 1) := by decide +kernel
theorem dX12_look_176 : decode cX12_look 176 = .ok (.iload_n 2, 1) := by decide +kernel
theorem dX12_look_177 : decode cX12_look 177 = .ok (.iconst 1, 1) := by decide +kernel
theorem dX12_look_178 : decode cX12_look 178 = .ok (.iadd, 1) := by decide +kernel
theorem dX12_look_179 : decode cX12_look 179 = .ok (.iload 5, 2) := by decide +kernel
theorem dX12_look_181 : decode cX12_look 181 = .ok (.iadd, 1) := by decide +kernel
theorem dX12_look_182 : decode cX12_look 182 = .ok (.putfield 274, 3) := by decide +kernel
theorem dX12_look_185 : decode cX12_look 185 = .ok (.aload_n 0, 1) := by decide +kernel
theorem dX12_look_186 : decode cX12_look 186 = .ok (.iload_n 2, 1) := by decide +kernel
theorem dX12_look_187 : decode cX12_look 187 = .ok (.aload_n 0, 1) := by decide +kernel
theorem dX12_look_188 : decode cX12_look 188 = .ok (.getfield 28, 3) := by decide +kernel
theorem dX12_look_191 : decode cX12_look 191 = .ok (.iload_n 1, 1) := by decide +kernel
theorem dX12_look_192 : decode cX12_look 192 = .ok (.iaload, 1) := by decide +kernel
theorem dX12_look_193 : decode cX12_look 193 = .ok (.iadd, 1) := by decide +kernel
theorem dX12_look_194 : decode cX12_look 194 = .ok (.putfield 277, 3) := by decide +kernel
theorem dX12_look_197 : decode cX12_look 197 = .ok (.aload_n 0, 1) := by decide +kernel
theorem dX12_look_198 : decode cX12_look 198 = .ok (.aload_n 0, 1) := by decide +kernel
theorem dX12_look_199 : decode cX12_look 199 = .ok (.getfield 277, 3) := by decide +kernel
theorem dX12_look_202 : decode cX12_look 202 = .ok (.putfield 280, 3) := by decide +kernel
theorem dX12_look_205 : decode cX12_look 205 = .ok (.aload_n 0, 1) := by decide +kernel
theorem dX12_look_206 : decode cX12_look 206 = .ok (.iconst 0, 1) := by decide +kernel
theorem dX12_look_207 : decode cX12_look 207 = .ok (.putfield 283, 3) := by decide +kernel
theorem dX12_look_210 : decode cX12_look 210 = .ok (.aload_n 0, 1) := by decide +kernel
theorem dX12_look_211 : decode cX12_look 211 = .ok (.invokevirtual 286, 3) := by decide +kernel
theorem dX12_look_214 : decode cX12_look 214 = .ok (.aload_n 0, 1) := by decide +kernel
theorem dX12_look_215 : decode cX12_look 215 = .ok (.getfield 13, 3) := by decide +kernel
theorem dX12_look_218 : decode cX12_look 218 = .ok (.iload_n 1, 1) := by decide +kernel
theorem dX12_look_219 : decode cX12_look 219 = .ok (.baload, 1) := by decide +kernel
theorem dX12_look_220 : decode cX12_look 220 = .ok (.ifCond .eq 19, 3) := by decide +kernel
theorem dX12_look_223 : decode cX12_look 223 = .ok (.aload_n 0, 1) := by decide +kernel
theorem dX12_look_224 : decode cX12_look 224 = .ok (.getfield 283, 3) := by decide +kernel
theorem dX12_look_227 : decode cX12_look 227 = .ok (.ifCond .eq 12, 3) := by decide +kernel
theorem dX12_look_230 : decode cX12_look 230 = .ok (.aload_n 0, 1) := by decide +kernel
theorem dX12_look_231 : decode cX12_look 231 = .ok (.iload_n 1, 1) := by decide +kernel
theorem dX12_look_232 : decode cX12_look 232 = .ok (.aload_n 0, 1) := by decide +kernel
theorem dX12_look_233 : decode cX12_look 233 = .ok (.getfield 283, 3) := by decide +kernel
theorem dX12_look_236 : decode cX12_look 236 = .ok (.invokevirtual 289, 3) := by decide +kernel
theorem dX12_look_239 : decode cX12_look 239 = .ok (.aload_n 0, 1) := by decide +kernel
theorem dX12_look_240 : decode cX12_look 240 = .ok (.getfield 28, 3) := by decide +kernel
theorem dX12_look_243 : decode cX12_look 243 = .ok (.iload_n 1, 1) := by decide +kernel
theorem dX12_look_244 : decode cX12_look 244 = .ok (.iconst 0, 1) := by decide +kernel
theorem dX12_look_245 : decode cX12_look 245 = .ok (.iastore, 1) := by decide +kernel
theorem dX12_look_246 : decode cX12_look 246 = .ok (.aload_n 0, 1) := by decide +kernel
theorem dX12_look_247 : decode cX12_look 247 = .ok (.invokevirtual 292, 3) := by decide +kernel
theorem dX12_look_250 : decode cX12_look 250 = .ok (.iconst 1, 1) := by decide +kernel
theorem dX12_look_251 : decode cX12_look 251 = .ok (.ireturn, 1) := by decide +kernel
theorem dX12_wrong_0 : decode cX12_wrong 0 = .ok (.aload_n 0, 1) := by decide +kernel
theorem dX12_wrong_1 : decode cX12_wrong 1 = .ok (.iload_n 1, 1) := by decide +kernel
theorem dX12_wrong_2 : decode cX12_wrong 2 = .ok (.iload_n 2, 1) := by decide +kernel
theorem dX12_wrong_3 : decode cX12_wrong 3 = .ok (.invokevirtual 289, 3) := by decide +kernel
theorem dX12_wrong_6 : decode cX12_wrong 6 = .ok (.aload_n 0, 1) := by decide +kernel
theorem dX12_wrong_7 : decode cX12_wrong 7 = .ok (.invokevirtual 292, 3) := by decide +kernel
theorem dX12_wrong_10 : decode cX12_wrong 10 = .ok (.return_, 1) := by decide +kernel
theorem dX12_fail_0 : decode cX12_fail 0 = .ok (.aload_n 0, 1) := by decide +kernel
theorem dX12_fail_1 : decode cX12_fail 1 = .ok (.getfield 31, 3) := by decide +kernel
theorem dX12_fail_4 : decode cX12_fail 4 = .ok (.sipush 410, 3) := by decide +kernel
theorem dX12_fail_7 : decode cX12_fail 7 = .ok (.iload_n 1, 1) := by decide +kernel
theorem dX12_fail_8 : decode cX12_fail 8 = .ok (.imul, 1) := by decide +kernel
theorem dX12_fail_9 : decode cX12_fail 9 = .ok (.baload, 1) := by decide +kernel
theorem dX12_fail_10 : decode cX12_fail 10 = .ok (.iconst 4, 1) := by decide +kernel
theorem dX12_fail_11 : decode cX12_fail 11 = .ok (.ishr, 1) := by decide +kernel
theorem dX12_fail_12 : decode cX12_fail 12 = .ok (.bipush 15, 2) := by decide +kernel
theorem dX12_fail_14 : decode cX12_fail 14 = .ok (.iand, 1) := by decide +kernel
theorem dX12_fail_15 : decode cX12_fail 15 = .ok (.istore_n 3, 1) := by decide +kernel
theorem dX12_fail_16 : decode cX12_fail 16 = .ok (.aload_n 0, 1) := by decide +kernel
theorem dX12_fail_17 : decode cX12_fail 17 = .ok (.getfield 34, 3) := by decide +kernel
theorem dX12_fail_20 : decode cX12_fail 20 = .ok (.iload_n 1, 1) := by decide +kernel
theorem dX12_fail_21 : decode cX12_fail 21 = .ok (.iaload, 1) := by decide +kernel
theorem dX12_fail_22 : decode cX12_fail 22 = .ok (.ifCond .lt 18, 3) := by decide +kernel
theorem dX12_fail_25 : decode cX12_fail 25 = .ok (.aload_n 0, 1) := by decide +kernel
theorem dX12_fail_26 : decode cX12_fail 26 = .ok (.iload_n 1, 1) := by decide +kernel
theorem dX12_fail_27 : decode cX12_fail 27 = .ok (.sipush 224, 3) := by decide +kernel
theorem dX12_fail_30 : decode cX12_fail 30 = .ok (.iconst 2, 1) := by decide +kernel
theorem dX12_fail_31 : decode cX12_fail 31 = .ok (.iload_n 2, 1) := by decide +kernel
theorem dX12_fail_32 : decode cX12_fail 32 = .ok (.iconst 0, 1) := by decide +kernel
theorem dX12_fail_33 : decode cX12_fail 33 = .ok (.iconst 4, 1) := by decide +kernel
theorem dX12_fail_34 : decode cX12_fail 34 = .ok (.invokevirtual 295, 3) := by decide +kernel
theorem dX12_fail_37 : decode cX12_fail 37 = .ok (.goto 14, 3) := by decide +kernel
theorem dX12_fail_40 : decode cX12_fail 40 = .ok (.iload_n 3, 1) := by decide +kernel
theorem dX12_fail_41 : decode cX12_fail 41 = .ok (.iconst 1, 1) := by decide +kernel
theorem dX12_fail_42 : decode cX12_fail 42 = .ok (.if_icmp .ne 9, 3) := by decide +kernel
theorem dX12_fail_45 : decode cX12_fail 45 = .ok (.aload_n 0, 1) := by decide +kernel
theorem dX12_fail_46 : decode cX12_fail 46 = .ok (.iload_n 1, 1) := by decide +kernel
theorem dX12_fail_47 : decode cX12_fail 47 = .ok (.iload_n 2, 1) := by decide +kernel
theorem dX12_fail_48 : decode cX12_fail 48 = .ok (.invokevirtual 299, 3) := by decide +kernel
theorem dX12_fail_51 : decode cX12_fail 51 = .ok (.aload_n 0, 1) := by decide +kernel
theorem dX12_fail_52 : decode cX12_fail 52 = .ok (.iload_n 1, 1) := by decide +kernel
theorem dX12_fail_53 : decode cX12_fail 53 = .ok (.invokevirtual 302, 3) := by decide +kernel
theorem dX12_fail_56 : decode cX12_fail 56 = .ok (.return_, 1) := by decide +kernel
theorem dX12_connackFault_0 : decode cX12_connackFault 0 = .ok (.aload_n 0, 1) := by decide +kernel
theorem dX12_connackFault_1 : decode cX12_connackFault 1 = .ok (.iconst 0, 1) := by decide +kernel
theorem dX12_connackFault_2 : decode cX12_connackFault 2 = .ok (.putfield 306, 3) := by decide +kernel
theorem dX12_connackFault_5 : decode cX12_connackFault 5 = .ok (.aload_n 0, 1) := by decide +kernel
theorem dX12_connackFault_6 : decode cX12_connackFault 6 = .ok (.bipush 32, 2) := by decide +kernel
theorem dX12_connackFault_8 : decode cX12_connackFault 8 = .ok (.invokevirtual 309, 3) := by decide +kernel
theorem dX12_connackFault_11 : decode cX12_connackFault 11 = .ok (.aload_n 0, 1) := by decide +kernel
theorem dX12_connackFault_12 : decode cX12_connackFault 12 = .ok (.iconst 3, 1) := by decide +kernel
theorem dX12_connackFault_13 : decode cX12_connackFault 13 = .ok (.invokevirtual 309, 3) := by decide +kernel
theorem dX12_connackFault_16 : decode cX12_connackFault 16 = .ok (.aload_n 0, 1) := by decide +kernel
theorem dX12_connackFault_17 : decode cX12_connackFault 17 = .ok (.iconst 0, 1) := by decide +kernel
theorem dX12_connackFault_18 : decode cX12_connackFault 18 = .ok (.invokevirtual 309, 3) := by decide +kernel
theorem dX12_connackFault_21 : decode cX12_connackFault 21 = .ok (.aload_n 0, 1) := by decide +kernel
theorem dX12_connackFault_22 : decode cX12_connackFault 22 = .ok (.iload_n 2, 1) := by decide +kernel
theorem dX12_connackFault_23 : decode cX12_connackFault 23 = .ok (.invokevirtual 309, 3) := by decide +kernel
theorem dX12_connackFault_26 : decode cX12_connackFault 26 = .ok (.aload_n 0, 1) := by decide +kernel
theorem dX12_connackFault_27 : decode cX12_connackFault 27 = .ok (.iconst 0, 1) := by decide +kernel
theorem dX12_connackFault_28 : decode cX12_connackFault 28 = .ok (.invokevirtual 309, 3) := by decide +kernel
theorem dX12_connackFault_31 : decode cX12_connackFault 31 = .ok (.aload_n 0, 1) := by decide +kernel
theorem dX12_connackFault_32 : decode cX12_connackFault 32 = .ok (.iload_n 1, 1) := by decide +kernel
theorem dX12_connackFault_33 : decode cX12_connackFault 33 = .ok (.invokevirtual 312, 3) := by decide +kernel
theorem dX12_connackFault_36 : decode cX12_connackFault 36 = .ok (.return_, 1) := by decide +kernel
theorem dX12_short4_0 : decode cX12_short4 0 = .ok (.aload_n 0, 1) := by decide +kernel
theorem dX12_short4_1 : decode cX12_short4 1 = .ok (.iconst 0, 1) := by decide +kernel
theorem dX12_short4_2 : decode cX12_short4 2 = .ok (.putfield 306, 3) := by decide +kernel
theorem dX12_short4_5 : decode cX12_short4 5 = .ok (.aload_n 0, 1) := by decide +kernel
theorem dX12_short4_6 : decode cX12_short4 6 = .ok (.iload_n 2, 1) := by decide +kernel
theorem dX12_short4_7 : decode cX12_short4 7 = .ok (.invokevirtual 309, 3) := by decide +kernel
theorem dX12_short4_10 : decode cX12_short4 10 = .ok (.aload_n 0, 1) := by decide +kernel
theorem dX12_short4_11 : decode cX12_short4 11 = .ok (.iload_n 3, 1) := by decide +kernel
theorem dX12_short4_12 : decode cX12_short4 12 = .ok (.invokevirtual 309, 3) := by decide +kernel
theorem dX12_short4_15 : decode cX12_short4 15 = .ok (.aload_n 0, 1) := by decide +kernel
theorem dX12_short4_16 : decode cX12_short4 16 = .ok (.iload 4, 2) := by decide +kernel
theorem dX12_short4_18 : decode cX12_short4 18 = .ok (.invokevirtual 309, 3) := by decide +kernel
theorem dX12_short4_21 : decode cX12_short4 21 = .ok (.aload_n 0, 1) := by decide +kernel
theorem dX12_short4_22 : decode cX12_short4 22 = .ok (.iload 5, 2) := by decide +kernel
theorem dX12_short4_24 : decode cX12_short4 24 = .ok (.invokevirtual 309, 3) := by decide +kernel
theorem dX12_short4_27 : decode cX12_short4 27 = .ok (.aload_n 0, 1) := by decide +kernel
theorem dX12_short4_28 : decode cX12_short4 28 = .ok (.iload 6, 2) := by decide +kernel
theorem dX12_short4_30 : decode cX12_short4 30 = .ok (.putfield 306, 3) := by decide +kernel
theorem dX12_short4_33 : decode cX12_short4 33 = .ok (.aload_n 0, 1) := by decide +kernel
theorem dX12_short4_34 : decode cX12_short4 34 = .ok (.iload_n 1, 1) := by decide +kernel
theorem dX12_short4_35 : decode cX12_short4 35 = .ok (.invokevirtual 312, 3) := by decide +kernel
theorem dX12_short4_38 : decode cX12_short4 38 = .ok (.return_, 1) := by decide +kernel
theorem dX12_put_0 : decode cX12_put 0 = .ok (.aload_n 0, 1) := by decide +kernel
theorem dX12_put_1 : decode cX12_put 1 = .ok (.getfield 225, 3) := by decide +kernel
theorem dX12_put_4 : decode cX12_put 4 = .ok (.aload_n 0, 1) := by decide +kernel
theorem dX12_put_5 : decode cX12_put 5 = .ok (.dup, 1) := by decide +kernel
theorem dX12_put_6 : decode cX12_put 6 = .ok (.getfield 306, 3) := by decide +kernel
theorem dX12_put_9 : decode cX12_put 9 = .ok (.dup_x1, 1) := by decide +kernel
theorem dX12_put_10 : decode cX12_put 10 = .ok (.iconst 1, 1) := by decide +kernel
theorem dX12_put_11 : decode cX12_put 11 = .ok (.iadd, 1) := by decide +kernel
theorem dX12_put_12 : decode cX12_put 12 = .ok (.putfield 306, 3) := by decide +kernel
theorem dX12_put_15 : decode cX12_put 15 = .ok (.iload_n 1, 1) := by decide +kernel
theorem dX12_put_16 : decode cX12_put 16 = .ok (.i2b, 1) := by decide +kernel
theorem dX12_put_17 : decode cX12_put 17 = .ok (.bastore, 1) := by decide +kernel
theorem dX12_put_18 : decode cX12_put 18 = .ok (.return_, 1) := by decide +kernel
theorem dX12_send_0 : decode cX12_send 0 = .ok (.aload_n 0, 1) := by decide +kernel
theorem dX12_send_1 : decode cX12_send 1 = .ok (.getfield 13, 3) := by decide +kernel
theorem dX12_send_4 : decode cX12_send 4 = .ok (.iload_n 1, 1) := by decide +kernel
theorem dX12_send_5 : decode cX12_send 5 = .ok (.baload, 1) := by decide +kernel
theorem dX12_send_6 : decode cX12_send 6 = .ok (.ifCond .eq 12, 3) := by decide +kernel
theorem dX12_send_9 : decode cX12_send 9 = .ok (.aload_n 0, 1) := by decide +kernel
theorem dX12_send_10 : decode cX12_send 10 = .ok (.getfield 17, 3) := by decide +kernel
theorem dX12_send_13 : decode cX12_send 13 = .ok (.iload_n 1, 1) := by decide +kernel
theorem dX12_send_14 : decode cX12_send 14 = .ok (.baload, 1) := by decide +kernel
theorem dX12_send_15 : decode cX12_send 15 = .ok (.ifCond .eq 4, 3) := by decide +kernel
theorem dX12_send_18 : decode cX12_send 18 = .ok (.return_, 1) := by decide +kernel
theorem dX12_send_19 : decode cX12_send 19 = .ok (.aload_n 0, 1) := by decide +kernel
theorem dX12_send_20 : decode cX12_send 20 = .ok (.getfield 20, 3) := by decide +kernel
theorem dX12_send_23 : decode cX12_send 23 = .ok (.iload_n 1, 1) := by decide +kernel
theorem dX12_send_24 : decode cX12_send 24 = .ok (.iaload, 1) := by decide +kernel
theorem dX12_send_25 : decode cX12_send 25 = .ok (.aload_n 0, 1) := by decide +kernel
theorem dX12_send_26 : decode cX12_send 26 = .ok (.getfield 306, 3) := by decide +kernel
theorem dX12_send_29 : decode cX12_send 29 = .ok (.iadd, 1) := by decide +kernel
theorem dX12_send_30 : decode cX12_send 30 = .ok (.sipush 2000, 3) := by decide +kernel
theorem dX12_send_33 : decode cX12_send 33 = .ok (.if_icmp .le 11, 3) := by decide +kernel
theorem dX12_send_36 : decode cX12_send 36 = .ok (.aload_n 0, 1) := by decide +kernel
theorem dX12_send_37 : decode cX12_send 37 = .ok (.getfield 17, 3) := by decide +kernel
theorem dX12_send_40 : decode cX12_send 40 = .ok (.iload_n 1, 1) := by decide +kernel
theorem dX12_send_41 : decode cX12_send 41 = .ok (.iconst 1, 1) := by decide +kernel
theorem dX12_send_42 : decode cX12_send 42 = .ok (.bastore, 1) := by decide +kernel
theorem dX12_send_43 : decode cX12_send 43 = .ok (.return_, 1) := by decide +kernel
theorem dX12_send_44 : decode cX12_send 44 = .ok (.iconst 0, 1) := by decide +kernel
theorem dX12_send_45 : decode cX12_send 45 = .ok (.istore_n 2, 1) := by decide +kernel
theorem dX12_send_46 : decode cX12_send 46 = .ok (.iload_n 2, 1) := by decide +kernel
theorem dX12_send_47 : decode cX12_send 47 = .ok (.aload_n 0, 1) := by decide +kernel
theorem dX12_send_48 : decode cX12_send 48 = .ok (.getfield 306, 3) := by decide +kernel
theorem dX12_send_51 : decode cX12_send 51 = .ok (.if_icmp .ge 34, 3) := by decide +kernel
theorem dX12_send_54 : decode cX12_send 54 = .ok (.aload_n 0, 1) := by decide +kernel
theorem dX12_send_55 : decode cX12_send 55 = .ok (.getfield 24, 3) := by decide +kernel
theorem dX12_send_58 : decode cX12_send 58 = .ok (.sipush 2000, 3) := by decide +kernel
theorem dX12_send_61 : decode cX12_send 61 = .ok (.iload_n 1, 1) := by decide +kernel
theorem dX12_send_62 : decode cX12_send 62 = .ok (.imul, 1) := by decide +kernel
theorem dX12_send_63 : decode cX12_send 63 = .ok (.aload_n 0, 1) := by decide +kernel
theorem dX12_send_64 : decode cX12_send 64 = .ok (.getfield 20, 3) := by decide +kernel
theorem dX12_send_67 : decode cX12_send 67 = .ok (.iload_n 1, 1) := by decide +kernel
theorem dX12_send_68 : decode cX12_send 68 = .ok (.iaload, 1) := by decide +kernel
theorem dX12_send_69 : decode cX12_send 69 = .ok (.iadd, 1) := by decide +kernel
theorem dX12_send_70 : decode cX12_send 70 = .ok (.iload_n 2, 1) := by decide +kernel
theorem dX12_send_71 : decode cX12_send 71 = .ok (.iadd, 1) := by decide +kernel
theorem dX12_send_72 : decode cX12_send 72 = .ok (.aload_n 0, 1) := by decide +kernel
theorem dX12_send_73 : decode cX12_send 73 = .ok (.getfield 225, 3) := by decide +kernel
theorem dX12_send_76 : decode cX12_send 76 = .ok (.iload_n 2, 1) := by decide +kernel
theorem dX12_send_77 : decode cX12_send 77 = .ok (.baload, 1) := by decide +kernel
theorem dX12_send_78 : decode cX12_send 78 = .ok (.bastore, 1) := by decide +kernel
theorem dX12_send_79 : decode cX12_send 79 = .ok (.iinc 2 1, 3) := by decide +kernel
theorem dX12_send_82 : decode cX12_send 82 = .ok (.goto (-36), 3) := by decide +kernel
theorem dX12_send_85 : decode cX12_send 85 = .ok (.aload_n 0, 1) := by decide +kernel
theorem dX12_send_86 : decode cX12_send 86 = .ok (.getfield 20, 3) := by decide +kernel
theorem dX12_send_89 : decode cX12_send 89 = .ok (.iload_n 1, 1) := by decide +kernel
theorem dX12_send_90 : decode cX12_send 90 = .ok (.dup2, 1) := by decide +kernel
theorem dX12_send_91 : decode cX12_send 91 = .ok (.iaload, 1) := by decide +kernel
theorem dX12_send_92 : decode cX12_send 92 = .ok (.aload_n 0, 1) := by decide +kernel
theorem dX12_send_93 : decode cX12_send 93 = .ok (.getfield 306, 3) := by decide +kernel
theorem dX12_send_96 : decode cX12_send 96 = .ok (.iadd, 1) := by decide +kernel
theorem dX12_send_97 : decode cX12_send 97 = .ok (.iastore, 1) := by decide +kernel
theorem dX12_send_98 : decode cX12_send 98 = .ok (.aload_n 0, 1) := by decide +kernel
theorem dX12_send_99 : decode cX12_send 99 = .ok (.dup, 1) := by decide +kernel
theorem dX12_send_100 : decode cX12_send 100 = .ok (.getfield 315, 3) := by decide +kernel
theorem dX12_send_103 : decode cX12_send 103 = .ok (.iconst 1, 1) := by decide +kernel
theorem dX12_send_104 : decode cX12_send 104 = .ok (.iadd, 1) := by decide +kernel
theorem dX12_send_105 : decode cX12_send 105 = .ok (.putfield 315, 3) := by decide +kernel
theorem dX12_send_108 : decode cX12_send 108 = .ok (.return_, 1) := by decide +kernel
theorem dX12_settle_0 : decode cX12_settle 0 = .ok (.iconst 0, 1) := by decide +kernel
theorem dX12_settle_1 : decode cX12_settle 1 = .ok (.istore_n 1, 1) := by decide +kernel
theorem dX12_settle_2 : decode cX12_settle 2 = .ok (.iload_n 1, 1) := by decide +kernel
theorem dX12_settle_3 : decode cX12_settle 3 = .ok (.bipush 8, 2) := by decide +kernel
theorem dX12_settle_5 : decode cX12_settle 5 = .ok (.if_icmp .ge 37, 3) := by decide +kernel
theorem dX12_settle_8 : decode cX12_settle 8 = .ok (.aload_n 0, 1) := by decide +kernel
theorem dX12_settle_9 : decode cX12_settle 9 = .ok (.getfield 13, 3) := by decide +kernel
theorem dX12_settle_12 : decode cX12_settle 12 = .ok (.iload_n 1, 1) := by decide +kernel
theorem dX12_settle_13 : decode cX12_settle 13 = .ok (.baload, 1) := by decide +kernel
theorem dX12_settle_14 : decode cX12_settle 14 = .ok (.ifCond .eq 22, 3) := by decide +kernel
theorem dX12_settle_17 : decode cX12_settle 17 = .ok (.aload_n 0, 1) := by decide +kernel
theorem dX12_settle_18 : decode cX12_settle 18 = .ok (.getfield 17, 3) := by decide +kernel
theorem dX12_settle_21 : decode cX12_settle 21 = .ok (.iload_n 1, 1) := by decide +kernel
theorem dX12_settle_22 : decode cX12_settle 22 = .ok (.baload, 1) := by decide +kernel
theorem dX12_settle_23 : decode cX12_settle 23 = .ok (.ifCond .eq 13, 3) := by decide +kernel
theorem dX12_settle_26 : decode cX12_settle 26 = .ok (.aload_n 0, 1) := by decide +kernel
theorem dX12_settle_27 : decode cX12_settle 27 = .ok (.iload_n 1, 1) := by decide +kernel
theorem dX12_settle_28 : decode cX12_settle 28 = .ok (.invokevirtual 302, 3) := by decide +kernel
theorem dX12_settle_31 : decode cX12_settle 31 = .ok (.iconst 0, 1) := by decide +kernel
theorem dX12_settle_32 : decode cX12_settle 32 = .ok (.istore_n 1, 1) := by decide +kernel
theorem dX12_settle_33 : decode cX12_settle 33 = .ok (.goto (-31), 3) := by decide +kernel
theorem dX12_settle_36 : decode cX12_settle 36 = .ok (.iinc 1 1, 3) := by decide +kernel
theorem dX12_settle_39 : decode cX12_settle 39 = .ok (.goto (-37), 3) := by decide +kernel
theorem dX12_settle_42 : decode cX12_settle 42 = .ok (.return_, 1) := by decide +kernel
theorem dX12_lost_0 : decode cX12_lost 0 = .ok (.aload_n 0, 1) := by decide +kernel
theorem dX12_lost_1 : decode cX12_lost 1 = .ok (.getfield 13, 3) := by decide +kernel
theorem dX12_lost_4 : decode cX12_lost 4 = .ok (.iload_n 1, 1) := by decide +kernel
theorem dX12_lost_5 : decode cX12_lost 5 = .ok (.iconst 0, 1) := by decide +kernel
theorem dX12_lost_6 : decode cX12_lost 6 = .ok (.bastore, 1) := by decide +kernel
theorem dX12_lost_7 : decode cX12_lost 7 = .ok (.aload_n 0, 1) := by decide +kernel
theorem dX12_lost_8 : decode cX12_lost 8 = .ok (.getfield 17, 3) := by decide +kernel
theorem dX12_lost_11 : decode cX12_lost 11 = .ok (.iload_n 1, 1) := by decide +kernel
theorem dX12_lost_12 : decode cX12_lost 12 = .ok (.iconst 0, 1) := by decide +kernel
theorem dX12_lost_13 : decode cX12_lost 13 = .ok (.bastore, 1) := by decide +kernel
theorem dX12_lost_14 : decode cX12_lost 14 = .ok (.aload_n 0, 1) := by decide +kernel
theorem dX12_lost_15 : decode cX12_lost 15 = .ok (.getfield 28, 3) := by decide +kernel
theorem dX12_lost_18 : decode cX12_lost 18 = .ok (.iload_n 1, 1) := by decide +kernel
theorem dX12_lost_19 : decode cX12_lost 19 = .ok (.iconst 0, 1) := by decide +kernel
theorem dX12_lost_20 : decode cX12_lost 20 = .ok (.iastore, 1) := by decide +kernel
theorem dX12_lost_21 : decode cX12_lost 21 = .ok (.iconst 0, 1) := by decide +kernel
theorem dX12_lost_22 : decode cX12_lost 22 = .ok (.istore_n 2, 1) := by decide +kernel
theorem dX12_lost_23 : decode cX12_lost 23 = .ok (.iload_n 2, 1) := by decide +kernel
theorem dX12_lost_24 : decode cX12_lost 24 = .ok (.iconst 4, 1) := by decide +kernel
theorem dX12_lost_25 : decode cX12_lost 25 = .ok (.if_icmp .ge 20, 3) := by decide +kernel
theorem dX12_lost_28 : decode cX12_lost 28 = .ok (.aload_n 0, 1) := by decide +kernel
theorem dX12_lost_29 : decode cX12_lost 29 = .ok (.getfield 40, 3) := by decide +kernel
theorem dX12_lost_32 : decode cX12_lost 32 = .ok (.iconst 4, 1) := by decide +kernel
theorem dX12_lost_33 : decode cX12_lost 33 = .ok (.iload_n 1, 1) := by decide +kernel
theorem dX12_lost_34 : decode cX12_lost 34 = .ok (.imul, 1) := by decide +kernel
theorem dX12_lost_35 : decode cX12_lost 35 = .ok (.iload_n 2, 1) := by decide +kernel
theorem dX12_lost_36 : decode cX12_lost 36 = .ok (.iadd, 1) := by decide +kernel
theorem dX12_lost_37 : decode cX12_lost 37 = .ok (.iconst 0, 1) := by decide +kernel
theorem dX12_lost_38 : decode cX12_lost 38 = .ok (.iastore, 1) := by decide +kernel
theorem dX12_lost_39 : decode cX12_lost 39 = .ok (.iinc 2 1, 3) := by decide +kernel
theorem dX12_lost_42 : decode cX12_lost 42 = .ok (.goto (-19), 3) := by decide +kernel
theorem dX12_lost_45 : decode cX12_lost 45 = .ok (.aload_n 0, 1) := by decide +kernel
theorem dX12_lost_46 : decode cX12_lost 46 = .ok (.getfield 34, 3) := by decide +kernel
theorem dX12_lost_49 : decode cX12_lost 49 = .ok (.iload_n 1, 1) := by decide +kernel
theorem dX12_lost_50 : decode cX12_lost 50 = .ok (.iaload, 1) := by decide +kernel
theorem dX12_lost_51 : decode cX12_lost 51 = .ok (.istore_n 2, 1) := by decide +kernel
theorem dX12_lost_52 : decode cX12_lost 52 = .ok (.aload_n 0, 1) := by decide +kernel
theorem dX12_lost_53 : decode cX12_lost 53 = .ok (.getfield 34, 3) := by decide +kernel
theorem dX12_lost_56 : decode cX12_lost 56 = .ok (.iload_n 1, 1) := by decide +kernel
theorem dX12_lost_57 : decode cX12_lost 57 = .ok (.iconst (-1), 1) := by decide +kernel
theorem dX12_lost_58 : decode cX12_lost 58 = .ok (.iastore, 1) := by decide +kernel
theorem dX12_lost_59 : decode cX12_lost 59 = .ok (.iload_n 2, 1) := by decide +kernel
theorem dX12_lost_60 : decode cX12_lost 60 = .ok (.ifCond .ge 4, 3) := by decide +kernel
theorem dX12_lost_63 : decode cX12_lost 63 = .ok (.return_, 1) := by decide +kernel
theorem dX12_lost_64 : decode cX12_lost 64 = .ok (.aload_n 0, 1) := by decide +kernel
theorem dX12_lost_65 : decode cX12_lost 65 = .ok (.getfield 58, 3) := by decide +kernel
theorem dX12_lost_68 : decode cX12_lost 68 = .ok (.iload_n 2, 1) := by decide +kernel
theorem dX12_lost_69 : decode cX12_lost 69 = .ok (.iconst (-1), 1) := by decide +kernel
theorem dX12_lost_70 : decode cX12_lost 70 = .ok (.iastore, 1) := by decide +kernel
theorem dX12_lost_71 : decode cX12_lost 71 = .ok (.aload_n 0, 1) := by decide +kernel
theorem dX12_lost_72 : decode cX12_lost 72 = .ok (.getfield 74, 3) := by decide +kernel
theorem dX12_lost_75 : decode cX12_lost 75 = .ok (.iload_n 2, 1) := by decide +kernel
theorem dX12_lost_76 : decode cX12_lost 76 = .ok (.iaload, 1) := by decide +kernel
theorem dX12_lost_77 : decode cX12_lost 77 = .ok (.ifCond .lt 22, 3) := by decide +kernel
theorem dX12_lost_80 : decode cX12_lost 80 = .ok (.aload_n 0, 1) := by decide +kernel
theorem dX12_lost_81 : decode cX12_lost 81 = .ok (.getfield 77, 3) := by decide +kernel
theorem dX12_lost_84 : decode cX12_lost 84 = .ok (.iload_n 2, 1) := by decide +kernel
theorem dX12_lost_85 : decode cX12_lost 85 = .ok (.laload, 1) := by decide +kernel
theorem dX12_lost_86 : decode cX12_lost 86 = .ok (.lconst 0, 1) := by decide +kernel
theorem dX12_lost_87 : decode cX12_lost 87 = .ok (.lcmp, 1) := by decide +kernel
theorem dX12_lost_88 : decode cX12_lost 88 = .ok (.ifCond .ne 11, 3) := by decide +kernel
theorem dX12_lost_91 : decode cX12_lost 91 = .ok (.aload_n 0, 1) := by decide +kernel
theorem dX12_lost_92 : decode cX12_lost 92 = .ok (.iload_n 2, 1) := by decide +kernel
theorem dX12_lost_93 : decode cX12_lost 93 = .ok (.invokevirtual 318, 3) := by decide +kernel
theorem dX12_lost_96 : decode cX12_lost 96 = .ok (.goto 30, 3) := by decide +kernel
theorem dX12_lost_99 : decode cX12_lost 99 = .ok (.aload_n 0, 1) := by decide +kernel
theorem dX12_lost_100 : decode cX12_lost 100 = .ok (.getfield 74, 3) := by decide +kernel
theorem dX12_lost_103 : decode cX12_lost 103 = .ok (.iload_n 2, 1) := by decide +kernel
theorem dX12_lost_104 : decode cX12_lost 104 = .ok (.iaload, 1) := by decide +kernel
theorem dX12_lost_105 : decode cX12_lost 105 = .ok (.ifCond .lt 21, 3) := by decide +kernel
theorem dX12_lost_108 : decode cX12_lost 108 = .ok (.aload_n 0, 1) := by decide +kernel
theorem dX12_lost_109 : decode cX12_lost 109 = .ok (.getfield 80, 3) := by decide +kernel
theorem dX12_lost_112 : decode cX12_lost 112 = .ok (.iload_n 2, 1) := by decide +kernel
theorem dX12_lost_113 : decode cX12_lost 113 = .ok (.aload_n 0, 1) := by decide +kernel
theorem dX12_lost_114 : decode cX12_lost 114 = .ok (.getfield 268, 3) := by decide +kernel
theorem dX12_lost_117 : decode cX12_lost 117 = .ok (.i2l, 1) := by decide +kernel
theorem dX12_lost_118 : decode cX12_lost 118 = .ok (.aload_n 0, 1) := by decide +kernel
theorem dX12_lost_119 : decode cX12_lost 119 = .ok (.getfield 77, 3) := by decide +kernel
theorem dX12_lost_122 : decode cX12_lost 122 = .ok (.iload_n 2, 1) := by decide +kernel
theorem dX12_lost_123 : decode cX12_lost 123 = .ok (.laload, 1) := by decide +kernel
theorem dX12_lost_124 : decode cX12_lost 124 = .ok (.ladd, 1) := by decide +kernel
theorem dX12_lost_125 : decode cX12_lost 125 = .ok (.lastore, 1) := by decide +kernel
theorem dX12_lost_126 : decode cX12_lost 126 = .ok (.aload_n 0, 1) := by decide +kernel
theorem dX12_lost_127 : decode cX12_lost 127 = .ok (.getfield 61, 3) := by decide +kernel
theorem dX12_lost_130 : decode cX12_lost 130 = .ok (.iload_n 2, 1) := by decide +kernel
theorem dX12_lost_131 : decode cX12_lost 131 = .ok (.laload, 1) := by decide +kernel
theorem dX12_lost_132 : decode cX12_lost 132 = .ok (.lconst 0, 1) := by decide +kernel
theorem dX12_lost_133 : decode cX12_lost 133 = .ok (.lcmp, 1) := by decide +kernel
theorem dX12_lost_134 : decode cX12_lost 134 = .ok (.ifCond .ne 11, 3) := by decide +kernel
theorem dX12_lost_137 : decode cX12_lost 137 = .ok (.aload_n 0, 1) := by decide +kernel
theorem dX12_lost_138 : decode cX12_lost 138 = .ok (.iload_n 2, 1) := by decide +kernel
theorem dX12_lost_139 : decode cX12_lost 139 = .ok (.invokevirtual 321, 3) := by decide +kernel
theorem dX12_lost_142 : decode cX12_lost 142 = .ok (.goto 40, 3) := by decide +kernel
theorem dX12_lost_145 : decode cX12_lost 145 = .ok (.aload_n 0, 1) := by decide +kernel
theorem dX12_lost_146 : decode cX12_lost 146 = .ok (.getfield 83, 3) := by decide +kernel
theorem dX12_lost_149 : decode cX12_lost 149 = .ok (.iload_n 2, 1) := by decide +kernel
theorem dX12_lost_150 : decode cX12_lost 150 = .ok (.aload_n 0, 1) := by decide +kernel
theorem dX12_lost_151 : decode cX12_lost 151 = .ok (.getfield 61, 3) := by decide +kernel
theorem dX12_lost_154 : decode cX12_lost 154 = .ok (.iload_n 2, 1) := by decide +kernel
theorem dX12_lost_155 : decode cX12_lost 155 = .ok (.laload, 1) := by decide +kernel
theorem dX12_lost_156 : decode cX12_lost 156 = .ok (.ldc2_w 324, 3) := by decide +kernel
theorem dX12_lost_159 : decode cX12_lost 159 = .ok (.lcmp, 1) := by decide +kernel
theorem dX12_lost_160 : decode cX12_lost 160 = .ok (.ifCond .ne 9, 3) := by decide +kernel
theorem dX12_lost_163 : decode cX12_lost 163 = .ok (.ldc2_w 326, 3) := by decide +kernel
theorem dX12_lost_166 : decode cX12_lost 166 = .ok (.goto 15, 3) := by decide +kernel
theorem dX12_lost_169 : decode cX12_lost 169 = .ok (.aload_n 0, 1) := by decide +kernel
theorem dX12_lost_170 : decode cX12_lost 170 = .ok (.getfield 268, 3) := by decide +kernel
theorem dX12_lost_173 : decode cX12_lost 173 = .ok (.i2l, 1) := by decide +kernel
theorem dX12_lost_174 : decode cX12_lost 174 = .ok (.aload_n 0, 1) := by decide +kernel
theorem dX12_lost_175 : decode cX12_lost 175 = .ok (.getfield 61, 3) := by decide +kernel
theorem dX12_lost_178 : decode cX12_lost 178 = .ok (.iload_n 2, 1) := by decide +kernel
theorem dX12_lost_179 : decode cX12_lost 179 = .ok (.laload, 1) := by decide +kernel
theorem dX12_lost_180 : decode cX12_lost 180 = .ok (.ladd, 1) := by decide +kernel
theorem dX12_lost_181 : decode cX12_lost 181 = .ok (.lastore, 1) := by decide +kernel
theorem dX12_lost_182 : decode cX12_lost 182 = .ok (.return_, 1) := by decide +kernel
theorem dX12_comes_0 : decode cX12_comes 0 = .ok (.aload_n 0, 1) := by decide +kernel
theorem dX12_comes_1 : decode cX12_comes 1 = .ok (.getfield 74, 3) := by decide +kernel
theorem dX12_comes_4 : decode cX12_comes 4 = .ok (.iload_n 1, 1) := by decide +kernel
theorem dX12_comes_5 : decode cX12_comes 5 = .ok (.iaload, 1) := by decide +kernel
theorem dX12_comes_6 : decode cX12_comes 6 = .ok (.istore_n 2, 1) := by decide +kernel
theorem dX12_comes_7 : decode cX12_comes 7 = .ok (.aload_n 0, 1) := by decide +kernel
theorem dX12_comes_8 : decode cX12_comes 8 = .ok (.getfield 74, 3) := by decide +kernel
theorem dX12_comes_11 : decode cX12_comes 11 = .ok (.iload_n 1, 1) := by decide +kernel
theorem dX12_comes_12 : decode cX12_comes 12 = .ok (.iconst (-1), 1) := by decide +kernel
theorem dX12_comes_13 : decode cX12_comes 13 = .ok (.iastore, 1) := by decide +kernel
theorem dX12_comes_14 : decode cX12_comes 14 = .ok (.aload_n 0, 1) := by decide +kernel
theorem dX12_comes_15 : decode cX12_comes 15 = .ok (.getfield 80, 3) := by decide +kernel
theorem dX12_comes_18 : decode cX12_comes 18 = .ok (.iload_n 1, 1) := by decide +kernel
theorem dX12_comes_19 : decode cX12_comes 19 = .ok (.ldc2_w 326, 3) := by decide +kernel
theorem dX12_comes_22 : decode cX12_comes 22 = .ok (.lastore, 1) := by decide +kernel
theorem dX12_comes_23 : decode cX12_comes 23 = .ok (.aload_n 0, 1) := by decide +kernel
theorem dX12_comes_24 : decode cX12_comes 24 = .ok (.getfield 204, 3) := by decide +kernel
theorem dX12_comes_27 : decode cX12_comes 27 = .ok (.iload_n 2, 1) := by decide +kernel
theorem dX12_comes_28 : decode cX12_comes 28 = .ok (.iconst 1, 1) := by decide +kernel
theorem dX12_comes_29 : decode cX12_comes 29 = .ok (.bastore, 1) := by decide +kernel
theorem dX12_comes_30 : decode cX12_comes 30 = .ok (.aload_n 0, 1) := by decide +kernel
theorem dX12_comes_31 : decode cX12_comes 31 = .ok (.getfield 168, 3) := by decide +kernel
theorem dX12_comes_34 : decode cX12_comes 34 = .ok (.iload_n 2, 1) := by decide +kernel
theorem dX12_comes_35 : decode cX12_comes 35 = .ok (.aload_n 0, 1) := by decide +kernel
theorem dX12_comes_36 : decode cX12_comes 36 = .ok (.getfield 268, 3) := by decide +kernel
theorem dX12_comes_39 : decode cX12_comes 39 = .ok (.iastore, 1) := by decide +kernel
theorem dX12_comes_40 : decode cX12_comes 40 = .ok (.aload_n 0, 1) := by decide +kernel
theorem dX12_comes_41 : decode cX12_comes 41 = .ok (.getfield 201, 3) := by decide +kernel
theorem dX12_comes_44 : decode cX12_comes 44 = .ok (.iload_n 2, 1) := by decide +kernel
theorem dX12_comes_45 : decode cX12_comes 45 = .ok (.aload_n 0, 1) := by decide +kernel
theorem dX12_comes_46 : decode cX12_comes 46 = .ok (.getfield 49, 3) := by decide +kernel
theorem dX12_comes_49 : decode cX12_comes 49 = .ok (.iload_n 1, 1) := by decide +kernel
theorem dX12_comes_50 : decode cX12_comes 50 = .ok (.iaload, 1) := by decide +kernel
theorem dX12_comes_51 : decode cX12_comes 51 = .ok (.iastore, 1) := by decide +kernel
theorem dX12_comes_52 : decode cX12_comes 52 = .ok (.aload_n 0, 1) := by decide +kernel
theorem dX12_comes_53 : decode cX12_comes 53 = .ok (.getfield 198, 3) := by decide +kernel
theorem dX12_comes_56 : decode cX12_comes 56 = .ok (.iload_n 2, 1) := by decide +kernel
theorem dX12_comes_57 : decode cX12_comes 57 = .ok (.iaload, 1) := by decide +kernel
theorem dX12_comes_58 : decode cX12_comes 58 = .ok (.iconst 1, 1) := by decide +kernel
theorem dX12_comes_59 : decode cX12_comes 59 = .ok (.if_icmp .ne 9, 3) := by decide +kernel
theorem dX12_comes_62 : decode cX12_comes 62 = .ok (.aload_n 0, 1) := by decide +kernel
theorem dX12_comes_63 : decode cX12_comes 63 = .ok (.iload_n 2, 1) := by decide +kernel
theorem dX12_comes_64 : decode cX12_comes 64 = .ok (.invokevirtual 328, 3) := by decide +kernel
theorem dX12_comes_67 : decode cX12_comes 67 = .ok (.pop, 1) := by decide +kernel
theorem dX12_comes_68 : decode cX12_comes 68 = .ok (.aload_n 0, 1) := by decide +kernel
theorem dX12_comes_69 : decode cX12_comes 69 = .ok (.iload_n 2, 1) := by decide +kernel
theorem dX12_comes_70 : decode cX12_comes 70 = .ok (.invokevirtual 331, 3) := by decide +kernel
theorem dX12_comes_73 : decode cX12_comes 73 = .ok (.pop, 1) := by decide +kernel
theorem dX12_comes_74 : decode cX12_comes 74 = .ok (.return_, 1) := by decide +kernel
theorem dX12_ends_0 : decode cX12_ends 0 = .ok (.aload_n 0, 1) := by decide +kernel
theorem dX12_ends_1 : decode cX12_ends 1 = .ok (.getfield 74, 3) := by decide +kernel
theorem dX12_ends_4 : decode cX12_ends 4 = .ok (.iload_n 1, 1) := by decide +kernel
theorem dX12_ends_5 : decode cX12_ends 5 = .ok (.iaload, 1) := by decide +kernel
theorem dX12_ends_6 : decode cX12_ends 6 = .ok (.ifCond .lt 8, 3) := by decide +kernel
theorem dX12_ends_9 : decode cX12_ends 9 = .ok (.aload_n 0, 1) := by decide +kernel
theorem dX12_ends_10 : decode cX12_ends 10 = .ok (.iload_n 1, 1) := by decide +kernel
theorem dX12_ends_11 : decode cX12_ends 11 = .ok (.invokevirtual 318, 3) := by decide +kernel
theorem dX12_ends_14 : decode cX12_ends 14 = .ok (.aload_n 0, 1) := by decide +kernel
theorem dX12_ends_15 : decode cX12_ends 15 = .ok (.getfield 46, 3) := by decide +kernel
theorem dX12_ends_18 : decode cX12_ends 18 = .ok (.iload_n 1, 1) := by decide +kernel
theorem dX12_ends_19 : decode cX12_ends 19 = .ok (.iconst 0, 1) := by decide +kernel
theorem dX12_ends_20 : decode cX12_ends 20 = .ok (.bastore, 1) := by decide +kernel
theorem dX12_ends_21 : decode cX12_ends 21 = .ok (.aload_n 0, 1) := by decide +kernel
theorem dX12_ends_22 : decode cX12_ends 22 = .ok (.getfield 86, 3) := by decide +kernel
theorem dX12_ends_25 : decode cX12_ends 25 = .ok (.iload_n 1, 1) := by decide +kernel
theorem dX12_ends_26 : decode cX12_ends 26 = .ok (.iconst 0, 1) := by decide +kernel
theorem dX12_ends_27 : decode cX12_ends 27 = .ok (.iastore, 1) := by decide +kernel
theorem dX12_ends_28 : decode cX12_ends 28 = .ok (.aload_n 0, 1) := by decide +kernel
theorem dX12_ends_29 : decode cX12_ends 29 = .ok (.getfield 107, 3) := by decide +kernel
theorem dX12_ends_32 : decode cX12_ends 32 = .ok (.iload_n 1, 1) := by decide +kernel
theorem dX12_ends_33 : decode cX12_ends 33 = .ok (.iconst 0, 1) := by decide +kernel
theorem dX12_ends_34 : decode cX12_ends 34 = .ok (.iastore, 1) := by decide +kernel
theorem dX12_ends_35 : decode cX12_ends 35 = .ok (.aload_n 0, 1) := by decide +kernel
theorem dX12_ends_36 : decode cX12_ends 36 = .ok (.getfield 128, 3) := by decide +kernel
theorem dX12_ends_39 : decode cX12_ends 39 = .ok (.iload_n 1, 1) := by decide +kernel
theorem dX12_ends_40 : decode cX12_ends 40 = .ok (.iconst 0, 1) := by decide +kernel
theorem dX12_ends_41 : decode cX12_ends 41 = .ok (.iastore, 1) := by decide +kernel
theorem dX12_ends_42 : decode cX12_ends 42 = .ok (.aload_n 0, 1) := by decide +kernel
theorem dX12_ends_43 : decode cX12_ends 43 = .ok (.getfield 143, 3) := by decide +kernel
theorem dX12_ends_46 : decode cX12_ends 46 = .ok (.iload_n 1, 1) := by decide +kernel
theorem dX12_ends_47 : decode cX12_ends 47 = .ok (.iconst 0, 1) := by decide +kernel
theorem dX12_ends_48 : decode cX12_ends 48 = .ok (.iastore, 1) := by decide +kernel
theorem dX12_ends_49 : decode cX12_ends 49 = .ok (.aload_n 0, 1) := by decide +kernel
theorem dX12_ends_50 : decode cX12_ends 50 = .ok (.dup, 1) := by decide +kernel
theorem dX12_ends_51 : decode cX12_ends 51 = .ok (.getfield 334, 3) := by decide +kernel
theorem dX12_ends_54 : decode cX12_ends 54 = .ok (.iconst 1, 1) := by decide +kernel
theorem dX12_ends_55 : decode cX12_ends 55 = .ok (.iadd, 1) := by decide +kernel
theorem dX12_ends_56 : decode cX12_ends 56 = .ok (.putfield 334, 3) := by decide +kernel
theorem dX12_ends_59 : decode cX12_ends 59 = .ok (.return_, 1) := by decide +kernel
theorem dX12_lose_0 : decode cX12_lose 0 = .ok (.aload_n 0, 1) := by decide +kernel
theorem dX12_lose_1 : decode cX12_lose 1 = .ok (.iload_n 1, 1) := by decide +kernel
theorem dX12_lose_2 : decode cX12_lose 2 = .ok (.invokestatic 249, 3) := by decide +kernel
theorem dX12_lose_5 : decode cX12_lose 5 = .ok (.ifCond .ne 7, 3) := by decide +kernel
theorem dX12_lose_8 : decode cX12_lose 8 = .ok (.iconst 1, 1) := by decide +kernel
theorem dX12_lose_9 : decode cX12_lose 9 = .ok (.goto 17, 3) := by decide +kernel
theorem dX12_lose_12 : decode cX12_lose 12 = .ok (.aload_n 0, 1) := by decide +kernel
theorem dX12_lose_13 : decode cX12_lose 13 = .ok (.getfield 13, 3) := by decide +kernel
theorem dX12_lose_16 : decode cX12_lose 16 = .ok (.iload_n 1, 1) := by decide +kernel
theorem dX12_lose_17 : decode cX12_lose 17 = .ok (.baload, 1) := by decide +kernel
theorem dX12_lose_18 : decode cX12_lose 18 = .ok (.ifCond .ne 7, 3) := by decide +kernel
theorem dX12_lose_21 : decode cX12_lose 21 = .ok (.iconst 2, 1) := by decide +kernel
theorem dX12_lose_22 : decode cX12_lose 22 = .ok (.goto 4, 3) := by decide +kernel
theorem dX12_lose_25 : decode cX12_lose 25 = .ok (.iconst 0, 1) := by decide +kernel
theorem dX12_lose_26 : decode cX12_lose 26 = .ok (.invokevirtual 253, 3) := by decide +kernel
theorem dX12_lose_29 : decode cX12_lose 29 = .ok (.ifCond .eq 4, 3) := by decide +kernel
theorem dX12_lose_32 : decode cX12_lose 32 = .ok (.return_, 1) := by decide +kernel
theorem dX12_lose_33 : decode cX12_lose 33 = .ok (.aload_n 0, 1) := by decide +kernel
theorem dX12_lose_34 : decode cX12_lose 34 = .ok (.iload_n 1, 1) := by decide +kernel
theorem dX12_lose_35 : decode cX12_lose 35 = .ok (.invokevirtual 302, 3) := by decide +kernel
theorem dX12_lose_38 : decode cX12_lose 38 = .ok (.aload_n 0, 1) := by decide +kernel
theorem dX12_lose_39 : decode cX12_lose 39 = .ok (.invokevirtual 292, 3) := by decide +kernel
theorem dX12_lose_42 : decode cX12_lose 42 = .ok (.return_, 1) := by decide +kernel
theorem dX12_isOpen_0 : decode cX12_isOpen 0 = .ok (.aload_n 0, 1) := by decide +kernel
theorem dX12_isOpen_1 : decode cX12_isOpen 1 = .ok (.iload_n 1, 1) := by decide +kernel
theorem dX12_isOpen_2 : decode cX12_isOpen 2 = .ok (.invokestatic 249, 3) := by decide +kernel
theorem dX12_isOpen_5 : decode cX12_isOpen 5 = .ok (.ifCond .eq 7, 3) := by decide +kernel
theorem dX12_isOpen_8 : decode cX12_isOpen 8 = .ok (.iconst 0, 1) := by decide +kernel
theorem dX12_isOpen_9 : decode cX12_isOpen 9 = .ok (.goto 4, 3) := by decide +kernel
theorem dX12_isOpen_12 : decode cX12_isOpen 12 = .ok (.iconst 1, 1) := by decide +kernel
theorem dX12_isOpen_13 : decode cX12_isOpen 13 = .ok (.invokevirtual 253, 3) := by decide +kernel
theorem dX12_isOpen_16 : decode cX12_isOpen 16 = .ok (.ifCond .ne 16, 3) := by decide +kernel
theorem dX12_isOpen_19 : decode cX12_isOpen 19 = .ok (.aload_n 0, 1) := by decide +kernel
theorem dX12_isOpen_20 : decode cX12_isOpen 20 = .ok (.getfield 13, 3) := by decide +kernel
theorem dX12_isOpen_23 : decode cX12_isOpen 23 = .ok (.iload_n 1, 1) := by decide +kernel
theorem dX12_isOpen_24 : decode cX12_isOpen 24 = .ok (.baload, 1) := by decide +kernel
theorem dX12_isOpen_25 : decode cX12_isOpen 25 = .ok (.ifCond .eq 7, 3) := by decide +kernel
theorem dX12_isOpen_28 : decode cX12_isOpen 28 = .ok (.iconst 1, 1) := by decide +kernel
theorem dX12_isOpen_29 : decode cX12_isOpen 29 = .ok (.goto 4, 3) := by decide +kernel
theorem dX12_isOpen_32 : decode cX12_isOpen 32 = .ok (.iconst 0, 1) := by decide +kernel
theorem dX12_isOpen_33 : decode cX12_isOpen 33 = .ok (.ireturn, 1) := by decide +kernel
theorem dX12_size_0 : decode cX12_size 0 = .ok (.aload_n 0, 1) := by decide +kernel
theorem dX12_size_1 : decode cX12_size 1 = .ok (.iload_n 1, 1) := by decide +kernel
theorem dX12_size_2 : decode cX12_size 2 = .ok (.invokestatic 249, 3) := by decide +kernel
theorem dX12_size_5 : decode cX12_size 5 = .ok (.ifCond .eq 7, 3) := by decide +kernel
theorem dX12_size_8 : decode cX12_size 8 = .ok (.iconst 0, 1) := by decide +kernel
theorem dX12_size_9 : decode cX12_size 9 = .ok (.goto 4, 3) := by decide +kernel
theorem dX12_size_12 : decode cX12_size 12 = .ok (.iconst 1, 1) := by decide +kernel
theorem dX12_size_13 : decode cX12_size 13 = .ok (.invokevirtual 253, 3) := by decide +kernel
theorem dX12_size_16 : decode cX12_size 16 = .ok (.ifCond .eq 7, 3) := by decide +kernel
theorem dX12_size_19 : decode cX12_size 19 = .ok (.iconst 0, 1) := by decide +kernel
theorem dX12_size_20 : decode cX12_size 20 = .ok (.goto 9, 3) := by decide +kernel
theorem dX12_size_23 : decode cX12_size 23 = .ok (.aload_n 0, 1) := by decide +kernel
theorem dX12_size_24 : decode cX12_size 24 = .ok (.getfield 20, 3) := by decide +kernel
theorem dX12_size_27 : decode cX12_size 27 = .ok (.iload_n 1, 1) := by decide +kernel
theorem dX12_size_28 : decode cX12_size 28 = .ok (.iaload, 1) := by decide +kernel
theorem dX12_size_29 : decode cX12_size 29 = .ok (.ireturn, 1) := by decide +kernel
theorem dX12_out_0 : decode cX12_out 0 = .ok (.aload_n 0, 1) := by decide +kernel
theorem dX12_out_1 : decode cX12_out 1 = .ok (.iload_n 1, 1) := by decide +kernel
theorem dX12_out_2 : decode cX12_out 2 = .ok (.invokestatic 249, 3) := by decide +kernel
theorem dX12_out_5 : decode cX12_out 5 = .ok (.ifCond .eq 7, 3) := by decide +kernel
theorem dX12_out_8 : decode cX12_out 8 = .ok (.iconst 0, 1) := by decide +kernel
theorem dX12_out_9 : decode cX12_out 9 = .ok (.goto 4, 3) := by decide +kernel
theorem dX12_out_12 : decode cX12_out 12 = .ok (.iconst 1, 1) := by decide +kernel
theorem dX12_out_13 : decode cX12_out 13 = .ok (.invokevirtual 253, 3) := by decide +kernel
theorem dX12_out_16 : decode cX12_out 16 = .ok (.ifCond .eq 5, 3) := by decide +kernel
theorem dX12_out_19 : decode cX12_out 19 = .ok (.iconst 0, 1) := by decide +kernel
theorem dX12_out_20 : decode cX12_out 20 = .ok (.ireturn, 1) := by decide +kernel
theorem dX12_out_21 : decode cX12_out 21 = .ok (.iload_n 2, 1) := by decide +kernel
theorem dX12_out_22 : decode cX12_out 22 = .ok (.ifCond .lt 32, 3) := by decide +kernel
theorem dX12_out_25 : decode cX12_out 25 = .ok (.iload_n 2, 1) := by decide +kernel
theorem dX12_out_26 : decode cX12_out 26 = .ok (.aload_n 0, 1) := by decide +kernel
theorem dX12_out_27 : decode cX12_out 27 = .ok (.getfield 20, 3) := by decide +kernel
theorem dX12_out_30 : decode cX12_out 30 = .ok (.iload_n 1, 1) := by decide +kernel
theorem dX12_out_31 : decode cX12_out 31 = .ok (.iaload, 1) := by decide +kernel
theorem dX12_out_32 : decode cX12_out 32 = .ok (.if_icmp .ge 22, 3) := by decide +kernel
theorem dX12_out_35 : decode cX12_out 35 = .ok (.aload_n 0, 1) := by decide +kernel
theorem dX12_out_36 : decode cX12_out 36 = .ok (.getfield 24, 3) := by decide +kernel
theorem dX12_out_39 : decode cX12_out 39 = .ok (.sipush 2000, 3) := by decide +kernel
theorem dX12_out_42 : decode cX12_out 42 = .ok (.iload_n 1, 1) := by decide +kernel
theorem dX12_out_43 : decode cX12_out 43 = .ok (.imul, 1) := by decide +kernel
theorem dX12_out_44 : decode cX12_out 44 = .ok (.iload_n 2, 1) := by decide +kernel
theorem dX12_out_45 : decode cX12_out 45 = .ok (.iadd, 1) := by decide +kernel
theorem dX12_out_46 : decode cX12_out 46 = .ok (.baload, 1) := by decide +kernel
theorem dX12_out_47 : decode cX12_out 47 = .ok (.sipush 255, 3) := by decide +kernel
theorem dX12_out_50 : decode cX12_out 50 = .ok (.iand, 1) := by decide +kernel
theorem dX12_out_51 : decode cX12_out 51 = .ok (.goto 4, 3) := by decide +kernel
theorem dX12_out_54 : decode cX12_out 54 = .ok (.iconst (-1), 1) := by decide +kernel
theorem dX12_out_55 : decode cX12_out 55 = .ok (.ireturn, 1) := by decide +kernel
theorem dX12_take_0 : decode cX12_take 0 = .ok (.aload_n 0, 1) := by decide +kernel
theorem dX12_take_1 : decode cX12_take 1 = .ok (.iload_n 1, 1) := by decide +kernel
theorem dX12_take_2 : decode cX12_take 2 = .ok (.invokestatic 249, 3) := by decide +kernel
theorem dX12_take_5 : decode cX12_take 5 = .ok (.ifCond .ne 7, 3) := by decide +kernel
theorem dX12_take_8 : decode cX12_take 8 = .ok (.iconst 1, 1) := by decide +kernel
theorem dX12_take_9 : decode cX12_take 9 = .ok (.goto 12, 3) := by decide +kernel
theorem dX12_take_12 : decode cX12_take 12 = .ok (.iload_n 2, 1) := by decide +kernel
theorem dX12_take_13 : decode cX12_take 13 = .ok (.ifCond .ge 7, 3) := by decide +kernel
theorem dX12_take_16 : decode cX12_take 16 = .ok (.iconst 2, 1) := by decide +kernel
theorem dX12_take_17 : decode cX12_take 17 = .ok (.goto 4, 3) := by decide +kernel
theorem dX12_take_20 : decode cX12_take 20 = .ok (.iconst 0, 1) := by decide +kernel
theorem dX12_take_21 : decode cX12_take 21 = .ok (.invokevirtual 253, 3) := by decide +kernel
theorem dX12_take_24 : decode cX12_take 24 = .ok (.ifCond .eq 5, 3) := by decide +kernel
theorem dX12_take_27 : decode cX12_take 27 = .ok (.iconst 0, 1) := by decide +kernel
theorem dX12_take_28 : decode cX12_take 28 = .ok (.ireturn, 1) := by decide +kernel
theorem dX12_take_29 : decode cX12_take 29 = .ok (.iload_n 2, 1) := by decide +kernel
theorem dX12_take_30 : decode cX12_take 30 = .ok (.aload_n 0, 1) := by decide +kernel
theorem dX12_take_31 : decode cX12_take 31 = .ok (.getfield 20, 3) := by decide +kernel
theorem dX12_take_34 : decode cX12_take 34 = .ok (.iload_n 1, 1) := by decide +kernel
theorem dX12_take_35 : decode cX12_take 35 = .ok (.iaload, 1) := by decide +kernel
theorem dX12_take_36 : decode cX12_take 36 = .ok (.invokestatic 337, 3) := by decide +kernel
theorem dX12_take_39 : decode cX12_take 39 = .ok (.istore_n 3, 1) := by decide +kernel
theorem dX12_take_40 : decode cX12_take 40 = .ok (.iload_n 3, 1) := by decide +kernel
theorem dX12_take_41 : decode cX12_take 41 = .ok (.istore 4, 2) := by decide +kernel
theorem dX12_take_43 : decode cX12_take 43 = .ok (.iload 4, 2) := by decide +kernel
theorem dX12_take_45 : decode cX12_take 45 = .ok (.aload_n 0, 1) := by decide +kernel
theorem dX12_take_46 : decode cX12_take 46 = .ok (.getfield 20, 3) := by decide +kernel
theorem dX12_take_49 : decode cX12_take 49 = .ok (.iload_n 1, 1) := by decide +kernel
theorem dX12_take_50 : decode cX12_take 50 = .ok (.iaload, 1) := by decide +kernel
theorem dX12_take_51 : decode cX12_take 51 = .ok (.if_icmp .ge 37, 3) := by decide +kernel
theorem dX12_take_54 : decode cX12_take 54 = .ok (.aload_n 0, 1) := by decide +kernel
theorem dX12_take_55 : decode cX12_take 55 = .ok (.getfield 24, 3) := by decide +kernel
theorem dX12_take_58 : decode cX12_take 58 = .ok (.sipush 2000, 3) := by decide +kernel
theorem dX12_take_61 : decode cX12_take 61 = .ok (.iload_n 1, 1) := by decide +kernel
theorem dX12_take_62 : decode cX12_take 62 = .ok (.imul, 1) := by decide +kernel
theorem dX12_take_63 : decode cX12_take 63 = .ok (.iload 4, 2) := by decide +kernel
theorem dX12_take_65 : decode cX12_take 65 = .ok (.iadd, 1) := by decide +kernel
theorem dX12_take_66 : decode cX12_take 66 = .ok (.iload_n 3, 1) := by decide +kernel
theorem dX12_take_67 : decode cX12_take 67 = .ok (.isub, 1) := by decide +kernel
theorem dX12_take_68 : decode cX12_take 68 = .ok (.aload_n 0, 1) := by decide +kernel
theorem dX12_take_69 : decode cX12_take 69 = .ok (.getfield 24, 3) := by decide +kernel
theorem dX12_take_72 : decode cX12_take 72 = .ok (.sipush 2000, 3) := by decide +kernel
theorem dX12_take_75 : decode cX12_take 75 = .ok (.iload_n 1, 1) := by decide +kernel
theorem dX12_take_76 : decode cX12_take 76 = .ok (.imul, 1) := by decide +kernel
theorem dX12_take_77 : decode cX12_take 77 = .ok (.iload 4, 2) := by decide +kernel
theorem dX12_take_79 : decode cX12_take 79 = .ok (.iadd, 1) := by decide +kernel
theorem dX12_take_80 : decode cX12_take 80 = .ok (.baload, 1) := by decide +kernel
theorem dX12_take_81 : decode cX12_take 81 = .ok (.bastore, 1) := by decide +kernel
theorem dX12_take_82 : decode cX12_take 82 = .ok (.iinc 4 1, 3) := by decide +kernel
theorem dX12_take_85 : decode cX12_take 85 = .ok (.goto (-42), 3) := by decide +kernel
theorem dX12_take_88 : decode cX12_take 88 = .ok (.aload_n 0, 1) := by decide +kernel
theorem dX12_take_89 : decode cX12_take 89 = .ok (.getfield 20, 3) := by decide +kernel
theorem dX12_take_92 : decode cX12_take 92 = .ok (.iload_n 1, 1) := by decide +kernel
theorem dX12_take_93 : decode cX12_take 93 = .ok (.dup2, 1) := by decide +kernel
theorem dX12_take_94 : decode cX12_take 94 = .ok (.iaload, 1) := by decide +kernel
theorem dX12_take_95 : decode cX12_take 95 = .ok (.iload_n 3, 1) := by decide +kernel
theorem dX12_take_96 : decode cX12_take 96 = .ok (.isub, 1) := by decide +kernel
theorem dX12_take_97 : decode cX12_take 97 = .ok (.iastore, 1) := by decide +kernel
theorem dX12_take_98 : decode cX12_take 98 = .ok (.aload_n 0, 1) := by decide +kernel
theorem dX12_take_99 : decode cX12_take 99 = .ok (.getfield 20, 3) := by decide +kernel
theorem dX12_take_102 : decode cX12_take 102 = .ok (.iload_n 1, 1) := by decide +kernel
theorem dX12_take_103 : decode cX12_take 103 = .ok (.iaload, 1) := by decide +kernel
theorem dX12_take_104 : decode cX12_take 104 = .ok (.ireturn, 1) := by decide +kernel
