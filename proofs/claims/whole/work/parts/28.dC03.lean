theorem dX11_sendAgain_69 : decode cX11_sendAgain 69 = .ok (.getfield 435, 3) := by decide +kernel
theorem dX11_sendAgain_72 : decode cX11_sendAgain 72 = .ok (.iload_n 3, 1) := by decide +kernel
theorem dX11_sendAgain_73 : decode cX11_sendAgain 73 = .ok (.aaload, 1) := by decide +kernel
theorem dX11_sendAgain_74 : decode cX11_sendAgain 74 = .ok (.aload 5, 2) := by decide +kernel
theorem dX11_sendAgain_76 : decode cX11_sendAgain 76 = .ok (.if_acmp .ne 6, 3) := by decide +kernel
theorem dX11_sendAgain_79 : decode cX11_sendAgain 79 = .ok (.iinc 3 1, 3) := by decide +kernel
theorem dX11_sendAgain_82 : decode cX11_sendAgain 82 = .ok (.iinc 4 1, 3) := by decide +kernel
theorem dX11_sendAgain_85 : decode cX11_sendAgain 85 = .ok (.goto (-80), 3) := by decide +kernel
theorem dX11_sendAgain_88 : decode cX11_sendAgain 88 = .ok (.return_, 1) := by decide +kernel
theorem dX11_publish_0 : decode cX11_publish 0 = .ok (.iload_n 3, 1) := by decide +kernel
theorem dX11_publish_1 : decode cX11_publish 1 = .ok (.iconst 1, 1) := by decide +kernel
theorem dX11_publish_2 : decode cX11_publish 2 = .ok (.ishr, 1) := by decide +kernel
theorem dX11_publish_3 : decode cX11_publish 3 = .ok (.iconst 3, 1) := by decide +kernel
theorem dX11_publish_4 : decode cX11_publish 4 = .ok (.iand, 1) := by decide +kernel
theorem dX11_publish_5 : decode cX11_publish 5 = .ok (.istore 4, 2) := by decide +kernel
theorem dX11_publish_7 : decode cX11_publish 7 = .ok (.iload 4, 2) := by decide +kernel
theorem dX11_publish_9 : decode cX11_publish 9 = .ok (.iconst 3, 1) := by decide +kernel
theorem dX11_publish_10 : decode cX11_publish 10 = .ok (.if_icmp .eq 14, 3) := by decide +kernel
theorem dX11_publish_13 : decode cX11_publish 13 = .ok (.iload_n 3, 1) := by decide +kernel
theorem dX11_publish_14 : decode cX11_publish 14 = .ok (.bipush 8, 2) := by decide +kernel
theorem dX11_publish_16 : decode cX11_publish 16 = .ok (.if_icmp .lt 18, 3) := by decide +kernel
theorem dX11_publish_19 : decode cX11_publish 19 = .ok (.iload 4, 2) := by decide +kernel
theorem dX11_publish_21 : decode cX11_publish 21 = .ok (.ifCond .ne 13, 3) := by decide +kernel
theorem dX11_publish_24 : decode cX11_publish 24 = .ok (.aload_n 0, 1) := by decide +kernel
theorem dX11_publish_25 : decode cX11_publish 25 = .ok (.getfield 34, 3) := by decide +kernel
theorem dX11_publish_28 : decode cX11_publish 28 = .ok (.sipush 129, 3) := by decide +kernel
theorem dX11_publish_31 : decode cX11_publish 31 = .ok (.invokevirtual 359, 3) := by decide +kernel
theorem dX11_publish_34 : decode cX11_publish 34 = .ok (.aload_n 0, 1) := by decide +kernel
theorem dX11_publish_35 : decode cX11_publish 35 = .ok (.getfield 34, 3) := by decide +kernel
theorem dX11_publish_38 : decode cX11_publish 38 = .ok (.iconst 1, 1) := by decide +kernel
theorem dX11_publish_39 : decode cX11_publish 39 = .ok (.invokevirtual 451, 3) := by decide +kernel
theorem dX11_publish_42 : decode cX11_publish 42 = .ok (.astore 5, 2) := by decide +kernel
theorem dX11_publish_44 : decode cX11_publish 44 = .ok (.aload 5, 2) := by decide +kernel
theorem dX11_publish_46 : decode cX11_publish 46 = .ok (.invokevirtual 178, 3) := by decide +kernel
theorem dX11_publish_49 : decode cX11_publish 49 = .ok (.ifCond .le 21, 3) := by decide +kernel
theorem dX11_publish_52 : decode cX11_publish 52 = .ok (.aload 5, 2) := by decide +kernel
theorem dX11_publish_54 : decode cX11_publish 54 = .ok (.invokevirtual 455, 3) := by decide +kernel
theorem dX11_publish_57 : decode cX11_publish 57 = .ok (.ifCond .ne 13, 3) := by decide +kernel
theorem dX11_publish_60 : decode cX11_publish 60 = .ok (.aload_n 0, 1) := by decide +kernel
theorem dX11_publish_61 : decode cX11_publish 61 = .ok (.getfield 34, 3) := by decide +kernel
theorem dX11_publish_64 : decode cX11_publish 64 = .ok (.sipush 144, 3) := by decide +kernel
theorem dX11_publish_67 : decode cX11_publish 67 = .ok (.invokevirtual 359, 3) := by decide +kernel
theorem dX11_publish_70 : decode cX11_publish 70 = .ok (.iload 4, 2) := by decide +kernel
theorem dX11_publish_72 : decode cX11_publish 72 = .ok (.ifCond .le 13, 3) := by decide +kernel
theorem dX11_publish_75 : decode cX11_publish 75 = .ok (.aload_n 0, 1) := by decide +kernel
theorem dX11_publish_76 : decode cX11_publish 76 = .ok (.getfield 34, 3) := by decide +kernel
theorem dX11_publish_79 : decode cX11_publish 79 = .ok (.invokevirtual 459, 3) := by decide +kernel
theorem dX11_publish_82 : decode cX11_publish 82 = .ok (.goto 4, 3) := by decide +kernel
theorem dX11_publish_85 : decode cX11_publish 85 = .ok (.iconst 0, 1) := by decide +kernel
theorem dX11_publish_86 : decode cX11_publish 86 = .ok (.istore 6, 2) := by decide +kernel
theorem dX11_publish_88 : decode cX11_publish 88 = .ok (.aload_n 0, 1) := by decide +kernel
theorem dX11_publish_89 : decode cX11_publish 89 = .ok (.getfield 41, 3) := by decide +kernel
theorem dX11_publish_92 : decode cX11_publish 92 = .ok (.aload_n 0, 1) := by decide +kernel
theorem dX11_publish_93 : decode cX11_publish 93 = .ok (.getfield 34, 3) := by decide +kernel
theorem dX11_publish_96 : decode cX11_publish 96 = .ok (.ldc2_w 461, 3) := by decide +kernel
theorem dX11_publish_99 : decode cX11_publish 99 = .ok (.invokevirtual 353, 3) := by decide +kernel
theorem dX11_publish_102 : decode cX11_publish 102 = .ok (.aload_n 0, 1) := by decide +kernel
theorem dX11_publish_103 : decode cX11_publish 103 = .ok (.getfield 41, 3) := by decide +kernel
theorem dX11_publish_106 : decode cX11_publish 106 = .ok (.aload_n 0, 1) := by decide +kernel
theorem dX11_publish_107 : decode cX11_publish 107 = .ok (.getfield 34, 3) := by decide +kernel
theorem dX11_publish_110 : decode cX11_publish 110 = .ok (.invokevirtual 463, 3) := by decide +kernel
theorem dX11_publish_113 : decode cX11_publish 113 = .ok (.aload_n 0, 1) := by decide +kernel
theorem dX11_publish_114 : decode cX11_publish 114 = .ok (.getfield 41, 3) := by decide +kernel
theorem dX11_publish_117 : decode cX11_publish 117 = .ok (.bipush 35, 2) := by decide +kernel
theorem dX11_publish_119 : decode cX11_publish 119 = .ok (.lconst 0, 1) := by decide +kernel
theorem dX11_publish_120 : decode cX11_publish 120 = .ok (.invokevirtual 356, 3) := by decide +kernel
theorem dX11_publish_123 : decode cX11_publish 123 = .ok (.l2i, 1) := by decide +kernel
theorem dX11_publish_124 : decode cX11_publish 124 = .ok (.istore 7, 2) := by decide +kernel
theorem dX11_publish_126 : decode cX11_publish 126 = .ok (.aload_n 0, 1) := by decide +kernel
theorem dX11_publish_127 : decode cX11_publish 127 = .ok (.getfield 41, 3) := by decide +kernel
theorem dX11_publish_130 : decode cX11_publish 130 = .ok (.bipush 35, 2) := by decide +kernel
theorem dX11_publish_132 : decode cX11_publish 132 = .ok (.invokevirtual 467, 3) := by decide +kernel
theorem dX11_publish_135 : decode cX11_publish 135 = .ok (.ifCond .eq 25, 3) := by decide +kernel
theorem dX11_publish_138 : decode cX11_publish 138 = .ok (.iload 7, 2) := by decide +kernel
theorem dX11_publish_140 : decode cX11_publish 140 = .ok (.iconst 1, 1) := by decide +kernel
theorem dX11_publish_141 : decode cX11_publish 141 = .ok (.if_icmp .lt 9, 3) := by decide +kernel
theorem dX11_publish_144 : decode cX11_publish 144 = .ok (.iload 7, 2) := by decide +kernel
theorem dX11_publish_146 : decode cX11_publish 146 = .ok (.iconst 4, 1) := by decide +kernel
theorem dX11_publish_147 : decode cX11_publish 147 = .ok (.if_icmp .le 13, 3) := by decide +kernel
theorem dX11_publish_150 : decode cX11_publish 150 = .ok (.aload_n 0, 1) := by decide +kernel
theorem dX11_publish_151 : decode cX11_publish 151 = .ok (.getfield 34, 3) := by decide +kernel
theorem dX11_publish_154 : decode cX11_publish 154 = .ok (.sipush 148, 3) := by decide +kernel
theorem dX11_publish_157 : decode cX11_publish 157 = .ok (.invokevirtual 359, 3) := by decide +kernel
theorem dX11_publish_160 : decode cX11_publish 160 = .ok (.aload_n 0, 1) := by decide +kernel
theorem dX11_publish_161 : decode cX11_publish 161 = .ok (.getfield 34, 3) := by decide +kernel
theorem dX11_publish_164 : decode cX11_publish 164 = .ok (.getfield 341, 3) := by decide +kernel
theorem dX11_publish_167 : decode cX11_publish 167 = .ok (.ifCond .ne 13, 3) := by decide +kernel
theorem dX11_publish_170 : decode cX11_publish 170 = .ok (.aload_n 1, 1) := by decide +kernel
theorem dX11_publish_171 : decode cX11_publish 171 = .ok (.aload 5, 2) := by decide +kernel
theorem dX11_publish_173 : decode cX11_publish 173 = .ok (.iload 7, 2) := by decide +kernel
theorem dX11_publish_175 : decode cX11_publish 175 = .ok (.invokevirtual 471, 3) := by decide +kernel
theorem dX11_publish_178 : decode cX11_publish 178 = .ok (.astore 5, 2) := by decide +kernel
theorem dX11_publish_180 : decode cX11_publish 180 = .ok (.aload 5, 2) := by decide +kernel
theorem dX11_publish_182 : decode cX11_publish 182 = .ok (.ifnonnull 13, 3) := by decide +kernel
theorem dX11_publish_185 : decode cX11_publish 185 = .ok (.aload_n 0, 1) := by decide +kernel
theorem dX11_publish_186 : decode cX11_publish 186 = .ok (.getfield 34, 3) := by decide +kernel
theorem dX11_publish_189 : decode cX11_publish 189 = .ok (.sipush 130, 3) := by decide +kernel
theorem dX11_publish_192 : decode cX11_publish 192 = .ok (.invokevirtual 359, 3) := by decide +kernel
theorem dX11_publish_195 : decode cX11_publish 195 = .ok (.aload_n 0, 1) := by decide +kernel
theorem dX11_publish_196 : decode cX11_publish 196 = .ok (.getfield 34, 3) := by decide +kernel
theorem dX11_publish_199 : decode cX11_publish 199 = .ok (.getfield 341, 3) := by decide +kernel
theorem dX11_publish_202 : decode cX11_publish 202 = .ok (.ifCond .eq 11, 3) := by decide +kernel
theorem dX11_publish_205 : decode cX11_publish 205 = .ok (.aload_n 0, 1) := by decide +kernel
theorem dX11_publish_206 : decode cX11_publish 206 = .ok (.getfield 34, 3) := by decide +kernel
theorem dX11_publish_209 : decode cX11_publish 209 = .ok (.getfield 341, 3) := by decide +kernel
theorem dX11_publish_212 : decode cX11_publish 212 = .ok (.ireturn, 1) := by decide +kernel
theorem dX11_publish_213 : decode cX11_publish 213 = .ok (.iload 4, 2) := by decide +kernel
theorem dX11_publish_215 : decode cX11_publish 215 = .ok (.iconst 2, 1) := by decide +kernel
theorem dX11_publish_216 : decode cX11_publish 216 = .ok (.if_icmp .ne 24, 3) := by decide +kernel
theorem dX11_publish_219 : decode cX11_publish 219 = .ok (.aload_n 2, 1) := by decide +kernel
theorem dX11_publish_220 : decode cX11_publish 220 = .ok (.iload 6, 2) := by decide +kernel
theorem dX11_publish_222 : decode cX11_publish 222 = .ok (.invokevirtual 475, 3) := by decide +kernel
theorem dX11_publish_225 : decode cX11_publish 225 = .ok (.ifCond .eq 15, 3) := by decide +kernel
theorem dX11_publish_228 : decode cX11_publish 228 = .ok (.aload_n 0, 1) := by decide +kernel
theorem dX11_publish_229 : decode cX11_publish 229 = .ok (.aload_n 1, 1) := by decide +kernel
theorem dX11_publish_230 : decode cX11_publish 230 = .ok (.bipush 80, 2) := by decide +kernel
theorem dX11_publish_232 : decode cX11_publish 232 = .ok (.iload 6, 2) := by decide +kernel
theorem dX11_publish_234 : decode cX11_publish 234 = .ok (.iconst 0, 1) := by decide +kernel
theorem dX11_publish_235 : decode cX11_publish 235 = .ok (.invokevirtual 443, 3) := by decide +kernel
theorem dX11_publish_238 : decode cX11_publish 238 = .ok (.iconst 0, 1) := by decide +kernel
theorem dX11_publish_239 : decode cX11_publish 239 = .ok (.ireturn, 1) := by decide +kernel
theorem dX11_publish_240 : decode cX11_publish 240 = .ok (.iload 4, 2) := by decide +kernel
theorem dX11_publish_242 : decode cX11_publish 242 = .ok (.iconst 2, 1) := by decide +kernel
theorem dX11_publish_243 : decode cX11_publish 243 = .ok (.if_icmp .ne 16, 3) := by decide +kernel
theorem dX11_publish_246 : decode cX11_publish 246 = .ok (.aload_n 2, 1) := by decide +kernel
theorem dX11_publish_247 : decode cX11_publish 247 = .ok (.getfield 167, 3) := by decide +kernel
theorem dX11_publish_250 : decode cX11_publish 250 = .ok (.bipush 8, 2) := by decide +kernel
theorem dX11_publish_252 : decode cX11_publish 252 = .ok (.if_icmp .ne 7, 3) := by decide +kernel
theorem dX11_publish_255 : decode cX11_publish 255 = .ok (.sipush 147, 3) := by decide +kernel
theorem dX11_publish_258 : decode cX11_publish 258 = .ok (.ireturn, 1) := by decide +kernel
theorem dX11_publish_259 : decode cX11_publish 259 = .ok (.aload_n 0, 1) := by decide +kernel
theorem dX11_publish_260 : decode cX11_publish 260 = .ok (.getfield 41, 3) := by decide +kernel
theorem dX11_publish_263 : decode cX11_publish 263 = .ok (.aload 5, 2) := by decide +kernel
theorem dX11_publish_265 : decode cX11_publish 265 = .ok (.aload_n 0, 1) := by decide +kernel
theorem dX11_publish_266 : decode cX11_publish 266 = .ok (.getfield 34, 3) := by decide +kernel
theorem dX11_publish_269 : decode cX11_publish 269 = .ok (.invokevirtual 478, 3) := by decide +kernel
theorem dX11_publish_272 : decode cX11_publish 272 = .ok (.iload 4, 2) := by decide +kernel
theorem dX11_publish_274 : decode cX11_publish 274 = .ok (.iload_n 3, 1) := by decide +kernel
theorem dX11_publish_275 : decode cX11_publish 275 = .ok (.iconst 1, 1) := by decide +kernel
theorem dX11_publish_276 : decode cX11_publish 276 = .ok (.iand, 1) := by decide +kernel
theorem dX11_publish_277 : decode cX11_publish 277 = .ok (.iconst 1, 1) := by decide +kernel
theorem dX11_publish_278 : decode cX11_publish 278 = .ok (.if_icmp .ne 7, 3) := by decide +kernel
theorem dX11_publish_281 : decode cX11_publish 281 = .ok (.iconst 1, 1) := by decide +kernel
theorem dX11_publish_282 : decode cX11_publish 282 = .ok (.goto 4, 3) := by decide +kernel
theorem dX11_publish_285 : decode cX11_publish 285 = .ok (.iconst 0, 1) := by decide +kernel
theorem dX11_publish_286 : decode cX11_publish 286 = .ok (.invokevirtual 481, 3) := by decide +kernel
theorem dX11_publish_289 : decode cX11_publish 289 = .ok (.astore 8, 2) := by decide +kernel
theorem dX11_publish_291 : decode cX11_publish 291 = .ok (.aload 8, 2) := by decide +kernel
theorem dX11_publish_293 : decode cX11_publish 293 = .ok (.aload_n 0, 1) := by decide +kernel
theorem dX11_publish_294 : decode cX11_publish 294 = .ok (.getfield 131, 3) := by decide +kernel
theorem dX11_publish_297 : decode cX11_publish 297 = .ok (.putfield 485, 3) := by decide +kernel
theorem dX11_publish_300 : decode cX11_publish 300 = .ok (.aload_n 0, 1) := by decide +kernel
theorem dX11_publish_301 : decode cX11_publish 301 = .ok (.aload_n 1, 1) := by decide +kernel
theorem dX11_publish_302 : decode cX11_publish 302 = .ok (.aload_n 2, 1) := by decide +kernel
theorem dX11_publish_303 : decode cX11_publish 303 = .ok (.aload 8, 2) := by decide +kernel
theorem dX11_publish_305 : decode cX11_publish 305 = .ok (.iload 6, 2) := by decide +kernel
theorem dX11_publish_307 : decode cX11_publish 307 = .ok (.invokevirtual 488, 3) := by decide +kernel
theorem dX11_publish_310 : decode cX11_publish 310 = .ok (.iconst 0, 1) := by decide +kernel
theorem dX11_publish_311 : decode cX11_publish 311 = .ok (.ireturn, 1) := by decide +kernel
theorem dX11_carry_0 : decode cX11_carry 0 = .ok (.sipush 151, 3) := by decide +kernel
theorem dX11_carry_3 : decode cX11_carry 3 = .ok (.istore 5, 2) := by decide +kernel
theorem dX11_carry_5 : decode cX11_carry 5 = .ok (.aload_n 3, 1) := by decide +kernel
theorem dX11_carry_6 : decode cX11_carry 6 = .ok (.getfield 492, 3) := by decide +kernel
theorem dX11_carry_9 : decode cX11_carry 9 = .ok (.ifCond .eq 18, 3) := by decide +kernel
theorem dX11_carry_12 : decode cX11_carry 12 = .ok (.aload_n 0, 1) := by decide +kernel
theorem dX11_carry_13 : decode cX11_carry 13 = .ok (.getfield 27, 3) := by decide +kernel
theorem dX11_carry_16 : decode cX11_carry 16 = .ok (.aload_n 3, 1) := by decide +kernel
theorem dX11_carry_17 : decode cX11_carry 17 = .ok (.aload_n 0, 1) := by decide +kernel
theorem dX11_carry_18 : decode cX11_carry 18 = .ok (.getfield 131, 3) := by decide +kernel
theorem dX11_carry_21 : decode cX11_carry 21 = .ok (.invokevirtual 495, 3) := by decide +kernel
theorem dX11_carry_24 : decode cX11_carry 24 = .ok (.ifCond .eq 34, 3) := by decide +kernel
theorem dX11_carry_27 : decode cX11_carry 27 = .ok (.aload_n 0, 1) := by decide +kernel
theorem dX11_carry_28 : decode cX11_carry 28 = .ok (.aload_n 3, 1) := by decide +kernel
theorem dX11_carry_29 : decode cX11_carry 29 = .ok (.aload_n 2, 1) := by decide +kernel
theorem dX11_carry_30 : decode cX11_carry 30 = .ok (.invokevirtual 498, 3) := by decide +kernel
theorem dX11_carry_33 : decode cX11_carry 33 = .ok (.ifCond .eq 7, 3) := by decide +kernel
theorem dX11_carry_36 : decode cX11_carry 36 = .ok (.iconst 0, 1) := by decide +kernel
theorem dX11_carry_37 : decode cX11_carry 37 = .ok (.goto 5, 3) := by decide +kernel
theorem dX11_carry_40 : decode cX11_carry 40 = .ok (.bipush 16, 2) := by decide +kernel
theorem dX11_carry_42 : decode cX11_carry 42 = .ok (.istore 5, 2) := by decide +kernel
theorem dX11_carry_44 : decode cX11_carry 44 = .ok (.aload_n 3, 1) := by decide +kernel
theorem dX11_carry_45 : decode cX11_carry 45 = .ok (.getfield 227, 3) := by decide +kernel
theorem dX11_carry_48 : decode cX11_carry 48 = .ok (.iconst 2, 1) := by decide +kernel
theorem dX11_carry_49 : decode cX11_carry 49 = .ok (.if_icmp .ne 9, 3) := by decide +kernel
theorem dX11_carry_52 : decode cX11_carry 52 = .ok (.aload_n 2, 1) := by decide +kernel
theorem dX11_carry_53 : decode cX11_carry 53 = .ok (.iload 4, 2) := by decide +kernel
theorem dX11_carry_55 : decode cX11_carry 55 = .ok (.invokevirtual 502, 3) := by decide +kernel
theorem dX11_carry_58 : decode cX11_carry 58 = .ok (.aload_n 3, 1) := by decide +kernel
theorem dX11_carry_59 : decode cX11_carry 59 = .ok (.getfield 227, 3) := by decide +kernel
theorem dX11_carry_62 : decode cX11_carry 62 = .ok (.ifCond .le 27, 3) := by decide +kernel
theorem dX11_carry_65 : decode cX11_carry 65 = .ok (.aload_n 0, 1) := by decide +kernel
theorem dX11_carry_66 : decode cX11_carry 66 = .ok (.aload_n 1, 1) := by decide +kernel
theorem dX11_carry_67 : decode cX11_carry 67 = .ok (.aload_n 3, 1) := by decide +kernel
theorem dX11_carry_68 : decode cX11_carry 68 = .ok (.getfield 227, 3) := by decide +kernel
theorem dX11_carry_71 : decode cX11_carry 71 = .ok (.iconst 1, 1) := by decide +kernel
theorem dX11_carry_72 : decode cX11_carry 72 = .ok (.if_icmp .ne 8, 3) := by decide +kernel
theorem dX11_carry_75 : decode cX11_carry 75 = .ok (.bipush 64, 2) := by decide +kernel
theorem dX11_carry_77 : decode cX11_carry 77 = .ok (.goto 5, 3) := by decide +kernel
theorem dX11_carry_80 : decode cX11_carry 80 = .ok (.bipush 80, 2) := by decide +kernel
theorem dX11_carry_82 : decode cX11_carry 82 = .ok (.iload 4, 2) := by decide +kernel
theorem dX11_carry_84 : decode cX11_carry 84 = .ok (.iload 5, 2) := by decide +kernel
theorem dX11_carry_86 : decode cX11_carry 86 = .ok (.invokevirtual 443, 3) := by decide +kernel
theorem dX11_carry_89 : decode cX11_carry 89 = .ok (.return_, 1) := by decide +kernel
theorem dX11_distribute_0 : decode cX11_distribute 0 = .ok (.aload_n 0, 1) := by decide +kernel
theorem dX11_distribute_1 : decode cX11_distribute 1 = .ok (.dup, 1) := by decide +kernel
theorem dX11_distribute_2 : decode cX11_distribute 2 = .ok (.getfield 249, 3) := by decide +kernel
theorem dX11_distribute_5 : decode cX11_distribute 5 = .ok (.iconst 1, 1) := by decide +kernel
theorem dX11_distribute_6 : decode cX11_distribute 6 = .ok (.iadd, 1) := by decide +kernel
theorem dX11_distribute_7 : decode cX11_distribute 7 = .ok (.putfield 249, 3) := by decide +kernel
theorem dX11_distribute_10 : decode cX11_distribute 10 = .ok (.iconst 0, 1) := by decide +kernel
theorem dX11_distribute_11 : decode cX11_distribute 11 = .ok (.istore_n 3, 1) := by decide +kernel
theorem dX11_distribute_12 : decode cX11_distribute 12 = .ok (.iconst 0, 1) := by decide +kernel
theorem dX11_distribute_13 : decode cX11_distribute 13 = .ok (.istore 4, 2) := by decide +kernel
theorem dX11_distribute_15 : decode cX11_distribute 15 = .ok (.iload 4, 2) := by decide +kernel
theorem dX11_distribute_17 : decode cX11_distribute 17 = .ok (.bipush 12, 2) := by decide +kernel
theorem dX11_distribute_19 : decode cX11_distribute 19 = .ok (.if_icmp .ge 143, 3) := by decide +kernel
theorem dX11_distribute_22 : decode cX11_distribute 22 = .ok (.aload_n 0, 1) := by decide +kernel
theorem dX11_distribute_23 : decode cX11_distribute 23 = .ok (.getfield 20, 3) := by decide +kernel
theorem dX11_distribute_26 : decode cX11_distribute 26 = .ok (.iload 4, 2) := by decide +kernel
theorem dX11_distribute_28 : decode cX11_distribute 28 = .ok (.aaload, 1) := by decide +kernel
theorem dX11_distribute_29 : decode cX11_distribute 29 = .ok (.astore 5, 2) := by decide +kernel
theorem dX11_distribute_31 : decode cX11_distribute 31 = .ok (.iconst 0, 1) := by decide +kernel
theorem dX11_distribute_32 : decode cX11_distribute 32 = .ok (.istore 6, 2) := by decide +kernel
theorem dX11_distribute_34 : decode cX11_distribute 34 = .ok (.aload 5, 2) := by decide +kernel
theorem dX11_distribute_36 : decode cX11_distribute 36 = .ok (.ifnull 120, 3) := by decide +kernel
theorem dX11_distribute_39 : decode cX11_distribute 39 = .ok (.iload 6, 2) := by decide +kernel
theorem dX11_distribute_41 : decode cX11_distribute 41 = .ok (.aload 5, 2) := by decide +kernel
theorem dX11_distribute_43 : decode cX11_distribute 43 = .ok (.getfield 158, 3) := by decide +kernel
theorem dX11_distribute_46 : decode cX11_distribute 46 = .ok (.if_icmp .ge 110, 3) := by decide +kernel
theorem dX11_distribute_49 : decode cX11_distribute 49 = .ok (.aload 5, 2) := by decide +kernel
theorem dX11_distribute_51 : decode cX11_distribute 51 = .ok (.getfield 261, 3) := by decide +kernel
theorem dX11_distribute_54 : decode cX11_distribute 54 = .ok (.iload 6, 2) := by decide +kernel
theorem dX11_distribute_56 : decode cX11_distribute 56 = .ok (.aaload, 1) := by decide +kernel
theorem dX11_distribute_57 : decode cX11_distribute 57 = .ok (.astore 7, 2) := by decide +kernel
theorem dX11_distribute_59 : decode cX11_distribute 59 = .ok (.aload 7, 2) := by decide +kernel
theorem dX11_distribute_61 : decode cX11_distribute 61 = .ok (.aload_n 1, 1) := by decide +kernel
theorem dX11_distribute_62 : decode cX11_distribute 62 = .ok (.getfield 219, 3) := by decide +kernel
theorem dX11_distribute_65 : decode cX11_distribute 65 = .ok (.invokevirtual 505, 3) := by decide +kernel
theorem dX11_distribute_68 : decode cX11_distribute 68 = .ok (.ifCond .eq 15, 3) := by decide +kernel
theorem dX11_distribute_71 : decode cX11_distribute 71 = .ok (.aload_n 0, 1) := by decide +kernel
theorem dX11_distribute_72 : decode cX11_distribute 72 = .ok (.aload 5, 2) := by decide +kernel
theorem dX11_distribute_74 : decode cX11_distribute 74 = .ok (.aload 7, 2) := by decide +kernel
theorem dX11_distribute_76 : decode cX11_distribute 76 = .ok (.aload_n 2, 1) := by decide +kernel
theorem dX11_distribute_77 : decode cX11_distribute 77 = .ok (.invokevirtual 508, 3) := by decide +kernel
theorem dX11_distribute_80 : decode cX11_distribute 80 = .ok (.goto 4, 3) := by decide +kernel
theorem dX11_distribute_83 : decode cX11_distribute 83 = .ok (.aconst_null, 1) := by decide +kernel
theorem dX11_distribute_84 : decode cX11_distribute 84 = .ok (.astore 8, 2) := by decide +kernel
theorem dX11_distribute_86 : decode cX11_distribute 86 = .ok (.aload 8, 2) := by decide +kernel
theorem dX11_distribute_88 : decode cX11_distribute 88 = .ok (.ifnonnull 7, 3) := by decide +kernel
theorem dX11_distribute_91 : decode cX11_distribute 91 = .ok (.iconst (-1), 1) := by decide +kernel
theorem dX11_distribute_92 : decode cX11_distribute 92 = .ok (.goto 13, 3) := by decide +kernel
theorem dX11_distribute_95 : decode cX11_distribute 95 = .ok (.aload 8, 2) := by decide +kernel
theorem dX11_distribute_97 : decode cX11_distribute 97 = .ok (.aload 7, 2) := by decide +kernel
theorem dX11_distribute_99 : decode cX11_distribute 99 = .ok (.getfield 209, 3) := by decide +kernel
theorem dX11_distribute_102 : decode cX11_distribute 102 = .ok (.invokevirtual 512, 3) := by decide +kernel
theorem dX11_distribute_105 : decode cX11_distribute 105 = .ok (.istore 9, 2) := by decide +kernel
theorem dX11_distribute_107 : decode cX11_distribute 107 = .ok (.iload 9, 2) := by decide +kernel
theorem dX11_distribute_109 : decode cX11_distribute 109 = .ok (.iconst (-1), 1) := by decide +kernel
theorem dX11_distribute_110 : decode cX11_distribute 110 = .ok (.if_icmp .ne 6, 3) := by decide +kernel
theorem dX11_distribute_113 : decode cX11_distribute 113 = .ok (.goto 37, 3) := by decide +kernel
theorem dX11_distribute_116 : decode cX11_distribute 116 = .ok (.iconst 1, 1) := by decide +kernel
theorem dX11_distribute_117 : decode cX11_distribute 117 = .ok (.istore_n 3, 1) := by decide +kernel
theorem dX11_distribute_118 : decode cX11_distribute 118 = .ok (.aload_n 0, 1) := by decide +kernel
theorem dX11_distribute_119 : decode cX11_distribute 119 = .ok (.aload 8, 2) := by decide +kernel
theorem dX11_distribute_121 : decode cX11_distribute 121 = .ok (.aload 8, 2) := by decide +kernel
theorem dX11_distribute_123 : decode cX11_distribute 123 = .ok (.getfield 261, 3) := by decide +kernel
theorem dX11_distribute_126 : decode cX11_distribute 126 = .ok (.iload 9, 2) := by decide +kernel
theorem dX11_distribute_128 : decode cX11_distribute 128 = .ok (.aaload, 1) := by decide +kernel
theorem dX11_distribute_129 : decode cX11_distribute 129 = .ok (.aload_n 1, 1) := by decide +kernel
theorem dX11_distribute_130 : decode cX11_distribute 130 = .ok (.iconst 0, 1) := by decide +kernel
theorem dX11_distribute_131 : decode cX11_distribute 131 = .ok (.invokevirtual 516, 3) := by decide +kernel
theorem dX11_distribute_134 : decode cX11_distribute 134 = .ok (.astore 10, 2) := by decide +kernel
theorem dX11_distribute_136 : decode cX11_distribute 136 = .ok (.aload 10, 2) := by decide +kernel
theorem dX11_distribute_138 : decode cX11_distribute 138 = .ok (.ifnull 12, 3) := by decide +kernel
theorem dX11_distribute_141 : decode cX11_distribute 141 = .ok (.aload_n 0, 1) := by decide +kernel
theorem dX11_distribute_142 : decode cX11_distribute 142 = .ok (.aload 8, 2) := by decide +kernel
theorem dX11_distribute_144 : decode cX11_distribute 144 = .ok (.aload 10, 2) := by decide +kernel
theorem dX11_distribute_146 : decode cX11_distribute 146 = .ok (.iconst 0, 1) := by decide +kernel
theorem dX11_distribute_147 : decode cX11_distribute 147 = .ok (.invokevirtual 447, 3) := by decide +kernel
theorem dX11_distribute_150 : decode cX11_distribute 150 = .ok (.iinc 6 1, 3) := by decide +kernel
theorem dX11_distribute_153 : decode cX11_distribute 153 = .ok (.goto (-119), 3) := by decide +kernel
theorem dX11_distribute_156 : decode cX11_distribute 156 = .ok (.iinc 4 1, 3) := by decide +kernel
theorem dX11_distribute_159 : decode cX11_distribute 159 = .ok (.goto (-144), 3) := by decide +kernel
theorem dX11_distribute_162 : decode cX11_distribute 162 = .ok (.iload_n 3, 1) := by decide +kernel
theorem dX11_distribute_163 : decode cX11_distribute 163 = .ok (.ireturn, 1) := by decide +kernel
theorem dX11_receiver_0 : decode cX11_receiver 0 = .ok (.aload_n 2, 1) := by decide +kernel
theorem dX11_receiver_1 : decode cX11_receiver 1 = .ok (.invokevirtual 520, 3) := by decide +kernel
theorem dX11_receiver_4 : decode cX11_receiver 4 = .ok (.ifCond .ne 23, 3) := by decide +kernel
theorem dX11_receiver_7 : decode cX11_receiver 7 = .ok (.aload_n 2, 1) := by decide +kernel
theorem dX11_receiver_8 : decode cX11_receiver 8 = .ok (.getfield 201, 3) := by decide +kernel
theorem dX11_receiver_11 : decode cX11_receiver 11 = .ok (.iconst 4, 1) := by decide +kernel
theorem dX11_receiver_12 : decode cX11_receiver 12 = .ok (.iand, 1) := by decide +kernel
theorem dX11_receiver_13 : decode cX11_receiver 13 = .ok (.ifCond .eq 12, 3) := by decide +kernel
theorem dX11_receiver_16 : decode cX11_receiver 16 = .ok (.aload_n 1, 1) := by decide +kernel
theorem dX11_receiver_17 : decode cX11_receiver 17 = .ok (.aload_n 3, 1) := by decide +kernel
theorem dX11_receiver_18 : decode cX11_receiver 18 = .ok (.if_acmp .ne 7, 3) := by decide +kernel
theorem dX11_receiver_21 : decode cX11_receiver 21 = .ok (.aconst_null, 1) := by decide +kernel
theorem dX11_receiver_22 : decode cX11_receiver 22 = .ok (.goto 4, 3) := by decide +kernel
theorem dX11_receiver_25 : decode cX11_receiver 25 = .ok (.aload_n 1, 1) := by decide +kernel
theorem dX11_receiver_26 : decode cX11_receiver 26 = .ok (.areturn, 1) := by decide +kernel
theorem dX11_receiver_27 : decode cX11_receiver 27 = .ok (.iconst 0, 1) := by decide +kernel
theorem dX11_receiver_28 : decode cX11_receiver 28 = .ok (.istore 4, 2) := by decide +kernel
theorem dX11_receiver_30 : decode cX11_receiver 30 = .ok (.iload 4, 2) := by decide +kernel
theorem dX11_receiver_32 : decode cX11_receiver 32 = .ok (.aload_n 1, 1) := by decide +kernel
theorem dX11_receiver_33 : decode cX11_receiver 33 = .ok (.getfield 523, 3) := by decide +kernel
theorem dX11_receiver_36 : decode cX11_receiver 36 = .ok (.if_icmp .ge 39, 3) := by decide +kernel
theorem dX11_receiver_39 : decode cX11_receiver 39 = .ok (.aload_n 0, 1) := by decide +kernel
theorem dX11_receiver_40 : decode cX11_receiver 40 = .ok (.getfield 20, 3) := by decide +kernel
theorem dX11_receiver_43 : decode cX11_receiver 43 = .ok (.iload 4, 2) := by decide +kernel
theorem dX11_receiver_45 : decode cX11_receiver 45 = .ok (.aaload, 1) := by decide +kernel
theorem dX11_receiver_46 : decode cX11_receiver 46 = .ok (.ifnull 23, 3) := by decide +kernel
theorem dX11_receiver_49 : decode cX11_receiver 49 = .ok (.aload_n 0, 1) := by decide +kernel
theorem dX11_receiver_50 : decode cX11_receiver 50 = .ok (.getfield 20, 3) := by decide +kernel
theorem dX11_receiver_53 : decode cX11_receiver 53 = .ok (.iload 4, 2) := by decide +kernel
theorem dX11_receiver_55 : decode cX11_receiver 55 = .ok (.aaload, 1) := by decide +kernel
theorem dX11_receiver_56 : decode cX11_receiver 56 = .ok (.aload_n 2, 1) := by decide +kernel
theorem dX11_receiver_57 : decode cX11_receiver 57 = .ok (.getfield 209, 3) := by decide +kernel
theorem dX11_receiver_60 : decode cX11_receiver 60 = .ok (.invokevirtual 512, 3) := by decide +kernel
theorem dX11_receiver_63 : decode cX11_receiver 63 = .ok (.iconst (-1), 1) := by decide +kernel
theorem dX11_receiver_64 : decode cX11_receiver 64 = .ok (.if_icmp .eq 5, 3) := by decide +kernel
theorem dX11_receiver_67 : decode cX11_receiver 67 = .ok (.aconst_null, 1) := by decide +kernel
theorem dX11_receiver_68 : decode cX11_receiver 68 = .ok (.areturn, 1) := by decide +kernel
theorem dX11_receiver_69 : decode cX11_receiver 69 = .ok (.iinc 4 1, 3) := by decide +kernel
theorem dX11_receiver_72 : decode cX11_receiver 72 = .ok (.goto (-42), 3) := by decide +kernel
theorem dX11_receiver_75 : decode cX11_receiver 75 = .ok (.aload_n 1, 1) := by decide +kernel
theorem dX11_receiver_76 : decode cX11_receiver 76 = .ok (.astore 4, 2) := by decide +kernel
theorem dX11_receiver_78 : decode cX11_receiver 78 = .ok (.aload_n 2, 1) := by decide +kernel
theorem dX11_receiver_79 : decode cX11_receiver 79 = .ok (.getfield 524, 3) := by decide +kernel
theorem dX11_receiver_82 : decode cX11_receiver 82 = .ok (.istore 5, 2) := by decide +kernel
theorem dX11_receiver_84 : decode cX11_receiver 84 = .ok (.aload_n 1, 1) := by decide +kernel
theorem dX11_receiver_85 : decode cX11_receiver 85 = .ok (.getfield 523, 3) := by decide +kernel
theorem dX11_receiver_88 : decode cX11_receiver 88 = .ok (.iconst 1, 1) := by decide +kernel
theorem dX11_receiver_89 : decode cX11_receiver 89 = .ok (.iadd, 1) := by decide +kernel
theorem dX11_receiver_90 : decode cX11_receiver 90 = .ok (.istore 6, 2) := by decide +kernel
theorem dX11_receiver_92 : decode cX11_receiver 92 = .ok (.iload 6, 2) := by decide +kernel
theorem dX11_receiver_94 : decode cX11_receiver 94 = .ok (.bipush 12, 2) := by decide +kernel
theorem dX11_receiver_96 : decode cX11_receiver 96 = .ok (.if_icmp .ge 120, 3) := by decide +kernel
theorem dX11_receiver_99 : decode cX11_receiver 99 = .ok (.aload_n 0, 1) := by decide +kernel
theorem dX11_receiver_100 : decode cX11_receiver 100 = .ok (.getfield 20, 3) := by decide +kernel
theorem dX11_receiver_103 : decode cX11_receiver 103 = .ok (.iload 6, 2) := by decide +kernel
theorem dX11_receiver_105 : decode cX11_receiver 105 = .ok (.aaload, 1) := by decide +kernel
theorem dX11_receiver_106 : decode cX11_receiver 106 = .ok (.astore 7, 2) := by decide +kernel
theorem dX11_receiver_108 : decode cX11_receiver 108 = .ok (.aload 7, 2) := by decide +kernel
theorem dX11_receiver_110 : decode cX11_receiver 110 = .ok (.ifnonnull 7, 3) := by decide +kernel
theorem dX11_receiver_113 : decode cX11_receiver 113 = .ok (.iconst (-1), 1) := by decide +kernel
theorem dX11_receiver_114 : decode cX11_receiver 114 = .ok (.goto 12, 3) := by decide +kernel
theorem dX11_receiver_117 : decode cX11_receiver 117 = .ok (.aload 7, 2) := by decide +kernel
theorem dX11_receiver_119 : decode cX11_receiver 119 = .ok (.aload_n 2, 1) := by decide +kernel
theorem dX11_receiver_120 : decode cX11_receiver 120 = .ok (.getfield 209, 3) := by decide +kernel
theorem dX11_receiver_123 : decode cX11_receiver 123 = .ok (.invokevirtual 512, 3) := by decide +kernel
theorem dX11_receiver_126 : decode cX11_receiver 126 = .ok (.istore 8, 2) := by decide +kernel
theorem dX11_receiver_128 : decode cX11_receiver 128 = .ok (.iload 8, 2) := by decide +kernel
theorem dX11_receiver_130 : decode cX11_receiver 130 = .ok (.iconst (-1), 1) := by decide +kernel
theorem dX11_receiver_131 : decode cX11_receiver 131 = .ok (.if_icmp .ne 6, 3) := by decide +kernel
theorem dX11_receiver_134 : decode cX11_receiver 134 = .ok (.goto 76, 3) := by decide +kernel
theorem dX11_receiver_137 : decode cX11_receiver 137 = .ok (.aload 7, 2) := by decide +kernel
theorem dX11_receiver_139 : decode cX11_receiver 139 = .ok (.getfield 261, 3) := by decide +kernel
theorem dX11_receiver_142 : decode cX11_receiver 142 = .ok (.iload 8, 2) := by decide +kernel
theorem dX11_receiver_144 : decode cX11_receiver 144 = .ok (.aaload, 1) := by decide +kernel
theorem dX11_receiver_145 : decode cX11_receiver 145 = .ok (.getfield 524, 3) := by decide +kernel
theorem dX11_receiver_148 : decode cX11_receiver 148 = .ok (.istore 9, 2) := by decide +kernel
theorem dX11_receiver_150 : decode cX11_receiver 150 = .ok (.aload 7, 2) := by decide +kernel
theorem dX11_receiver_152 : decode cX11_receiver 152 = .ok (.getfield 151, 3) := by decide +kernel
theorem dX11_receiver_155 : decode cX11_receiver 155 = .ok (.ifnull 7, 3) := by decide +kernel
theorem dX11_receiver_158 : decode cX11_receiver 158 = .ok (.iconst 1, 1) := by decide +kernel
theorem dX11_receiver_159 : decode cX11_receiver 159 = .ok (.goto 4, 3) := by decide +kernel
theorem dX11_receiver_162 : decode cX11_receiver 162 = .ok (.iconst 0, 1) := by decide +kernel
theorem dX11_receiver_163 : decode cX11_receiver 163 = .ok (.istore 10, 2) := by decide +kernel
theorem dX11_receiver_165 : decode cX11_receiver 165 = .ok (.aload 4, 2) := by decide +kernel
theorem dX11_receiver_167 : decode cX11_receiver 167 = .ok (.getfield 151, 3) := by decide +kernel
theorem dX11_receiver_170 : decode cX11_receiver 170 = .ok (.ifnull 7, 3) := by decide +kernel
theorem dX11_receiver_173 : decode cX11_receiver 173 = .ok (.iconst 1, 1) := by decide +kernel
theorem dX11_receiver_174 : decode cX11_receiver 174 = .ok (.goto 4, 3) := by decide +kernel
theorem dX11_receiver_177 : decode cX11_receiver 177 = .ok (.iconst 0, 1) := by decide +kernel
theorem dX11_receiver_178 : decode cX11_receiver 178 = .ok (.istore 11, 2) := by decide +kernel
theorem dX11_receiver_180 : decode cX11_receiver 180 = .ok (.iload 10, 2) := by decide +kernel
theorem dX11_receiver_182 : decode cX11_receiver 182 = .ok (.iload 11, 2) := by decide +kernel
theorem dX11_receiver_184 : decode cX11_receiver 184 = .ok (.if_icmp .ne 13, 3) := by decide +kernel
theorem dX11_receiver_187 : decode cX11_receiver 187 = .ok (.iload 9, 2) := by decide +kernel
theorem dX11_receiver_189 : decode cX11_receiver 189 = .ok (.iload 5, 2) := by decide +kernel
theorem dX11_receiver_191 : decode cX11_receiver 191 = .ok (.if_icmp .ge 19, 3) := by decide +kernel
theorem dX11_receiver_194 : decode cX11_receiver 194 = .ok (.goto 8, 3) := by decide +kernel
theorem dX11_receiver_197 : decode cX11_receiver 197 = .ok (.iload 10, 2) := by decide +kernel
theorem dX11_receiver_199 : decode cX11_receiver 199 = .ok (.ifCond .eq 11, 3) := by decide +kernel
theorem dX11_receiver_202 : decode cX11_receiver 202 = .ok (.aload 7, 2) := by decide +kernel
theorem dX11_receiver_204 : decode cX11_receiver 204 = .ok (.astore 4, 2) := by decide +kernel
theorem dX11_receiver_206 : decode cX11_receiver 206 = .ok (.iload 9, 2) := by decide +kernel
theorem dX11_receiver_208 : decode cX11_receiver 208 = .ok (.istore 5, 2) := by decide +kernel
theorem dX11_receiver_210 : decode cX11_receiver 210 = .ok (.iinc 6 1, 3) := by decide +kernel
theorem dX11_receiver_213 : decode cX11_receiver 213 = .ok (.goto (-121), 3) := by decide +kernel
theorem dX11_receiver_216 : decode cX11_receiver 216 = .ok (.aload 4, 2) := by decide +kernel
theorem dX11_receiver_218 : decode cX11_receiver 218 = .ok (.areturn, 1) := by decide +kernel
theorem dX11_hand_0 : decode cX11_hand 0 = .ok (.aload_n 2, 1) := by decide +kernel
theorem dX11_hand_1 : decode cX11_hand 1 = .ok (.dup, 1) := by decide +kernel
theorem dX11_hand_2 : decode cX11_hand 2 = .ok (.getfield 212, 3) := by decide +kernel
theorem dX11_hand_5 : decode cX11_hand 5 = .ok (.iconst 1, 1) := by decide +kernel
theorem dX11_hand_6 : decode cX11_hand 6 = .ok (.iadd, 1) := by decide +kernel
theorem dX11_hand_7 : decode cX11_hand 7 = .ok (.putfield 212, 3) := by decide +kernel
theorem dX11_hand_10 : decode cX11_hand 10 = .ok (.aload_n 2, 1) := by decide +kernel
theorem dX11_hand_11 : decode cX11_hand 11 = .ok (.aload_n 0, 1) := by decide +kernel
theorem dX11_hand_12 : decode cX11_hand 12 = .ok (.getfield 249, 3) := by decide +kernel
theorem dX11_hand_15 : decode cX11_hand 15 = .ok (.putfield 524, 3) := by decide +kernel
theorem dX11_hand_18 : decode cX11_hand 18 = .ok (.aload_n 3, 1) := by decide +kernel
theorem dX11_hand_19 : decode cX11_hand 19 = .ok (.getfield 227, 3) := by decide +kernel
theorem dX11_hand_22 : decode cX11_hand 22 = .ok (.aload_n 2, 1) := by decide +kernel
theorem dX11_hand_23 : decode cX11_hand 23 = .ok (.getfield 201, 3) := by decide +kernel
theorem dX11_hand_26 : decode cX11_hand 26 = .ok (.iconst 3, 1) := by decide +kernel
theorem dX11_hand_27 : decode cX11_hand 27 = .ok (.iand, 1) := by decide +kernel
theorem dX11_hand_28 : decode cX11_hand 28 = .ok (.invokestatic 119, 3) := by decide +kernel
theorem dX11_hand_31 : decode cX11_hand 31 = .ok (.istore 5, 2) := by decide +kernel
theorem dX11_hand_33 : decode cX11_hand 33 = .ok (.iload 4, 2) := by decide +kernel
theorem dX11_hand_35 : decode cX11_hand 35 = .ok (.ifCond .ne 20, 3) := by decide +kernel
theorem dX11_hand_38 : decode cX11_hand 38 = .ok (.aload_n 3, 1) := by decide +kernel
theorem dX11_hand_39 : decode cX11_hand 39 = .ok (.getfield 492, 3) := by decide +kernel
theorem dX11_hand_42 : decode cX11_hand 42 = .ok (.ifCond .eq 17, 3) := by decide +kernel
theorem dX11_hand_45 : decode cX11_hand 45 = .ok (.aload_n 2, 1) := by decide +kernel
theorem dX11_hand_46 : decode cX11_hand 46 = .ok (.getfield 201, 3) := by decide +kernel
theorem dX11_hand_49 : decode cX11_hand 49 = .ok (.bipush 8, 2) := by decide +kernel
theorem dX11_hand_51 : decode cX11_hand 51 = .ok (.iand, 1) := by decide +kernel
theorem dX11_hand_52 : decode cX11_hand 52 = .ok (.ifCond .eq 7, 3) := by decide +kernel
theorem dX11_hand_55 : decode cX11_hand 55 = .ok (.iconst 1, 1) := by decide +kernel
theorem dX11_hand_56 : decode cX11_hand 56 = .ok (.goto 4, 3) := by decide +kernel
theorem dX11_hand_59 : decode cX11_hand 59 = .ok (.iconst 0, 1) := by decide +kernel
theorem dX11_hand_60 : decode cX11_hand 60 = .ok (.istore 6, 2) := by decide +kernel
theorem dX11_hand_62 : decode cX11_hand 62 = .ok (.iload 5, 2) := by decide +kernel
theorem dX11_hand_64 : decode cX11_hand 64 = .ok (.ifCond .ne 18, 3) := by decide +kernel
theorem dX11_hand_67 : decode cX11_hand 67 = .ok (.aload_n 1, 1) := by decide +kernel
theorem dX11_hand_68 : decode cX11_hand 68 = .ok (.getfield 151, 3) := by decide +kernel
theorem dX11_hand_71 : decode cX11_hand 71 = .ok (.ifnull 7, 3) := by decide +kernel
theorem dX11_hand_74 : decode cX11_hand 74 = .ok (.iconst 1, 1) := by decide +kernel
theorem dX11_hand_75 : decode cX11_hand 75 = .ok (.goto 26, 3) := by decide +kernel
theorem dX11_hand_78 : decode cX11_hand 78 = .ok (.iconst 0, 1) := by decide +kernel
theorem dX11_hand_79 : decode cX11_hand 79 = .ok (.goto 22, 3) := by decide +kernel
theorem dX11_hand_82 : decode cX11_hand 82 = .ok (.aload_n 1, 1) := by decide +kernel
theorem dX11_hand_83 : decode cX11_hand 83 = .ok (.getfield 164, 3) := by decide +kernel
theorem dX11_hand_86 : decode cX11_hand 86 = .ok (.ifCond .ne 14, 3) := by decide +kernel
theorem dX11_hand_89 : decode cX11_hand 89 = .ok (.aload_n 1, 1) := by decide +kernel
theorem dX11_hand_90 : decode cX11_hand 90 = .ok (.invokevirtual 525, 3) := by decide +kernel
theorem dX11_hand_93 : decode cX11_hand 93 = .ok (.ifCond .eq 7, 3) := by decide +kernel
theorem dX11_hand_96 : decode cX11_hand 96 = .ok (.iconst 1, 1) := by decide +kernel
theorem dX11_hand_97 : decode cX11_hand 97 = .ok (.goto 4, 3) := by decide +kernel
theorem dX11_hand_100 : decode cX11_hand 100 = .ok (.iconst 0, 1) := by decide +kernel
theorem dX11_hand_101 : decode cX11_hand 101 = .ok (.istore 7, 2) := by decide +kernel
theorem dX11_hand_103 : decode cX11_hand 103 = .ok (.iload 7, 2) := by decide +kernel
theorem dX11_hand_105 : decode cX11_hand 105 = .ok (.ifCond .eq 14, 3) := by decide +kernel
theorem dX11_hand_108 : decode cX11_hand 108 = .ok (.aload_n 3, 1) := by decide +kernel
theorem dX11_hand_109 : decode cX11_hand 109 = .ok (.aload_n 0, 1) := by decide +kernel
theorem dX11_hand_110 : decode cX11_hand 110 = .ok (.getfield 131, 3) := by decide +kernel
theorem dX11_hand_113 : decode cX11_hand 113 = .ok (.invokevirtual 528, 3) := by decide +kernel
theorem dX11_hand_116 : decode cX11_hand 116 = .ok (.ifCond .ne 13, 3) := by decide +kernel
theorem dX11_hand_119 : decode cX11_hand 119 = .ok (.iload 7, 2) := by decide +kernel
theorem dX11_hand_121 : decode cX11_hand 121 = .ok (.ifCond .ne 10, 3) := by decide +kernel
theorem dX11_hand_124 : decode cX11_hand 124 = .ok (.iload 5, 2) := by decide +kernel
theorem dX11_hand_126 : decode cX11_hand 126 = .ok (.ifCond .ne 5, 3) := by decide +kernel
theorem dX11_hand_129 : decode cX11_hand 129 = .ok (.aconst_null, 1) := by decide +kernel
theorem dX11_hand_130 : decode cX11_hand 130 = .ok (.areturn, 1) := by decide +kernel
theorem dX11_hand_131 : decode cX11_hand 131 = .ok (.iload 7, 2) := by decide +kernel
theorem dX11_hand_133 : decode cX11_hand 133 = .ok (.ifCond .ne 24, 3) := by decide +kernel
theorem dX11_hand_136 : decode cX11_hand 136 = .ok (.aload_n 1, 1) := by decide +kernel
theorem dX11_hand_137 : decode cX11_hand 137 = .ok (.getfield 164, 3) := by decide +kernel
theorem dX11_hand_140 : decode cX11_hand 140 = .ok (.bipush 24, 2) := by decide +kernel
theorem dX11_hand_142 : decode cX11_hand 142 = .ok (.if_icmp .ne 15, 3) := by decide +kernel
theorem dX11_hand_145 : decode cX11_hand 145 = .ok (.aload_n 0, 1) := by decide +kernel
theorem dX11_hand_146 : decode cX11_hand 146 = .ok (.dup, 1) := by decide +kernel
theorem dX11_hand_147 : decode cX11_hand 147 = .ok (.getfield 252, 3) := by decide +kernel
theorem dX11_hand_150 : decode cX11_hand 150 = .ok (.iconst 1, 1) := by decide +kernel
theorem dX11_hand_151 : decode cX11_hand 151 = .ok (.iadd, 1) := by decide +kernel
theorem dX11_hand_152 : decode cX11_hand 152 = .ok (.putfield 252, 3) := by decide +kernel
theorem dX11_hand_155 : decode cX11_hand 155 = .ok (.aconst_null, 1) := by decide +kernel
theorem dX11_hand_156 : decode cX11_hand 156 = .ok (.areturn, 1) := by decide +kernel
theorem dX11_hand_157 : decode cX11_hand 157 = .ok (.iload 5, 2) := by decide +kernel
theorem dX11_hand_159 : decode cX11_hand 159 = .ok (.ifCond .ne 10, 3) := by decide +kernel
theorem dX11_hand_162 : decode cX11_hand 162 = .ok (.aload_n 0, 1) := by decide +kernel
theorem dX11_hand_163 : decode cX11_hand 163 = .ok (.getfield 62, 3) := by decide +kernel
theorem dX11_hand_166 : decode cX11_hand 166 = .ok (.goto 10, 3) := by decide +kernel
theorem dX11_hand_169 : decode cX11_hand 169 = .ok (.new 59, 3) := by decide +kernel
theorem dX11_hand_172 : decode cX11_hand 172 = .ok (.dup, 1) := by decide +kernel
theorem dX11_hand_173 : decode cX11_hand 173 = .ok (.invokespecial 61, 3) := by decide +kernel
theorem dX11_hand_176 : decode cX11_hand 176 = .ok (.astore 8, 2) := by decide +kernel
theorem dX11_hand_178 : decode cX11_hand 178 = .ok (.aload 8, 2) := by decide +kernel
theorem dX11_hand_180 : decode cX11_hand 180 = .ok (.aload_n 3, 1) := by decide +kernel
theorem dX11_hand_181 : decode cX11_hand 181 = .ok (.iload 5, 2) := by decide +kernel
theorem dX11_hand_183 : decode cX11_hand 183 = .ok (.iload 6, 2) := by decide +kernel
theorem dX11_hand_185 : decode cX11_hand 185 = .ok (.aload_n 2, 1) := by decide +kernel
theorem dX11_hand_186 : decode cX11_hand 186 = .ok (.getfield 206, 3) := by decide +kernel
theorem dX11_hand_189 : decode cX11_hand 189 = .ok (.invokevirtual 531, 3) := by decide +kernel
theorem dX11_hand_192 : decode cX11_hand 192 = .ok (.iload 7, 2) := by decide +kernel
theorem dX11_hand_194 : decode cX11_hand 194 = .ok (.ifCond .ne 11, 3) := by decide +kernel
theorem dX11_hand_197 : decode cX11_hand 197 = .ok (.aload_n 1, 1) := by decide +kernel
theorem dX11_hand_198 : decode cX11_hand 198 = .ok (.aload 8, 2) := by decide +kernel
theorem dX11_hand_200 : decode cX11_hand 200 = .ok (.invokevirtual 535, 3) := by decide +kernel
theorem dX11_hand_203 : decode cX11_hand 203 = .ok (.aconst_null, 1) := by decide +kernel
theorem dX11_hand_204 : decode cX11_hand 204 = .ok (.areturn, 1) := by decide +kernel
theorem dX11_hand_205 : decode cX11_hand 205 = .ok (.iload 5, 2) := by decide +kernel
theorem dX11_hand_207 : decode cX11_hand 207 = .ok (.ifCond .le 9, 3) := by decide +kernel
theorem dX11_hand_210 : decode cX11_hand 210 = .ok (.aload_n 1, 1) := by decide +kernel
theorem dX11_hand_211 : decode cX11_hand 211 = .ok (.aload 8, 2) := by decide +kernel
theorem dX11_hand_213 : decode cX11_hand 213 = .ok (.invokevirtual 539, 3) := by decide +kernel
theorem dX11_hand_216 : decode cX11_hand 216 = .ok (.aload 8, 2) := by decide +kernel
theorem dX11_hand_218 : decode cX11_hand 218 = .ok (.areturn, 1) := by decide +kernel
theorem dX11_deliver_0 : decode cX11_deliver 0 = .ok (.aload_n 0, 1) := by decide +kernel
theorem dX11_deliver_1 : decode cX11_deliver 1 = .ok (.getfield 48, 3) := by decide +kernel
theorem dX11_deliver_4 : decode cX11_deliver 4 = .ok (.aload_n 2, 1) := by decide +kernel
theorem dX11_deliver_5 : decode cX11_deliver 5 = .ok (.iload_n 3, 1) := by decide +kernel
theorem dX11_deliver_6 : decode cX11_deliver 6 = .ok (.aload_n 0, 1) := by decide +kernel
theorem dX11_deliver_7 : decode cX11_deliver 7 = .ok (.getfield 131, 3) := by decide +kernel
theorem dX11_deliver_10 : decode cX11_deliver 10 = .ok (.invokevirtual 542, 3) := by decide +kernel
theorem dX11_deliver_13 : decode cX11_deliver 13 = .ok (.aload_n 1, 1) := by decide +kernel
theorem dX11_deliver_14 : decode cX11_deliver 14 = .ok (.getfield 545, 3) := by decide +kernel
theorem dX11_deliver_17 : decode cX11_deliver 17 = .ok (.ldc2_w 233, 3) := by decide +kernel
theorem dX11_deliver_20 : decode cX11_deliver 20 = .ok (.lcmp, 1) := by decide +kernel
theorem dX11_deliver_21 : decode cX11_deliver 21 = .ok (.ifCond .eq 37, 3) := by decide +kernel
theorem dX11_deliver_24 : decode cX11_deliver 24 = .ok (.aload_n 0, 1) := by decide +kernel
theorem dX11_deliver_25 : decode cX11_deliver 25 = .ok (.getfield 48, 3) := by decide +kernel
theorem dX11_deliver_28 : decode cX11_deliver 28 = .ok (.invokevirtual 548, 3) := by decide +kernel
theorem dX11_deliver_31 : decode cX11_deliver 31 = .ok (.i2l, 1) := by decide +kernel
theorem dX11_deliver_32 : decode cX11_deliver 32 = .ok (.aload_n 1, 1) := by decide +kernel
theorem dX11_deliver_33 : decode cX11_deliver 33 = .ok (.getfield 545, 3) := by decide +kernel
theorem dX11_deliver_36 : decode cX11_deliver 36 = .ok (.lcmp, 1) := by decide +kernel
theorem dX11_deliver_37 : decode cX11_deliver 37 = .ok (.ifCond .le 21, 3) := by decide +kernel
theorem dX11_deliver_40 : decode cX11_deliver 40 = .ok (.aload_n 0, 1) := by decide +kernel
theorem dX11_deliver_41 : decode cX11_deliver 41 = .ok (.dup, 1) := by decide +kernel
theorem dX11_deliver_42 : decode cX11_deliver 42 = .ok (.getfield 252, 3) := by decide +kernel
theorem dX11_deliver_45 : decode cX11_deliver 45 = .ok (.iconst 1, 1) := by decide +kernel
theorem dX11_deliver_46 : decode cX11_deliver 46 = .ok (.iadd, 1) := by decide +kernel
theorem dX11_deliver_47 : decode cX11_deliver 47 = .ok (.putfield 252, 3) := by decide +kernel
theorem dX11_deliver_50 : decode cX11_deliver 50 = .ok (.aload_n 1, 1) := by decide +kernel
theorem dX11_deliver_51 : decode cX11_deliver 51 = .ok (.aload_n 2, 1) := by decide +kernel
theorem dX11_deliver_52 : decode cX11_deliver 52 = .ok (.invokevirtual 551, 3) := by decide +kernel
theorem dX11_deliver_55 : decode cX11_deliver 55 = .ok (.goto 21, 3) := by decide +kernel
theorem dX11_deliver_58 : decode cX11_deliver 58 = .ok (.aload_n 1, 1) := by decide +kernel
theorem dX11_deliver_59 : decode cX11_deliver 59 = .ok (.getfield 151, 3) := by decide +kernel
theorem dX11_deliver_62 : decode cX11_deliver 62 = .ok (.ifnull 14, 3) := by decide +kernel
theorem dX11_deliver_65 : decode cX11_deliver 65 = .ok (.aload_n 1, 1) := by decide +kernel
theorem dX11_deliver_66 : decode cX11_deliver 66 = .ok (.getfield 151, 3) := by decide +kernel
theorem dX11_deliver_69 : decode cX11_deliver 69 = .ok (.aload_n 0, 1) := by decide +kernel
theorem dX11_deliver_70 : decode cX11_deliver 70 = .ok (.getfield 48, 3) := by decide +kernel
theorem dX11_deliver_73 : decode cX11_deliver 73 = .ok (.invokevirtual 327, 3) := by decide +kernel
theorem dX11_deliver_76 : decode cX11_deliver 76 = .ok (.return_, 1) := by decide +kernel
theorem dX11_goOn_0 : decode cX11_goOn 0 = .ok (.iconst 0, 1) := by decide +kernel
theorem dX11_goOn_1 : decode cX11_goOn 1 = .ok (.istore_n 2, 1) := by decide +kernel
theorem dX11_goOn_2 : decode cX11_goOn 2 = .ok (.iload_n 2, 1) := by decide +kernel
theorem dX11_goOn_3 : decode cX11_goOn 3 = .ok (.bipush 24, 2) := by decide +kernel
theorem dX11_goOn_5 : decode cX11_goOn 5 = .ok (.if_icmp .ge 58, 3) := by decide +kernel
theorem dX11_goOn_8 : decode cX11_goOn 8 = .ok (.aload_n 1, 1) := by decide +kernel
theorem dX11_goOn_9 : decode cX11_goOn 9 = .ok (.getfield 164, 3) := by decide +kernel
theorem dX11_goOn_12 : decode cX11_goOn 12 = .ok (.ifCond .le 51, 3) := by decide +kernel
theorem dX11_goOn_15 : decode cX11_goOn 15 = .ok (.aload_n 1, 1) := by decide +kernel
theorem dX11_goOn_16 : decode cX11_goOn 16 = .ok (.invokevirtual 525, 3) := by decide +kernel
theorem dX11_goOn_19 : decode cX11_goOn 19 = .ok (.ifCond .eq 44, 3) := by decide +kernel
theorem dX11_goOn_22 : decode cX11_goOn 22 = .ok (.aload_n 1, 1) := by decide +kernel
theorem dX11_goOn_23 : decode cX11_goOn 23 = .ok (.invokevirtual 554, 3) := by decide +kernel
theorem dX11_goOn_26 : decode cX11_goOn 26 = .ok (.astore_n 3, 1) := by decide +kernel
theorem dX11_goOn_27 : decode cX11_goOn 27 = .ok (.aload_n 3, 1) := by decide +kernel
theorem dX11_goOn_28 : decode cX11_goOn 28 = .ok (.ifnull 29, 3) := by decide +kernel
theorem dX11_goOn_31 : decode cX11_goOn 31 = .ok (.aload_n 3, 1) := by decide +kernel
theorem dX11_goOn_32 : decode cX11_goOn 32 = .ok (.getfield 558, 3) := by decide +kernel
theorem dX11_goOn_35 : decode cX11_goOn 35 = .ok (.aload_n 0, 1) := by decide +kernel
theorem dX11_goOn_36 : decode cX11_goOn 36 = .ok (.getfield 131, 3) := by decide +kernel
theorem dX11_goOn_39 : decode cX11_goOn 39 = .ok (.invokevirtual 528, 3) := by decide +kernel
theorem dX11_goOn_42 : decode cX11_goOn 42 = .ok (.ifCond .ne 15, 3) := by decide +kernel
theorem dX11_goOn_45 : decode cX11_goOn 45 = .ok (.aload_n 1, 1) := by decide +kernel
theorem dX11_goOn_46 : decode cX11_goOn 46 = .ok (.aload_n 3, 1) := by decide +kernel
theorem dX11_goOn_47 : decode cX11_goOn 47 = .ok (.invokevirtual 539, 3) := by decide +kernel
theorem dX11_goOn_50 : decode cX11_goOn 50 = .ok (.aload_n 0, 1) := by decide +kernel
theorem dX11_goOn_51 : decode cX11_goOn 51 = .ok (.aload_n 1, 1) := by decide +kernel
theorem dX11_goOn_52 : decode cX11_goOn 52 = .ok (.aload_n 3, 1) := by decide +kernel
theorem dX11_goOn_53 : decode cX11_goOn 53 = .ok (.iconst 0, 1) := by decide +kernel
theorem dX11_goOn_54 : decode cX11_goOn 54 = .ok (.invokevirtual 447, 3) := by decide +kernel
theorem dX11_goOn_57 : decode cX11_goOn 57 = .ok (.iinc 2 1, 3) := by decide +kernel
theorem dX11_goOn_60 : decode cX11_goOn 60 = .ok (.goto (-58), 3) := by decide +kernel
theorem dX11_goOn_63 : decode cX11_goOn 63 = .ok (.return_, 1) := by decide +kernel
theorem dX11_answered_0 : decode cX11_answered 0 = .ok (.aload_n 0, 1) := by decide +kernel
theorem dX11_answered_1 : decode cX11_answered 1 = .ok (.getfield 34, 3) := by decide +kernel
theorem dX11_answered_4 : decode cX11_answered 4 = .ok (.iload 4, 2) := by decide +kernel
theorem dX11_answered_6 : decode cX11_answered 6 = .ok (.iload_n 3, 1) := by decide +kernel
theorem dX11_answered_7 : decode cX11_answered 7 = .ok (.bipush 6, 2) := by decide +kernel
theorem dX11_answered_9 : decode cX11_answered 9 = .ok (.if_icmp .ne 7, 3) := by decide +kernel
theorem dX11_answered_12 : decode cX11_answered 12 = .ok (.iconst 2, 1) := by decide +kernel
theorem dX11_answered_13 : decode cX11_answered 13 = .ok (.goto 4, 3) := by decide +kernel
theorem dX11_answered_16 : decode cX11_answered 16 = .ok (.iconst 0, 1) := by decide +kernel
theorem dX11_answered_17 : decode cX11_answered 17 = .ok (.invokevirtual 334, 3) := by decide +kernel
theorem dX11_answered_20 : decode cX11_answered 20 = .ok (.aload_n 0, 1) := by decide +kernel
theorem dX11_answered_21 : decode cX11_answered 21 = .ok (.getfield 34, 3) := by decide +kernel
theorem dX11_answered_24 : decode cX11_answered 24 = .ok (.invokevirtual 459, 3) := by decide +kernel
theorem dX11_answered_27 : decode cX11_answered 27 = .ok (.istore 5, 2) := by decide +kernel
theorem dX11_answered_29 : decode cX11_answered 29 = .ok (.iconst 0, 1) := by decide +kernel
theorem dX11_answered_30 : decode cX11_answered 30 = .ok (.istore 6, 2) := by decide +kernel
theorem dX11_answered_32 : decode cX11_answered 32 = .ok (.aload_n 0, 1) := by decide +kernel
theorem dX11_answered_33 : decode cX11_answered 33 = .ok (.getfield 34, 3) := by decide +kernel
theorem dX11_answered_36 : decode cX11_answered 36 = .ok (.invokevirtual 347, 3) := by decide +kernel
theorem dX11_answered_39 : decode cX11_answered 39 = .ok (.ifCond .le 12, 3) := by decide +kernel
theorem dX11_answered_42 : decode cX11_answered 42 = .ok (.aload_n 0, 1) := by decide +kernel
theorem dX11_answered_43 : decode cX11_answered 43 = .ok (.getfield 34, 3) := by decide +kernel
theorem dX11_answered_46 : decode cX11_answered 46 = .ok (.invokevirtual 349, 3) := by decide +kernel
theorem dX11_answered_49 : decode cX11_answered 49 = .ok (.istore 6, 2) := by decide +kernel
theorem dX11_answered_51 : decode cX11_answered 51 = .ok (.aload_n 0, 1) := by decide +kernel
theorem dX11_answered_52 : decode cX11_answered 52 = .ok (.getfield 34, 3) := by decide +kernel
theorem dX11_answered_55 : decode cX11_answered 55 = .ok (.invokevirtual 347, 3) := by decide +kernel
theorem dX11_answered_58 : decode cX11_answered 58 = .ok (.ifCond .le 17, 3) := by decide +kernel
theorem dX11_answered_61 : decode cX11_answered 61 = .ok (.aload_n 0, 1) := by decide +kernel
theorem dX11_answered_62 : decode cX11_answered 62 = .ok (.getfield 41, 3) := by decide +kernel
theorem dX11_answered_65 : decode cX11_answered 65 = .ok (.aload_n 0, 1) := by decide +kernel
theorem dX11_answered_66 : decode cX11_answered 66 = .ok (.getfield 34, 3) := by decide +kernel
theorem dX11_answered_69 : decode cX11_answered 69 = .ok (.ldc2_w 560, 3) := by decide +kernel
theorem dX11_answered_72 : decode cX11_answered 72 = .ok (.invokevirtual 353, 3) := by decide +kernel
theorem dX11_answered_75 : decode cX11_answered 75 = .ok (.aload_n 0, 1) := by decide +kernel
theorem dX11_answered_76 : decode cX11_answered 76 = .ok (.getfield 34, 3) := by decide +kernel
theorem dX11_answered_79 : decode cX11_answered 79 = .ok (.invokevirtual 338, 3) := by decide +kernel
theorem dX11_answered_82 : decode cX11_answered 82 = .ok (.aload_n 0, 1) := by decide +kernel
theorem dX11_answered_83 : decode cX11_answered 83 = .ok (.getfield 34, 3) := by decide +kernel
theorem dX11_answered_86 : decode cX11_answered 86 = .ok (.getfield 341, 3) := by decide +kernel
theorem dX11_answered_89 : decode cX11_answered 89 = .ok (.ifCond .eq 11, 3) := by decide +kernel
theorem dX11_answered_92 : decode cX11_answered 92 = .ok (.aload_n 0, 1) := by decide +kernel
theorem dX11_answered_93 : decode cX11_answered 93 = .ok (.getfield 34, 3) := by decide +kernel
theorem dX11_answered_96 : decode cX11_answered 96 = .ok (.getfield 341, 3) := by decide +kernel
theorem dX11_answered_99 : decode cX11_answered 99 = .ok (.ireturn, 1) := by decide +kernel
theorem dX11_answered_100 : decode cX11_answered 100 = .ok (.iload_n 3, 1) := by decide +kernel
theorem dX11_answered_101 : decode cX11_answered 101 = .ok (.iconst 5, 1) := by decide +kernel
theorem dX11_answered_102 : decode cX11_answered 102 = .ok (.if_icmp .ne 16, 3) := by decide +kernel
theorem dX11_answered_105 : decode cX11_answered 105 = .ok (.aload_n 0, 1) := by decide +kernel
theorem dX11_answered_106 : decode cX11_answered 106 = .ok (.aload_n 1, 1) := by decide +kernel
theorem dX11_answered_107 : decode cX11_answered 107 = .ok (.aload_n 2, 1) := by decide +kernel
theorem dX11_answered_108 : decode cX11_answered 108 = .ok (.iload 5, 2) := by decide +kernel
theorem dX11_answered_110 : decode cX11_answered 110 = .ok (.iload 6, 2) := by decide +kernel
theorem dX11_answered_112 : decode cX11_answered 112 = .ok (.invokevirtual 562, 3) := by decide +kernel
theorem dX11_answered_115 : decode cX11_answered 115 = .ok (.goto 84, 3) := by decide +kernel
theorem dX11_answered_118 : decode cX11_answered 118 = .ok (.iload_n 3, 1) := by decide +kernel
theorem dX11_answered_119 : decode cX11_answered 119 = .ok (.bipush 6, 2) := by decide +kernel
theorem dX11_answered_121 : decode cX11_answered 121 = .ok (.if_icmp .ne 31, 3) := by decide +kernel
theorem dX11_answered_124 : decode cX11_answered 124 = .ok (.aload_n 0, 1) := by decide +kernel
theorem dX11_answered_125 : decode cX11_answered 125 = .ok (.aload_n 1, 1) := by decide +kernel
theorem dX11_answered_126 : decode cX11_answered 126 = .ok (.bipush 112, 2) := by decide +kernel
theorem dX11_answered_128 : decode cX11_answered 128 = .ok (.iload 5, 2) := by decide +kernel
theorem dX11_answered_130 : decode cX11_answered 130 = .ok (.aload_n 2, 1) := by decide +kernel
theorem dX11_answered_131 : decode cX11_answered 131 = .ok (.iload 5, 2) := by decide +kernel
theorem dX11_answered_133 : decode cX11_answered 133 = .ok (.invokevirtual 566, 3) := by decide +kernel
theorem dX11_answered_136 : decode cX11_answered 136 = .ok (.ifCond .eq 7, 3) := by decide +kernel
theorem dX11_answered_139 : decode cX11_answered 139 = .ok (.iconst 0, 1) := by decide +kernel
theorem dX11_answered_140 : decode cX11_answered 140 = .ok (.goto 6, 3) := by decide +kernel
theorem dX11_answered_143 : decode cX11_answered 143 = .ok (.sipush 146, 3) := by decide +kernel
theorem dX11_answered_146 : decode cX11_answered 146 = .ok (.invokevirtual 443, 3) := by decide +kernel
theorem dX11_answered_149 : decode cX11_answered 149 = .ok (.goto 50, 3) := by decide +kernel
theorem dX11_answered_152 : decode cX11_answered 152 = .ok (.aload_n 2, 1) := by decide +kernel
theorem dX11_answered_153 : decode cX11_answered 153 = .ok (.iload 5, 2) := by decide +kernel
theorem dX11_answered_155 : decode cX11_answered 155 = .ok (.iload_n 3, 1) := by decide +kernel
theorem dX11_answered_156 : decode cX11_answered 156 = .ok (.iconst 4, 1) := by decide +kernel
theorem dX11_answered_157 : decode cX11_answered 157 = .ok (.if_icmp .ne 7, 3) := by decide +kernel
theorem dX11_answered_160 : decode cX11_answered 160 = .ok (.iconst 1, 1) := by decide +kernel
theorem dX11_answered_161 : decode cX11_answered 161 = .ok (.goto 4, 3) := by decide +kernel
theorem dX11_answered_164 : decode cX11_answered 164 = .ok (.iconst 2, 1) := by decide +kernel
theorem dX11_answered_165 : decode cX11_answered 165 = .ok (.invokevirtual 569, 3) := by decide +kernel
theorem dX11_answered_168 : decode cX11_answered 168 = .ok (.astore 7, 2) := by decide +kernel
theorem dX11_answered_170 : decode cX11_answered 170 = .ok (.aload 7, 2) := by decide +kernel
theorem dX11_answered_172 : decode cX11_answered 172 = .ok (.ifnull 27, 3) := by decide +kernel
theorem dX11_answered_175 : decode cX11_answered 175 = .ok (.iload_n 3, 1) := by decide +kernel
theorem dX11_answered_176 : decode cX11_answered 176 = .ok (.iconst 4, 1) := by decide +kernel
theorem dX11_answered_177 : decode cX11_answered 177 = .ok (.if_icmp .eq 11, 3) := by decide +kernel
theorem dX11_answered_180 : decode cX11_answered 180 = .ok (.aload 7, 2) := by decide +kernel
theorem dX11_answered_182 : decode cX11_answered 182 = .ok (.getfield 439, 3) := by decide +kernel
theorem dX11_answered_185 : decode cX11_answered 185 = .ok (.ifCond .eq 14, 3) := by decide +kernel
theorem dX11_answered_188 : decode cX11_answered 188 = .ok (.aload_n 2, 1) := by decide +kernel
theorem dX11_answered_189 : decode cX11_answered 189 = .ok (.aload 7, 2) := by decide +kernel
theorem dX11_answered_191 : decode cX11_answered 191 = .ok (.invokevirtual 551, 3) := by decide +kernel
theorem dX11_answered_194 : decode cX11_answered 194 = .ok (.aload_n 0, 1) := by decide +kernel
theorem dX11_answered_195 : decode cX11_answered 195 = .ok (.aload_n 2, 1) := by decide +kernel
theorem dX11_answered_196 : decode cX11_answered 196 = .ok (.invokevirtual 396, 3) := by decide +kernel
theorem dX11_answered_199 : decode cX11_answered 199 = .ok (.iconst 0, 1) := by decide +kernel
theorem dX11_answered_200 : decode cX11_answered 200 = .ok (.ireturn, 1) := by decide +kernel
theorem dX11_received_0 : decode cX11_received 0 = .ok (.aload_n 2, 1) := by decide +kernel
theorem dX11_received_1 : decode cX11_received 1 = .ok (.iload_n 3, 1) := by decide +kernel
theorem dX11_received_2 : decode cX11_received 2 = .ok (.iconst 2, 1) := by decide +kernel
theorem dX11_received_3 : decode cX11_received 3 = .ok (.invokevirtual 569, 3) := by decide +kernel
theorem dX11_received_6 : decode cX11_received 6 = .ok (.astore 5, 2) := by decide +kernel
theorem dX11_received_8 : decode cX11_received 8 = .ok (.aload 5, 2) := by decide +kernel
theorem dX11_received_10 : decode cX11_received 10 = .ok (.ifnonnull 17, 3) := by decide +kernel
theorem dX11_received_13 : decode cX11_received 13 = .ok (.aload_n 0, 1) := by decide +kernel
theorem dX11_received_14 : decode cX11_received 14 = .ok (.aload_n 1, 1) := by decide +kernel
theorem dX11_received_15 : decode cX11_received 15 = .ok (.bipush 98, 2) := by decide +kernel
theorem dX11_received_17 : decode cX11_received 17 = .ok (.iload_n 3, 1) := by decide +kernel
theorem dX11_received_18 : decode cX11_received 18 = .ok (.sipush 146, 3) := by decide +kernel
theorem dX11_received_21 : decode cX11_received 21 = .ok (.invokevirtual 443, 3) := by decide +kernel
theorem dX11_received_24 : decode cX11_received 24 = .ok (.goto 40, 3) := by decide +kernel
theorem dX11_received_27 : decode cX11_received 27 = .ok (.iload 4, 2) := by decide +kernel
theorem dX11_received_29 : decode cX11_received 29 = .ok (.sipush 128, 3) := by decide +kernel
theorem dX11_received_32 : decode cX11_received 32 = .ok (.if_icmp .lt 17, 3) := by decide +kernel
theorem dX11_received_35 : decode cX11_received 35 = .ok (.aload_n 2, 1) := by decide +kernel
theorem dX11_received_36 : decode cX11_received 36 = .ok (.aload 5, 2) := by decide +kernel
theorem dX11_received_38 : decode cX11_received 38 = .ok (.invokevirtual 551, 3) := by decide +kernel
theorem dX11_received_41 : decode cX11_received 41 = .ok (.aload_n 0, 1) := by decide +kernel
theorem dX11_received_42 : decode cX11_received 42 = .ok (.aload_n 2, 1) := by decide +kernel
theorem dX11_received_43 : decode cX11_received 43 = .ok (.invokevirtual 396, 3) := by decide +kernel
theorem dX11_received_46 : decode cX11_received 46 = .ok (.goto 18, 3) := by decide +kernel
theorem dX11_received_49 : decode cX11_received 49 = .ok (.aload 5, 2) := by decide +kernel
theorem dX11_received_51 : decode cX11_received 51 = .ok (.iconst 1, 1) := by decide +kernel
theorem dX11_received_52 : decode cX11_received 52 = .ok (.putfield 439, 3) := by decide +kernel
theorem dX11_received_55 : decode cX11_received 55 = .ok (.aload_n 0, 1) := by decide +kernel
theorem dX11_received_56 : decode cX11_received 56 = .ok (.aload_n 1, 1) := by decide +kernel
theorem dX11_received_57 : decode cX11_received 57 = .ok (.bipush 98, 2) := by decide +kernel
theorem dX11_received_59 : decode cX11_received 59 = .ok (.iload_n 3, 1) := by decide +kernel
theorem dX11_received_60 : decode cX11_received 60 = .ok (.iconst 0, 1) := by decide +kernel
theorem dX11_received_61 : decode cX11_received 61 = .ok (.invokevirtual 443, 3) := by decide +kernel
theorem dX11_received_64 : decode cX11_received 64 = .ok (.return_, 1) := by decide +kernel
theorem dX11_subscribe_0 : decode cX11_subscribe 0 = .ok (.aload_n 0, 1) := by decide +kernel
theorem dX11_subscribe_1 : decode cX11_subscribe 1 = .ok (.getfield 34, 3) := by decide +kernel
theorem dX11_subscribe_4 : decode cX11_subscribe 4 = .ok (.iload_n 3, 1) := by decide +kernel
theorem dX11_subscribe_5 : decode cX11_subscribe 5 = .ok (.iconst 2, 1) := by decide +kernel
theorem dX11_subscribe_6 : decode cX11_subscribe 6 = .ok (.invokevirtual 334, 3) := by decide +kernel
theorem dX11_subscribe_9 : decode cX11_subscribe 9 = .ok (.aload_n 0, 1) := by decide +kernel
theorem dX11_subscribe_10 : decode cX11_subscribe 10 = .ok (.getfield 34, 3) := by decide +kernel
theorem dX11_subscribe_13 : decode cX11_subscribe 13 = .ok (.invokevirtual 459, 3) := by decide +kernel
theorem dX11_subscribe_16 : decode cX11_subscribe 16 = .ok (.istore 4, 2) := by decide +kernel
theorem dX11_subscribe_18 : decode cX11_subscribe 18 = .ok (.aload_n 0, 1) := by decide +kernel
theorem dX11_subscribe_19 : decode cX11_subscribe 19 = .ok (.getfield 41, 3) := by decide +kernel
theorem dX11_subscribe_22 : decode cX11_subscribe 22 = .ok (.aload_n 0, 1) := by decide +kernel
theorem dX11_subscribe_23 : decode cX11_subscribe 23 = .ok (.getfield 34, 3) := by decide +kernel
theorem dX11_subscribe_26 : decode cX11_subscribe 26 = .ok (.ldc2_w 573, 3) := by decide +kernel
theorem dX11_subscribe_29 : decode cX11_subscribe 29 = .ok (.invokevirtual 353, 3) := by decide +kernel
theorem dX11_subscribe_32 : decode cX11_subscribe 32 = .ok (.aload_n 0, 1) := by decide +kernel
theorem dX11_subscribe_33 : decode cX11_subscribe 33 = .ok (.getfield 41, 3) := by decide +kernel
theorem dX11_subscribe_36 : decode cX11_subscribe 36 = .ok (.bipush 11, 2) := by decide +kernel
theorem dX11_subscribe_38 : decode cX11_subscribe 38 = .ok (.lconst 0, 1) := by decide +kernel
theorem dX11_subscribe_39 : decode cX11_subscribe 39 = .ok (.invokevirtual 356, 3) := by decide +kernel
theorem dX11_subscribe_42 : decode cX11_subscribe 42 = .ok (.l2i, 1) := by decide +kernel
theorem dX11_subscribe_43 : decode cX11_subscribe 43 = .ok (.istore 5, 2) := by decide +kernel
theorem dX11_subscribe_45 : decode cX11_subscribe 45 = .ok (.aload_n 0, 1) := by decide +kernel
theorem dX11_subscribe_46 : decode cX11_subscribe 46 = .ok (.getfield 41, 3) := by decide +kernel
theorem dX11_subscribe_49 : decode cX11_subscribe 49 = .ok (.bipush 11, 2) := by decide +kernel
theorem dX11_subscribe_51 : decode cX11_subscribe 51 = .ok (.invokevirtual 467, 3) := by decide +kernel
theorem dX11_subscribe_54 : decode cX11_subscribe 54 = .ok (.ifCond .eq 18, 3) := by decide +kernel
theorem dX11_subscribe_57 : decode cX11_subscribe 57 = .ok (.iload 5, 2) := by decide +kernel
theorem dX11_subscribe_59 : decode cX11_subscribe 59 = .ok (.ifCond .ne 13, 3) := by decide +kernel
theorem dX11_subscribe_62 : decode cX11_subscribe 62 = .ok (.aload_n 0, 1) := by decide +kernel
theorem dX11_subscribe_63 : decode cX11_subscribe 63 = .ok (.getfield 34, 3) := by decide +kernel
theorem dX11_subscribe_66 : decode cX11_subscribe 66 = .ok (.sipush 130, 3) := by decide +kernel
theorem dX11_subscribe_69 : decode cX11_subscribe 69 = .ok (.invokevirtual 359, 3) := by decide +kernel
theorem dX11_subscribe_72 : decode cX11_subscribe 72 = .ok (.aload_n 0, 1) := by decide +kernel
theorem dX11_subscribe_73 : decode cX11_subscribe 73 = .ok (.getfield 34, 3) := by decide +kernel
theorem dX11_subscribe_76 : decode cX11_subscribe 76 = .ok (.getfield 575, 3) := by decide +kernel
theorem dX11_subscribe_79 : decode cX11_subscribe 79 = .ok (.istore 6, 2) := by decide +kernel
theorem dX11_subscribe_81 : decode cX11_subscribe 81 = .ok (.aload_n 0, 1) := by decide +kernel
theorem dX11_subscribe_82 : decode cX11_subscribe 82 = .ok (.invokevirtual 577, 3) := by decide +kernel
theorem dX11_subscribe_85 : decode cX11_subscribe 85 = .ok (.istore 7, 2) := by decide +kernel
theorem dX11_subscribe_87 : decode cX11_subscribe 87 = .ok (.aload_n 0, 1) := by decide +kernel
theorem dX11_subscribe_88 : decode cX11_subscribe 88 = .ok (.getfield 34, 3) := by decide +kernel
theorem dX11_subscribe_91 : decode cX11_subscribe 91 = .ok (.getfield 341, 3) := by decide +kernel
theorem dX11_subscribe_94 : decode cX11_subscribe 94 = .ok (.ifCond .eq 11, 3) := by decide +kernel
theorem dX11_subscribe_97 : decode cX11_subscribe 97 = .ok (.aload_n 0, 1) := by decide +kernel
theorem dX11_subscribe_98 : decode cX11_subscribe 98 = .ok (.getfield 34, 3) := by decide +kernel
theorem dX11_subscribe_101 : decode cX11_subscribe 101 = .ok (.getfield 341, 3) := by decide +kernel
theorem dX11_subscribe_104 : decode cX11_subscribe 104 = .ok (.ireturn, 1) := by decide +kernel
theorem dX11_subscribe_105 : decode cX11_subscribe 105 = .ok (.aload_n 0, 1) := by decide +kernel
theorem dX11_subscribe_106 : decode cX11_subscribe 106 = .ok (.getfield 34, 3) := by decide +kernel
theorem dX11_subscribe_109 : decode cX11_subscribe 109 = .ok (.iload 6, 2) := by decide +kernel
theorem dX11_subscribe_111 : decode cX11_subscribe 111 = .ok (.putfield 575, 3) := by decide +kernel
theorem dX11_subscribe_114 : decode cX11_subscribe 114 = .ok (.aload_n 0, 1) := by decide +kernel
theorem dX11_subscribe_115 : decode cX11_subscribe 115 = .ok (.getfield 48, 3) := by decide +kernel
theorem dX11_subscribe_118 : decode cX11_subscribe 118 = .ok (.sipush 144, 3) := by decide +kernel
theorem dX11_subscribe_121 : decode cX11_subscribe 121 = .ok (.invokevirtual 322, 3) := by decide +kernel
theorem dX11_subscribe_124 : decode cX11_subscribe 124 = .ok (.aload_n 0, 1) := by decide +kernel
theorem dX11_subscribe_125 : decode cX11_subscribe 125 = .ok (.getfield 48, 3) := by decide +kernel
theorem dX11_subscribe_128 : decode cX11_subscribe 128 = .ok (.iload 4, 2) := by decide +kernel
theorem dX11_subscribe_130 : decode cX11_subscribe 130 = .ok (.invokevirtual 331, 3) := by decide +kernel
theorem dX11_subscribe_133 : decode cX11_subscribe 133 = .ok (.aload_n 0, 1) := by decide +kernel
theorem dX11_subscribe_134 : decode cX11_subscribe 134 = .ok (.getfield 48, 3) := by decide +kernel
theorem dX11_subscribe_137 : decode cX11_subscribe 137 = .ok (.iconst 0, 1) := by decide +kernel
theorem dX11_subscribe_138 : decode cX11_subscribe 138 = .ok (.invokevirtual 324, 3) := by decide +kernel
theorem dX11_subscribe_141 : decode cX11_subscribe 141 = .ok (.iconst 0, 1) := by decide +kernel
theorem dX11_subscribe_142 : decode cX11_subscribe 142 = .ok (.istore 8, 2) := by decide +kernel
theorem dX11_subscribe_144 : decode cX11_subscribe 144 = .ok (.iload 8, 2) := by decide +kernel
theorem dX11_subscribe_146 : decode cX11_subscribe 146 = .ok (.iload 7, 2) := by decide +kernel
theorem dX11_subscribe_148 : decode cX11_subscribe 148 = .ok (.if_icmp .ge 60, 3) := by decide +kernel
theorem dX11_subscribe_151 : decode cX11_subscribe 151 = .ok (.aload_n 0, 1) := by decide +kernel
theorem dX11_subscribe_152 : decode cX11_subscribe 152 = .ok (.getfield 34, 3) := by decide +kernel
theorem dX11_subscribe_155 : decode cX11_subscribe 155 = .ok (.iconst 1, 1) := by decide +kernel
theorem dX11_subscribe_156 : decode cX11_subscribe 156 = .ok (.invokevirtual 451, 3) := by decide +kernel
theorem dX11_subscribe_159 : decode cX11_subscribe 159 = .ok (.astore 9, 2) := by decide +kernel
theorem dX11_subscribe_161 : decode cX11_subscribe 161 = .ok (.aload_n 0, 1) := by decide +kernel
theorem dX11_subscribe_162 : decode cX11_subscribe 162 = .ok (.getfield 34, 3) := by decide +kernel
theorem dX11_subscribe_165 : decode cX11_subscribe 165 = .ok (.invokevirtual 349, 3) := by decide +kernel
theorem dX11_subscribe_168 : decode cX11_subscribe 168 = .ok (.istore 10, 2) := by decide +kernel
theorem dX11_subscribe_170 : decode cX11_subscribe 170 = .ok (.aload_n 0, 1) := by decide +kernel
theorem dX11_subscribe_171 : decode cX11_subscribe 171 = .ok (.getfield 66, 3) := by decide +kernel
theorem dX11_subscribe_174 : decode cX11_subscribe 174 = .ok (.iload 8, 2) := by decide +kernel
theorem dX11_subscribe_176 : decode cX11_subscribe 176 = .ok (.aload_n 2, 1) := by decide +kernel
theorem dX11_subscribe_177 : decode cX11_subscribe 177 = .ok (.aload 9, 2) := by decide +kernel
theorem dX11_subscribe_179 : decode cX11_subscribe 179 = .ok (.iload 10, 2) := by decide +kernel
theorem dX11_subscribe_181 : decode cX11_subscribe 181 = .ok (.invokevirtual 580, 3) := by decide +kernel
theorem dX11_subscribe_184 : decode cX11_subscribe 184 = .ok (.iastore, 1) := by decide +kernel
theorem dX11_subscribe_185 : decode cX11_subscribe 185 = .ok (.aload_n 0, 1) := by decide +kernel
theorem dX11_subscribe_186 : decode cX11_subscribe 186 = .ok (.getfield 48, 3) := by decide +kernel
theorem dX11_subscribe_189 : decode cX11_subscribe 189 = .ok (.aload_n 2, 1) := by decide +kernel
theorem dX11_subscribe_190 : decode cX11_subscribe 190 = .ok (.aload 9, 2) := by decide +kernel
theorem dX11_subscribe_192 : decode cX11_subscribe 192 = .ok (.iload 10, 2) := by decide +kernel
theorem dX11_subscribe_194 : decode cX11_subscribe 194 = .ok (.iload 5, 2) := by decide +kernel
theorem dX11_subscribe_196 : decode cX11_subscribe 196 = .ok (.invokevirtual 584, 3) := by decide +kernel
theorem dX11_subscribe_199 : decode cX11_subscribe 199 = .ok (.invokevirtual 324, 3) := by decide +kernel
theorem dX11_subscribe_202 : decode cX11_subscribe 202 = .ok (.iinc 8 1, 3) := by decide +kernel
theorem dX11_subscribe_205 : decode cX11_subscribe 205 = .ok (.goto (-61), 3) := by decide +kernel
theorem dX11_subscribe_208 : decode cX11_subscribe 208 = .ok (.aload_n 1, 1) := by decide +kernel
theorem dX11_subscribe_209 : decode cX11_subscribe 209 = .ok (.aload_n 0, 1) := by decide +kernel
theorem dX11_subscribe_210 : decode cX11_subscribe 210 = .ok (.getfield 48, 3) := by decide +kernel
theorem dX11_subscribe_213 : decode cX11_subscribe 213 = .ok (.invokevirtual 327, 3) := by decide +kernel
theorem dX11_subscribe_216 : decode cX11_subscribe 216 = .ok (.iconst 0, 1) := by decide +kernel
theorem dX11_subscribe_217 : decode cX11_subscribe 217 = .ok (.istore 8, 2) := by decide +kernel
theorem dX11_subscribe_219 : decode cX11_subscribe 219 = .ok (.iload 8, 2) := by decide +kernel
theorem dX11_subscribe_221 : decode cX11_subscribe 221 = .ok (.iload 7, 2) := by decide +kernel
theorem dX11_subscribe_223 : decode cX11_subscribe 223 = .ok (.if_icmp .ge 50, 3) := by decide +kernel
theorem dX11_subscribe_226 : decode cX11_subscribe 226 = .ok (.aload_n 0, 1) := by decide +kernel
theorem dX11_subscribe_227 : decode cX11_subscribe 227 = .ok (.getfield 66, 3) := by decide +kernel
theorem dX11_subscribe_230 : decode cX11_subscribe 230 = .ok (.iload 8, 2) := by decide +kernel
theorem dX11_subscribe_232 : decode cX11_subscribe 232 = .ok (.iaload, 1) := by decide +kernel
theorem dX11_subscribe_233 : decode cX11_subscribe 233 = .ok (.ifCond .lt 34, 3) := by decide +kernel
theorem dX11_subscribe_236 : decode cX11_subscribe 236 = .ok (.aload_n 0, 1) := by decide +kernel
theorem dX11_subscribe_237 : decode cX11_subscribe 237 = .ok (.getfield 66, 3) := by decide +kernel
theorem dX11_subscribe_240 : decode cX11_subscribe 240 = .ok (.iload 8, 2) := by decide +kernel
theorem dX11_subscribe_242 : decode cX11_subscribe 242 = .ok (.iaload, 1) := by decide +kernel
theorem dX11_subscribe_243 : decode cX11_subscribe 243 = .ok (.aload_n 2, 1) := by decide +kernel
theorem dX11_subscribe_244 : decode cX11_subscribe 244 = .ok (.getfield 158, 3) := by decide +kernel
theorem dX11_subscribe_247 : decode cX11_subscribe 247 = .ok (.if_icmp .ge 20, 3) := by decide +kernel
theorem dX11_subscribe_250 : decode cX11_subscribe 250 = .ok (.aload_n 0, 1) := by decide +kernel
theorem dX11_subscribe_251 : decode cX11_subscribe 251 = .ok (.aload_n 2, 1) := by decide +kernel
theorem dX11_subscribe_252 : decode cX11_subscribe 252 = .ok (.aload_n 2, 1) := by decide +kernel
theorem dX11_subscribe_253 : decode cX11_subscribe 253 = .ok (.getfield 261, 3) := by decide +kernel
theorem dX11_subscribe_256 : decode cX11_subscribe 256 = .ok (.aload_n 0, 1) := by decide +kernel
theorem dX11_subscribe_257 : decode cX11_subscribe 257 = .ok (.getfield 66, 3) := by decide +kernel
theorem dX11_subscribe_260 : decode cX11_subscribe 260 = .ok (.iload 8, 2) := by decide +kernel
theorem dX11_subscribe_262 : decode cX11_subscribe 262 = .ok (.iaload, 1) := by decide +kernel
theorem dX11_subscribe_263 : decode cX11_subscribe 263 = .ok (.aaload, 1) := by decide +kernel
theorem dX11_subscribe_264 : decode cX11_subscribe 264 = .ok (.invokevirtual 587, 3) := by decide +kernel
theorem dX11_subscribe_267 : decode cX11_subscribe 267 = .ok (.iinc 8 1, 3) := by decide +kernel
theorem dX11_subscribe_270 : decode cX11_subscribe 270 = .ok (.goto (-51), 3) := by decide +kernel
theorem dX11_subscribe_273 : decode cX11_subscribe 273 = .ok (.iconst 0, 1) := by decide +kernel
theorem dX11_subscribe_274 : decode cX11_subscribe 274 = .ok (.ireturn, 1) := by decide +kernel
theorem dX11_checkEntries_0 : decode cX11_checkEntries 0 = .ok (.iconst 0, 1) := by decide +kernel
theorem dX11_checkEntries_1 : decode cX11_checkEntries 1 = .ok (.istore_n 1, 1) := by decide +kernel
theorem dX11_checkEntries_2 : decode cX11_checkEntries 2 = .ok (.iconst 0, 1) := by decide +kernel
theorem dX11_checkEntries_3 : decode cX11_checkEntries 3 = .ok (.istore_n 2, 1) := by decide +kernel
theorem dX11_checkEntries_4 : decode cX11_checkEntries 4 = .ok (.iload_n 2, 1) := by decide +kernel
theorem dX11_checkEntries_5 : decode cX11_checkEntries 5 = .ok (.sipush 133, 3) := by decide +kernel
theorem dX11_checkEntries_8 : decode cX11_checkEntries 8 = .ok (.if_icmp .ge 117, 3) := by decide +kernel
theorem dX11_checkEntries_11 : decode cX11_checkEntries 11 = .ok (.aload_n 0, 1) := by decide +kernel
theorem dX11_checkEntries_12 : decode cX11_checkEntries 12 = .ok (.getfield 34, 3) := by decide +kernel
theorem dX11_checkEntries_15 : decode cX11_checkEntries 15 = .ok (.invokevirtual 347, 3) := by decide +kernel
theorem dX11_checkEntries_18 : decode cX11_checkEntries 18 = .ok (.ifCond .le 107, 3) := by decide +kernel
theorem dX11_checkEntries_21 : decode cX11_checkEntries 21 = .ok (.aload_n 0, 1) := by decide +kernel
theorem dX11_checkEntries_22 : decode cX11_checkEntries 22 = .ok (.getfield 34, 3) := by decide +kernel
theorem dX11_checkEntries_25 : decode cX11_checkEntries 25 = .ok (.iconst 1, 1) := by decide +kernel
theorem dX11_checkEntries_26 : decode cX11_checkEntries 26 = .ok (.invokevirtual 451, 3) := by decide +kernel
theorem dX11_checkEntries_29 : decode cX11_checkEntries 29 = .ok (.astore_n 3, 1) := by decide +kernel
theorem dX11_checkEntries_30 : decode cX11_checkEntries 30 = .ok (.aload_n 0, 1) := by decide +kernel
theorem dX11_checkEntries_31 : decode cX11_checkEntries 31 = .ok (.getfield 34, 3) := by decide +kernel
theorem dX11_checkEntries_34 : decode cX11_checkEntries 34 = .ok (.invokevirtual 349, 3) := by decide +kernel
theorem dX11_checkEntries_37 : decode cX11_checkEntries 37 = .ok (.istore 4, 2) := by decide +kernel
theorem dX11_checkEntries_39 : decode cX11_checkEntries 39 = .ok (.iload 4, 2) := by decide +kernel
theorem dX11_checkEntries_41 : decode cX11_checkEntries 41 = .ok (.sipush 192, 3) := by decide +kernel
theorem dX11_checkEntries_44 : decode cX11_checkEntries 44 = .ok (.iand, 1) := by decide +kernel
theorem dX11_checkEntries_45 : decode cX11_checkEntries 45 = .ok (.ifCond .eq 13, 3) := by decide +kernel
theorem dX11_checkEntries_48 : decode cX11_checkEntries 48 = .ok (.aload_n 0, 1) := by decide +kernel
theorem dX11_checkEntries_49 : decode cX11_checkEntries 49 = .ok (.getfield 34, 3) := by decide +kernel
theorem dX11_checkEntries_52 : decode cX11_checkEntries 52 = .ok (.sipush 129, 3) := by decide +kernel
theorem dX11_checkEntries_55 : decode cX11_checkEntries 55 = .ok (.invokevirtual 359, 3) := by decide +kernel
theorem dX11_checkEntries_58 : decode cX11_checkEntries 58 = .ok (.iload 4, 2) := by decide +kernel
theorem dX11_checkEntries_60 : decode cX11_checkEntries 60 = .ok (.iconst 3, 1) := by decide +kernel
theorem dX11_checkEntries_61 : decode cX11_checkEntries 61 = .ok (.iand, 1) := by decide +kernel
theorem dX11_checkEntries_62 : decode cX11_checkEntries 62 = .ok (.iconst 3, 1) := by decide +kernel
theorem dX11_checkEntries_63 : decode cX11_checkEntries 63 = .ok (.if_icmp .eq 13, 3) := by decide +kernel
theorem dX11_checkEntries_66 : decode cX11_checkEntries 66 = .ok (.iload 4, 2) := by decide +kernel
theorem dX11_checkEntries_68 : decode cX11_checkEntries 68 = .ok (.bipush 48, 2) := by decide +kernel
theorem dX11_checkEntries_70 : decode cX11_checkEntries 70 = .ok (.iand, 1) := by decide +kernel
theorem dX11_checkEntries_71 : decode cX11_checkEntries 71 = .ok (.bipush 48, 2) := by decide +kernel
theorem dX11_checkEntries_73 : decode cX11_checkEntries 73 = .ok (.if_icmp .ne 7, 3) := by decide +kernel
theorem dX11_checkEntries_76 : decode cX11_checkEntries 76 = .ok (.iconst 1, 1) := by decide +kernel
theorem dX11_checkEntries_77 : decode cX11_checkEntries 77 = .ok (.goto 4, 3) := by decide +kernel
theorem dX11_checkEntries_80 : decode cX11_checkEntries 80 = .ok (.iconst 0, 1) := by decide +kernel
theorem dX11_checkEntries_81 : decode cX11_checkEntries 81 = .ok (.istore 5, 2) := by decide +kernel
theorem dX11_checkEntries_83 : decode cX11_checkEntries 83 = .ok (.iload 5, 2) := by decide +kernel
theorem dX11_checkEntries_85 : decode cX11_checkEntries 85 = .ok (.ifCond .ne 21, 3) := by decide +kernel
theorem dX11_checkEntries_88 : decode cX11_checkEntries 88 = .ok (.iload 4, 2) := by decide +kernel
theorem dX11_checkEntries_90 : decode cX11_checkEntries 90 = .ok (.iconst 4, 1) := by decide +kernel
theorem dX11_checkEntries_91 : decode cX11_checkEntries 91 = .ok (.iand, 1) := by decide +kernel
theorem dX11_checkEntries_92 : decode cX11_checkEntries 92 = .ok (.ifCond .eq 24, 3) := by decide +kernel
theorem dX11_checkEntries_95 : decode cX11_checkEntries 95 = .ok (.aload_n 3, 1) := by decide +kernel
theorem dX11_checkEntries_96 : decode cX11_checkEntries 96 = .ok (.iconst 0, 1) := by decide +kernel
theorem dX11_checkEntries_97 : decode cX11_checkEntries 97 = .ok (.ldc_w 591, 3) := by decide +kernel
theorem dX11_checkEntries_100 : decode cX11_checkEntries 100 = .ok (.invokevirtual 593, 3) := by decide +kernel
theorem dX11_checkEntries_103 : decode cX11_checkEntries 103 = .ok (.ifCond .eq 13, 3) := by decide +kernel
theorem dX11_checkEntries_106 : decode cX11_checkEntries 106 = .ok (.aload_n 0, 1) := by decide +kernel
theorem dX11_checkEntries_107 : decode cX11_checkEntries 107 = .ok (.getfield 34, 3) := by decide +kernel
theorem dX11_checkEntries_110 : decode cX11_checkEntries 110 = .ok (.sipush 130, 3) := by decide +kernel
theorem dX11_checkEntries_113 : decode cX11_checkEntries 113 = .ok (.invokevirtual 359, 3) := by decide +kernel
theorem dX11_checkEntries_116 : decode cX11_checkEntries 116 = .ok (.iinc 1 1, 3) := by decide +kernel
theorem dX11_checkEntries_119 : decode cX11_checkEntries 119 = .ok (.iinc 2 1, 3) := by decide +kernel
theorem dX11_checkEntries_122 : decode cX11_checkEntries 122 = .ok (.goto (-118), 3) := by decide +kernel
theorem dX11_checkEntries_125 : decode cX11_checkEntries 125 = .ok (.iload_n 1, 1) := by decide +kernel
theorem dX11_checkEntries_126 : decode cX11_checkEntries 126 = .ok (.ifCond .ne 13, 3) := by decide +kernel
theorem dX11_checkEntries_129 : decode cX11_checkEntries 129 = .ok (.aload_n 0, 1) := by decide +kernel
theorem dX11_checkEntries_130 : decode cX11_checkEntries 130 = .ok (.getfield 34, 3) := by decide +kernel
theorem dX11_checkEntries_133 : decode cX11_checkEntries 133 = .ok (.sipush 130, 3) := by decide +kernel
theorem dX11_checkEntries_136 : decode cX11_checkEntries 136 = .ok (.invokevirtual 359, 3) := by decide +kernel
theorem dX11_checkEntries_139 : decode cX11_checkEntries 139 = .ok (.iload_n 1, 1) := by decide +kernel
theorem dX11_checkEntries_140 : decode cX11_checkEntries 140 = .ok (.ireturn, 1) := by decide +kernel
theorem dX11_giveRetained_0 : decode cX11_giveRetained 0 = .ok (.iconst 0, 1) := by decide +kernel
theorem dX11_giveRetained_1 : decode cX11_giveRetained 1 = .ok (.istore_n 3, 1) := by decide +kernel
theorem dX11_giveRetained_2 : decode cX11_giveRetained 2 = .ok (.iload_n 3, 1) := by decide +kernel
theorem dX11_giveRetained_3 : decode cX11_giveRetained 3 = .ok (.aload_n 0, 1) := by decide +kernel
theorem dX11_giveRetained_4 : decode cX11_giveRetained 4 = .ok (.getfield 27, 3) := by decide +kernel
theorem dX11_giveRetained_7 : decode cX11_giveRetained 7 = .ok (.getfield 244, 3) := by decide +kernel
theorem dX11_giveRetained_10 : decode cX11_giveRetained 10 = .ok (.if_icmp .ge 56, 3) := by decide +kernel
theorem dX11_giveRetained_13 : decode cX11_giveRetained 13 = .ok (.aload_n 0, 1) := by decide +kernel
theorem dX11_giveRetained_14 : decode cX11_giveRetained 14 = .ok (.getfield 27, 3) := by decide +kernel
theorem dX11_giveRetained_17 : decode cX11_giveRetained 17 = .ok (.getfield 597, 3) := by decide +kernel
theorem dX11_giveRetained_20 : decode cX11_giveRetained 20 = .ok (.iload_n 3, 1) := by decide +kernel
theorem dX11_giveRetained_21 : decode cX11_giveRetained 21 = .ok (.aaload, 1) := by decide +kernel
theorem dX11_giveRetained_22 : decode cX11_giveRetained 22 = .ok (.astore 4, 2) := by decide +kernel
theorem dX11_giveRetained_24 : decode cX11_giveRetained 24 = .ok (.aload_n 2, 1) := by decide +kernel
theorem dX11_giveRetained_25 : decode cX11_giveRetained 25 = .ok (.aload 4, 2) := by decide +kernel
theorem dX11_giveRetained_27 : decode cX11_giveRetained 27 = .ok (.getfield 219, 3) := by decide +kernel
theorem dX11_giveRetained_30 : decode cX11_giveRetained 30 = .ok (.invokevirtual 505, 3) := by decide +kernel
theorem dX11_giveRetained_33 : decode cX11_giveRetained 33 = .ok (.ifCond .eq 27, 3) := by decide +kernel
theorem dX11_giveRetained_36 : decode cX11_giveRetained 36 = .ok (.aload_n 0, 1) := by decide +kernel
theorem dX11_giveRetained_37 : decode cX11_giveRetained 37 = .ok (.aload_n 1, 1) := by decide +kernel
theorem dX11_giveRetained_38 : decode cX11_giveRetained 38 = .ok (.aload_n 2, 1) := by decide +kernel
theorem dX11_giveRetained_39 : decode cX11_giveRetained 39 = .ok (.aload 4, 2) := by decide +kernel
theorem dX11_giveRetained_41 : decode cX11_giveRetained 41 = .ok (.iconst 1, 1) := by decide +kernel
theorem dX11_giveRetained_42 : decode cX11_giveRetained 42 = .ok (.invokevirtual 516, 3) := by decide +kernel
theorem dX11_giveRetained_45 : decode cX11_giveRetained 45 = .ok (.astore 5, 2) := by decide +kernel
theorem dX11_giveRetained_47 : decode cX11_giveRetained 47 = .ok (.aload 5, 2) := by decide +kernel
theorem dX11_giveRetained_49 : decode cX11_giveRetained 49 = .ok (.ifnull 11, 3) := by decide +kernel
theorem dX11_giveRetained_52 : decode cX11_giveRetained 52 = .ok (.aload_n 0, 1) := by decide +kernel
theorem dX11_giveRetained_53 : decode cX11_giveRetained 53 = .ok (.aload_n 1, 1) := by decide +kernel
theorem dX11_giveRetained_54 : decode cX11_giveRetained 54 = .ok (.aload 5, 2) := by decide +kernel
theorem dX11_giveRetained_56 : decode cX11_giveRetained 56 = .ok (.iconst 0, 1) := by decide +kernel
theorem dX11_giveRetained_57 : decode cX11_giveRetained 57 = .ok (.invokevirtual 447, 3) := by decide +kernel
theorem dX11_giveRetained_60 : decode cX11_giveRetained 60 = .ok (.iinc 3 1, 3) := by decide +kernel
theorem dX11_giveRetained_63 : decode cX11_giveRetained 63 = .ok (.goto (-61), 3) := by decide +kernel
theorem dX11_giveRetained_66 : decode cX11_giveRetained 66 = .ok (.return_, 1) := by decide +kernel
theorem dX11_unsubscribe_0 : decode cX11_unsubscribe 0 = .ok (.aload_n 0, 1) := by decide +kernel
theorem dX11_unsubscribe_1 : decode cX11_unsubscribe 1 = .ok (.getfield 34, 3) := by decide +kernel
theorem dX11_unsubscribe_4 : decode cX11_unsubscribe 4 = .ok (.iload_n 3, 1) := by decide +kernel
theorem dX11_unsubscribe_5 : decode cX11_unsubscribe 5 = .ok (.iconst 2, 1) := by decide +kernel
theorem dX11_unsubscribe_6 : decode cX11_unsubscribe 6 = .ok (.invokevirtual 334, 3) := by decide +kernel
theorem dX11_unsubscribe_9 : decode cX11_unsubscribe 9 = .ok (.aload_n 0, 1) := by decide +kernel
theorem dX11_unsubscribe_10 : decode cX11_unsubscribe 10 = .ok (.getfield 34, 3) := by decide +kernel
theorem dX11_unsubscribe_13 : decode cX11_unsubscribe 13 = .ok (.invokevirtual 459, 3) := by decide +kernel
theorem dX11_unsubscribe_16 : decode cX11_unsubscribe 16 = .ok (.istore 4, 2) := by decide +kernel
theorem dX11_unsubscribe_18 : decode cX11_unsubscribe 18 = .ok (.aload_n 0, 1) := by decide +kernel
theorem dX11_unsubscribe_19 : decode cX11_unsubscribe 19 = .ok (.getfield 41, 3) := by decide +kernel
theorem dX11_unsubscribe_22 : decode cX11_unsubscribe 22 = .ok (.aload_n 0, 1) := by decide +kernel
theorem dX11_unsubscribe_23 : decode cX11_unsubscribe 23 = .ok (.getfield 34, 3) := by decide +kernel
theorem dX11_unsubscribe_26 : decode cX11_unsubscribe 26 = .ok (.ldc2_w 601, 3) := by decide +kernel
theorem dX11_unsubscribe_29 : decode cX11_unsubscribe 29 = .ok (.invokevirtual 353, 3) := by decide +kernel
theorem dX11_unsubscribe_32 : decode cX11_unsubscribe 32 = .ok (.aload_n 0, 1) := by decide +kernel
theorem dX11_unsubscribe_33 : decode cX11_unsubscribe 33 = .ok (.getfield 34, 3) := by decide +kernel
theorem dX11_unsubscribe_36 : decode cX11_unsubscribe 36 = .ok (.getfield 575, 3) := by decide +kernel
theorem dX11_unsubscribe_39 : decode cX11_unsubscribe 39 = .ok (.istore 5, 2) := by decide +kernel
theorem dX11_unsubscribe_41 : decode cX11_unsubscribe 41 = .ok (.iconst 0, 1) := by decide +kernel
theorem dX11_unsubscribe_42 : decode cX11_unsubscribe 42 = .ok (.istore 6, 2) := by decide +kernel
theorem dX11_unsubscribe_44 : decode cX11_unsubscribe 44 = .ok (.iconst 0, 1) := by decide +kernel
theorem dX11_unsubscribe_45 : decode cX11_unsubscribe 45 = .ok (.istore 7, 2) := by decide +kernel
theorem dX11_unsubscribe_47 : decode cX11_unsubscribe 47 = .ok (.iload 7, 2) := by decide +kernel
theorem dX11_unsubscribe_49 : decode cX11_unsubscribe 49 = .ok (.sipush 400, 3) := by decide +kernel
theorem dX11_unsubscribe_52 : decode cX11_unsubscribe 52 = .ok (.if_icmp .ge 31, 3) := by decide +kernel
theorem dX11_unsubscribe_55 : decode cX11_unsubscribe 55 = .ok (.aload_n 0, 1) := by decide +kernel
theorem dX11_unsubscribe_56 : decode cX11_unsubscribe 56 = .ok (.getfield 34, 3) := by decide +kernel
theorem dX11_unsubscribe_59 : decode cX11_unsubscribe 59 = .ok (.invokevirtual 347, 3) := by decide +kernel
theorem dX11_unsubscribe_62 : decode cX11_unsubscribe 62 = .ok (.ifCond .le 21, 3) := by decide +kernel
theorem dX11_unsubscribe_65 : decode cX11_unsubscribe 65 = .ok (.aload_n 0, 1) := by decide +kernel
theorem dX11_unsubscribe_66 : decode cX11_unsubscribe 66 = .ok (.getfield 34, 3) := by decide +kernel
theorem dX11_unsubscribe_69 : decode cX11_unsubscribe 69 = .ok (.iconst 1, 1) := by decide +kernel
theorem dX11_unsubscribe_70 : decode cX11_unsubscribe 70 = .ok (.invokevirtual 451, 3) := by decide +kernel
theorem dX11_unsubscribe_73 : decode cX11_unsubscribe 73 = .ok (.pop, 1) := by decide +kernel
theorem dX11_unsubscribe_74 : decode cX11_unsubscribe 74 = .ok (.iinc 6 1, 3) := by decide +kernel
theorem dX11_unsubscribe_77 : decode cX11_unsubscribe 77 = .ok (.iinc 7 1, 3) := by decide +kernel
theorem dX11_unsubscribe_80 : decode cX11_unsubscribe 80 = .ok (.goto (-33), 3) := by decide +kernel
theorem dX11_unsubscribe_83 : decode cX11_unsubscribe 83 = .ok (.iload 6, 2) := by decide +kernel
theorem dX11_unsubscribe_85 : decode cX11_unsubscribe 85 = .ok (.ifCond .ne 13, 3) := by decide +kernel
theorem dX11_unsubscribe_88 : decode cX11_unsubscribe 88 = .ok (.aload_n 0, 1) := by decide +kernel
theorem dX11_unsubscribe_89 : decode cX11_unsubscribe 89 = .ok (.getfield 34, 3) := by decide +kernel
theorem dX11_unsubscribe_92 : decode cX11_unsubscribe 92 = .ok (.sipush 130, 3) := by decide +kernel
theorem dX11_unsubscribe_95 : decode cX11_unsubscribe 95 = .ok (.invokevirtual 359, 3) := by decide +kernel
theorem dX11_unsubscribe_98 : decode cX11_unsubscribe 98 = .ok (.aload_n 0, 1) := by decide +kernel
theorem dX11_unsubscribe_99 : decode cX11_unsubscribe 99 = .ok (.getfield 34, 3) := by decide +kernel
theorem dX11_unsubscribe_102 : decode cX11_unsubscribe 102 = .ok (.getfield 341, 3) := by decide +kernel
theorem dX11_unsubscribe_105 : decode cX11_unsubscribe 105 = .ok (.ifCond .eq 11, 3) := by decide +kernel
theorem dX11_unsubscribe_108 : decode cX11_unsubscribe 108 = .ok (.aload_n 0, 1) := by decide +kernel
theorem dX11_unsubscribe_109 : decode cX11_unsubscribe 109 = .ok (.getfield 34, 3) := by decide +kernel
theorem dX11_unsubscribe_112 : decode cX11_unsubscribe 112 = .ok (.getfield 341, 3) := by decide +kernel
theorem dX11_unsubscribe_115 : decode cX11_unsubscribe 115 = .ok (.ireturn, 1) := by decide +kernel
theorem dX11_unsubscribe_116 : decode cX11_unsubscribe 116 = .ok (.aload_n 0, 1) := by decide +kernel
theorem dX11_unsubscribe_117 : decode cX11_unsubscribe 117 = .ok (.getfield 34, 3) := by decide +kernel
theorem dX11_unsubscribe_120 : decode cX11_unsubscribe 120 = .ok (.iload 5, 2) := by decide +kernel
theorem dX11_unsubscribe_122 : decode cX11_unsubscribe 122 = .ok (.putfield 575, 3) := by decide +kernel
theorem dX11_unsubscribe_125 : decode cX11_unsubscribe 125 = .ok (.aload_n 0, 1) := by decide +kernel
theorem dX11_unsubscribe_126 : decode cX11_unsubscribe 126 = .ok (.getfield 48, 3) := by decide +kernel
theorem dX11_unsubscribe_129 : decode cX11_unsubscribe 129 = .ok (.sipush 176, 3) := by decide +kernel
theorem dX11_unsubscribe_132 : decode cX11_unsubscribe 132 = .ok (.invokevirtual 322, 3) := by decide +kernel
theorem dX11_unsubscribe_135 : decode cX11_unsubscribe 135 = .ok (.aload_n 0, 1) := by decide +kernel
theorem dX11_unsubscribe_136 : decode cX11_unsubscribe 136 = .ok (.getfield 48, 3) := by decide +kernel
theorem dX11_unsubscribe_139 : decode cX11_unsubscribe 139 = .ok (.iload 4, 2) := by decide +kernel
theorem dX11_unsubscribe_141 : decode cX11_unsubscribe 141 = .ok (.invokevirtual 331, 3) := by decide +kernel
theorem dX11_unsubscribe_144 : decode cX11_unsubscribe 144 = .ok (.aload_n 0, 1) := by decide +kernel
theorem dX11_unsubscribe_145 : decode cX11_unsubscribe 145 = .ok (.getfield 48, 3) := by decide +kernel
theorem dX11_unsubscribe_148 : decode cX11_unsubscribe 148 = .ok (.iconst 0, 1) := by decide +kernel
theorem dX11_unsubscribe_149 : decode cX11_unsubscribe 149 = .ok (.invokevirtual 324, 3) := by decide +kernel
theorem dX11_unsubscribe_152 : decode cX11_unsubscribe 152 = .ok (.iconst 0, 1) := by decide +kernel
theorem dX11_unsubscribe_153 : decode cX11_unsubscribe 153 = .ok (.istore 7, 2) := by decide +kernel
theorem dX11_unsubscribe_155 : decode cX11_unsubscribe 155 = .ok (.iload 7, 2) := by decide +kernel
theorem dX11_unsubscribe_157 : decode cX11_unsubscribe 157 = .ok (.iload 6, 2) := by decide +kernel
theorem dX11_unsubscribe_159 : decode cX11_unsubscribe 159 = .ok (.if_icmp .ge 28, 3) := by decide +kernel
theorem dX11_unsubscribe_162 : decode cX11_unsubscribe 162 = .ok (.aload_n 0, 1) := by decide +kernel
theorem dX11_unsubscribe_163 : decode cX11_unsubscribe 163 = .ok (.getfield 48, 3) := by decide +kernel
theorem dX11_unsubscribe_166 : decode cX11_unsubscribe 166 = .ok (.aload_n 2, 1) := by decide +kernel
theorem dX11_unsubscribe_167 : decode cX11_unsubscribe 167 = .ok (.aload_n 0, 1) := by decide +kernel
theorem dX11_unsubscribe_168 : decode cX11_unsubscribe 168 = .ok (.getfield 34, 3) := by decide +kernel
theorem dX11_unsubscribe_171 : decode cX11_unsubscribe 171 = .ok (.iconst 1, 1) := by decide +kernel
theorem dX11_unsubscribe_172 : decode cX11_unsubscribe 172 = .ok (.invokevirtual 451, 3) := by decide +kernel
theorem dX11_unsubscribe_175 : decode cX11_unsubscribe 175 = .ok (.invokevirtual 603, 3) := by decide +kernel
theorem dX11_unsubscribe_178 : decode cX11_unsubscribe 178 = .ok (.invokevirtual 324, 3) := by decide +kernel
theorem dX11_unsubscribe_181 : decode cX11_unsubscribe 181 = .ok (.iinc 7 1, 3) := by decide +kernel
theorem dX11_unsubscribe_184 : decode cX11_unsubscribe 184 = .ok (.goto (-29), 3) := by decide +kernel
theorem dX11_unsubscribe_187 : decode cX11_unsubscribe 187 = .ok (.aload_n 1, 1) := by decide +kernel
theorem dX11_unsubscribe_188 : decode cX11_unsubscribe 188 = .ok (.aload_n 0, 1) := by decide +kernel
theorem dX11_unsubscribe_189 : decode cX11_unsubscribe 189 = .ok (.getfield 48, 3) := by decide +kernel
theorem dX11_unsubscribe_192 : decode cX11_unsubscribe 192 = .ok (.invokevirtual 327, 3) := by decide +kernel
theorem dX11_unsubscribe_195 : decode cX11_unsubscribe 195 = .ok (.iconst 0, 1) := by decide +kernel
theorem dX11_unsubscribe_196 : decode cX11_unsubscribe 196 = .ok (.ireturn, 1) := by decide +kernel
theorem dX11_lost_0 : decode cX11_lost 0 = .ok (.aload_n 1, 1) := by decide +kernel
theorem dX11_lost_1 : decode cX11_lost 1 = .ok (.getfield 286, 3) := by decide +kernel
theorem dX11_lost_4 : decode cX11_lost 4 = .ok (.astore_n 2, 1) := by decide +kernel
theorem dX11_lost_5 : decode cX11_lost 5 = .ok (.aload_n 1, 1) := by decide +kernel
theorem dX11_lost_6 : decode cX11_lost 6 = .ok (.invokevirtual 605, 3) := by decide +kernel
theorem dX11_lost_9 : decode cX11_lost 9 = .ok (.aload_n 2, 1) := by decide +kernel
theorem dX11_lost_10 : decode cX11_lost 10 = .ok (.ifnonnull 4, 3) := by decide +kernel
theorem dX11_lost_13 : decode cX11_lost 13 = .ok (.return_, 1) := by decide +kernel
theorem dX11_lost_14 : decode cX11_lost 14 = .ok (.aload_n 2, 1) := by decide +kernel
theorem dX11_lost_15 : decode cX11_lost 15 = .ok (.aconst_null, 1) := by decide +kernel
theorem dX11_lost_16 : decode cX11_lost 16 = .ok (.putfield 151, 3) := by decide +kernel
theorem dX11_lost_19 : decode cX11_lost 19 = .ok (.aload_n 2, 1) := by decide +kernel
theorem dX11_lost_20 : decode cX11_lost 20 = .ok (.aload_n 0, 1) := by decide +kernel
theorem dX11_lost_21 : decode cX11_lost 21 = .ok (.getfield 131, 3) := by decide +kernel
theorem dX11_lost_24 : decode cX11_lost 24 = .ok (.putfield 608, 3) := by decide +kernel
theorem dX11_lost_27 : decode cX11_lost 27 = .ok (.aload_n 2, 1) := by decide +kernel
theorem dX11_lost_28 : decode cX11_lost 28 = .ok (.getfield 610, 3) := by decide +kernel
theorem dX11_lost_31 : decode cX11_lost 31 = .ok (.lconst 0, 1) := by decide +kernel
theorem dX11_lost_32 : decode cX11_lost 32 = .ok (.lcmp, 1) := by decide +kernel
theorem dX11_lost_33 : decode cX11_lost 33 = .ok (.ifCond .eq 12, 3) := by decide +kernel
theorem dX11_lost_36 : decode cX11_lost 36 = .ok (.aload_n 2, 1) := by decide +kernel
theorem dX11_lost_37 : decode cX11_lost 37 = .ok (.getfield 190, 3) := by decide +kernel
theorem dX11_lost_40 : decode cX11_lost 40 = .ok (.lconst 0, 1) := by decide +kernel
theorem dX11_lost_41 : decode cX11_lost 41 = .ok (.lcmp, 1) := by decide +kernel
theorem dX11_lost_42 : decode cX11_lost 42 = .ok (.ifCond .ne 8, 3) := by decide +kernel
theorem dX11_lost_45 : decode cX11_lost 45 = .ok (.aload_n 0, 1) := by decide +kernel
theorem dX11_lost_46 : decode cX11_lost 46 = .ok (.aload_n 2, 1) := by decide +kernel
theorem dX11_lost_47 : decode cX11_lost 47 = .ok (.invokevirtual 613, 3) := by decide +kernel
theorem dX11_lost_50 : decode cX11_lost 50 = .ok (.aload_n 2, 1) := by decide +kernel
theorem dX11_lost_51 : decode cX11_lost 51 = .ok (.getfield 190, 3) := by decide +kernel
theorem dX11_lost_54 : decode cX11_lost 54 = .ok (.lconst 0, 1) := by decide +kernel
theorem dX11_lost_55 : decode cX11_lost 55 = .ok (.lcmp, 1) := by decide +kernel
theorem dX11_lost_56 : decode cX11_lost 56 = .ok (.ifCond .ne 8, 3) := by decide +kernel
theorem dX11_lost_59 : decode cX11_lost 59 = .ok (.aload_n 0, 1) := by decide +kernel
theorem dX11_lost_60 : decode cX11_lost 60 = .ok (.aload_n 2, 1) := by decide +kernel
theorem dX11_lost_61 : decode cX11_lost 61 = .ok (.invokevirtual 616, 3) := by decide +kernel
theorem dX11_lost_64 : decode cX11_lost 64 = .ok (.return_, 1) := by decide +kernel
theorem dX11_settle_0 : decode cX11_settle 0 = .ok (.iconst 0, 1) := by decide +kernel
theorem dX11_settle_1 : decode cX11_settle 1 = .ok (.istore_n 1, 1) := by decide +kernel
theorem dX11_settle_2 : decode cX11_settle 2 = .ok (.iload_n 1, 1) := by decide +kernel
theorem dX11_settle_3 : decode cX11_settle 3 = .ok (.bipush 8, 2) := by decide +kernel
theorem dX11_settle_5 : decode cX11_settle 5 = .ok (.if_icmp .ge 62, 3) := by decide +kernel
theorem dX11_settle_8 : decode cX11_settle 8 = .ok (.aconst_null, 1) := by decide +kernel
theorem dX11_settle_9 : decode cX11_settle 9 = .ok (.astore_n 2, 1) := by decide +kernel
theorem dX11_settle_10 : decode cX11_settle 10 = .ok (.iconst 0, 1) := by decide +kernel
theorem dX11_settle_11 : decode cX11_settle 11 = .ok (.istore_n 3, 1) := by decide +kernel
theorem dX11_settle_12 : decode cX11_settle 12 = .ok (.iload_n 3, 1) := by decide +kernel
theorem dX11_settle_13 : decode cX11_settle 13 = .ok (.bipush 8, 2) := by decide +kernel
theorem dX11_settle_15 : decode cX11_settle 15 = .ok (.if_icmp .ge 36, 3) := by decide +kernel
theorem dX11_settle_18 : decode cX11_settle 18 = .ok (.aload_n 2, 1) := by decide +kernel
theorem dX11_settle_19 : decode cX11_settle 19 = .ok (.ifnonnull 32, 3) := by decide +kernel
theorem dX11_settle_22 : decode cX11_settle 22 = .ok (.aload_n 0, 1) := by decide +kernel
theorem dX11_settle_23 : decode cX11_settle 23 = .ok (.getfield 11, 3) := by decide +kernel
theorem dX11_settle_26 : decode cX11_settle 26 = .ok (.iload_n 3, 1) := by decide +kernel
theorem dX11_settle_27 : decode cX11_settle 27 = .ok (.aaload, 1) := by decide +kernel
theorem dX11_settle_28 : decode cX11_settle 28 = .ok (.getfield 619, 3) := by decide +kernel
theorem dX11_settle_31 : decode cX11_settle 31 = .ok (.ifCond .eq 12, 3) := by decide +kernel
theorem dX11_settle_34 : decode cX11_settle 34 = .ok (.aload_n 0, 1) := by decide +kernel
theorem dX11_settle_35 : decode cX11_settle 35 = .ok (.getfield 11, 3) := by decide +kernel
theorem dX11_settle_38 : decode cX11_settle 38 = .ok (.iload_n 3, 1) := by decide +kernel
theorem dX11_settle_39 : decode cX11_settle 39 = .ok (.aaload, 1) := by decide +kernel
theorem dX11_settle_40 : decode cX11_settle 40 = .ok (.goto 4, 3) := by decide +kernel
theorem dX11_settle_43 : decode cX11_settle 43 = .ok (.aconst_null, 1) := by decide +kernel
theorem dX11_settle_44 : decode cX11_settle 44 = .ok (.astore_n 2, 1) := by decide +kernel
theorem dX11_settle_45 : decode cX11_settle 45 = .ok (.iinc 3 1, 3) := by decide +kernel
theorem dX11_settle_48 : decode cX11_settle 48 = .ok (.goto (-36), 3) := by decide +kernel
theorem dX11_settle_51 : decode cX11_settle 51 = .ok (.aload_n 2, 1) := by decide +kernel
theorem dX11_settle_52 : decode cX11_settle 52 = .ok (.ifnonnull 4, 3) := by decide +kernel
theorem dX11_settle_55 : decode cX11_settle 55 = .ok (.return_, 1) := by decide +kernel
theorem dX11_settle_56 : decode cX11_settle 56 = .ok (.aload_n 0, 1) := by decide +kernel
theorem dX11_settle_57 : decode cX11_settle 57 = .ok (.aload_n 2, 1) := by decide +kernel
theorem dX11_settle_58 : decode cX11_settle 58 = .ok (.invokevirtual 103, 3) := by decide +kernel
theorem dX11_settle_61 : decode cX11_settle 61 = .ok (.iinc 1 1, 3) := by decide +kernel
theorem dX11_settle_64 : decode cX11_settle 64 = .ok (.goto (-62), 3) := by decide +kernel
theorem dX11_settle_67 : decode cX11_settle 67 = .ok (.return_, 1) := by decide +kernel
theorem dX11_comes_0 : decode cX11_comes 0 = .ok (.aload_n 1, 1) := by decide +kernel
theorem dX11_comes_1 : decode cX11_comes 1 = .ok (.getfield 170, 3) := by decide +kernel
theorem dX11_comes_4 : decode cX11_comes 4 = .ok (.astore_n 2, 1) := by decide +kernel
theorem dX11_comes_5 : decode cX11_comes 5 = .ok (.aload_n 2, 1) := by decide +kernel
theorem dX11_comes_6 : decode cX11_comes 6 = .ok (.ifnonnull 4, 3) := by decide +kernel
theorem dX11_comes_9 : decode cX11_comes 9 = .ok (.return_, 1) := by decide +kernel
theorem dX11_comes_10 : decode cX11_comes 10 = .ok (.aload_n 1, 1) := by decide +kernel
theorem dX11_comes_11 : decode cX11_comes 11 = .ok (.aconst_null, 1) := by decide +kernel
theorem dX11_comes_12 : decode cX11_comes 12 = .ok (.putfield 170, 3) := by decide +kernel
theorem dX11_comes_15 : decode cX11_comes 15 = .ok (.aload_n 2, 1) := by decide +kernel
theorem dX11_comes_16 : decode cX11_comes 16 = .ok (.aload_n 0, 1) := by decide +kernel
theorem dX11_comes_17 : decode cX11_comes 17 = .ok (.getfield 131, 3) := by decide +kernel
theorem dX11_comes_20 : decode cX11_comes 20 = .ok (.putfield 485, 3) := by decide +kernel
theorem dX11_comes_23 : decode cX11_comes 23 = .ok (.aload_n 2, 1) := by decide +kernel
theorem dX11_comes_24 : decode cX11_comes 24 = .ok (.getfield 492, 3) := by decide +kernel
theorem dX11_comes_27 : decode cX11_comes 27 = .ok (.ifCond .eq 16, 3) := by decide +kernel
theorem dX11_comes_30 : decode cX11_comes 30 = .ok (.aload_n 0, 1) := by decide +kernel
theorem dX11_comes_31 : decode cX11_comes 31 = .ok (.getfield 27, 3) := by decide +kernel
theorem dX11_comes_34 : decode cX11_comes 34 = .ok (.aload_n 2, 1) := by decide +kernel
theorem dX11_comes_35 : decode cX11_comes 35 = .ok (.aload_n 0, 1) := by decide +kernel
theorem dX11_comes_36 : decode cX11_comes 36 = .ok (.getfield 131, 3) := by decide +kernel
theorem dX11_comes_39 : decode cX11_comes 39 = .ok (.invokevirtual 495, 3) := by decide +kernel
theorem dX11_comes_42 : decode cX11_comes 42 = .ok (.pop, 1) := by decide +kernel
theorem dX11_comes_43 : decode cX11_comes 43 = .ok (.aload_n 0, 1) := by decide +kernel
theorem dX11_comes_44 : decode cX11_comes 44 = .ok (.aload_n 2, 1) := by decide +kernel
theorem dX11_comes_45 : decode cX11_comes 45 = .ok (.aload_n 1, 1) := by decide +kernel
theorem dX11_comes_46 : decode cX11_comes 46 = .ok (.invokevirtual 498, 3) := by decide +kernel
theorem dX11_comes_49 : decode cX11_comes 49 = .ok (.pop, 1) := by decide +kernel
theorem dX11_comes_50 : decode cX11_comes 50 = .ok (.return_, 1) := by decide +kernel
theorem dX11_end_0 : decode cX11_end 0 = .ok (.aload_n 0, 1) := by decide +kernel
theorem dX11_end_1 : decode cX11_end 1 = .ok (.aload_n 1, 1) := by decide +kernel
theorem dX11_end_2 : decode cX11_end 2 = .ok (.invokevirtual 613, 3) := by decide +kernel
theorem dX11_end_5 : decode cX11_end 5 = .ok (.aload_n 0, 1) := by decide +kernel
theorem dX11_end_6 : decode cX11_end 6 = .ok (.aload_n 1, 1) := by decide +kernel
theorem dX11_end_7 : decode cX11_end 7 = .ok (.invokevirtual 616, 3) := by decide +kernel
theorem dX11_end_10 : decode cX11_end 10 = .ok (.return_, 1) := by decide +kernel
theorem dX11_remove_0 : decode cX11_remove 0 = .ok (.aload_n 0, 1) := by decide +kernel
theorem dX11_remove_1 : decode cX11_remove 1 = .ok (.getfield 20, 3) := by decide +kernel
theorem dX11_remove_4 : decode cX11_remove 4 = .ok (.aload_n 1, 1) := by decide +kernel
theorem dX11_remove_5 : decode cX11_remove 5 = .ok (.getfield 523, 3) := by decide +kernel
theorem dX11_remove_8 : decode cX11_remove 8 = .ok (.aconst_null, 1) := by decide +kernel
theorem dX11_remove_9 : decode cX11_remove 9 = .ok (.aastore, 1) := by decide +kernel
theorem dX11_remove_10 : decode cX11_remove 10 = .ok (.aload_n 0, 1) := by decide +kernel
theorem dX11_remove_11 : decode cX11_remove 11 = .ok (.dup, 1) := by decide +kernel
theorem dX11_remove_12 : decode cX11_remove 12 = .ok (.getfield 134, 3) := by decide +kernel
theorem dX11_remove_15 : decode cX11_remove 15 = .ok (.iconst 1, 1) := by decide +kernel
theorem dX11_remove_16 : decode cX11_remove 16 = .ok (.iadd, 1) := by decide +kernel
theorem dX11_remove_17 : decode cX11_remove 17 = .ok (.putfield 134, 3) := by decide +kernel
theorem dX11_remove_20 : decode cX11_remove 20 = .ok (.return_, 1) := by decide +kernel
theorem dX11_tick_0 : decode cX11_tick 0 = .ok (.aload_n 0, 1) := by decide +kernel
theorem dX11_tick_1 : decode cX11_tick 1 = .ok (.getfield 27, 3) := by decide +kernel
theorem dX11_tick_4 : decode cX11_tick 4 = .ok (.aload_n 0, 1) := by decide +kernel
theorem dX11_tick_5 : decode cX11_tick 5 = .ok (.getfield 131, 3) := by decide +kernel
theorem dX11_tick_8 : decode cX11_tick 8 = .ok (.invokevirtual 622, 3) := by decide +kernel
theorem dX11_tick_11 : decode cX11_tick 11 = .ok (.iconst 0, 1) := by decide +kernel
theorem dX11_tick_12 : decode cX11_tick 12 = .ok (.istore_n 1, 1) := by decide +kernel
theorem dX11_tick_13 : decode cX11_tick 13 = .ok (.iload_n 1, 1) := by decide +kernel
theorem dX11_tick_14 : decode cX11_tick 14 = .ok (.bipush 8, 2) := by decide +kernel
theorem dX11_tick_16 : decode cX11_tick 16 = .ok (.if_icmp .ge 49, 3) := by decide +kernel
theorem dX11_tick_19 : decode cX11_tick 19 = .ok (.aload_n 0, 1) := by decide +kernel
theorem dX11_tick_20 : decode cX11_tick 20 = .ok (.getfield 11, 3) := by decide +kernel
theorem dX11_tick_23 : decode cX11_tick 23 = .ok (.iload_n 1, 1) := by decide +kernel
theorem dX11_tick_24 : decode cX11_tick 24 = .ok (.aaload, 1) := by decide +kernel
theorem dX11_tick_25 : decode cX11_tick 25 = .ok (.astore_n 2, 1) := by decide +kernel
theorem dX11_tick_26 : decode cX11_tick 26 = .ok (.aload_n 2, 1) := by decide +kernel
theorem dX11_tick_27 : decode cX11_tick 27 = .ok (.getfield 286, 3) := by decide +kernel
theorem dX11_tick_30 : decode cX11_tick 30 = .ok (.ifnull 29, 3) := by decide +kernel
theorem dX11_tick_33 : decode cX11_tick 33 = .ok (.aload_n 2, 1) := by decide +kernel
theorem dX11_tick_34 : decode cX11_tick 34 = .ok (.invokevirtual 625, 3) := by decide +kernel
theorem dX11_tick_37 : decode cX11_tick 37 = .ok (.aload_n 0, 1) := by decide +kernel
theorem dX11_tick_38 : decode cX11_tick 38 = .ok (.getfield 131, 3) := by decide +kernel
theorem dX11_tick_41 : decode cX11_tick 41 = .ok (.i2l, 1) := by decide +kernel
theorem dX11_tick_42 : decode cX11_tick 42 = .ok (.lcmp, 1) := by decide +kernel
theorem dX11_tick_43 : decode cX11_tick 43 = .ok (.ifCond .ge 16, 3) := by decide +kernel
theorem dX11_tick_46 : decode cX11_tick 46 = .ok (.aload_n 0, 1) := by decide +kernel
theorem dX11_tick_47 : decode cX11_tick 47 = .ok (.aload_n 2, 1) := by decide +kernel
theorem dX11_tick_48 : decode cX11_tick 48 = .ok (.sipush 141, 3) := by decide +kernel
theorem dX11_tick_51 : decode cX11_tick 51 = .ok (.invokevirtual 319, 3) := by decide +kernel
theorem dX11_tick_54 : decode cX11_tick 54 = .ok (.aload_n 0, 1) := by decide +kernel
theorem dX11_tick_55 : decode cX11_tick 55 = .ok (.aload_n 2, 1) := by decide +kernel
theorem dX11_tick_56 : decode cX11_tick 56 = .ok (.invokevirtual 103, 3) := by decide +kernel
theorem dX11_tick_59 : decode cX11_tick 59 = .ok (.iinc 1 1, 3) := by decide +kernel
theorem dX11_tick_62 : decode cX11_tick 62 = .ok (.goto (-49), 3) := by decide +kernel
theorem dX11_tick_65 : decode cX11_tick 65 = .ok (.iconst 0, 1) := by decide +kernel
theorem dX11_tick_66 : decode cX11_tick 66 = .ok (.istore_n 1, 1) := by decide +kernel
theorem dX11_tick_67 : decode cX11_tick 67 = .ok (.iload_n 1, 1) := by decide +kernel
theorem dX11_tick_68 : decode cX11_tick 68 = .ok (.bipush 12, 2) := by decide +kernel
theorem dX11_tick_70 : decode cX11_tick 70 = .ok (.if_icmp .ge 38, 3) := by decide +kernel
theorem dX11_tick_73 : decode cX11_tick 73 = .ok (.aload_n 0, 1) := by decide +kernel
theorem dX11_tick_74 : decode cX11_tick 74 = .ok (.getfield 20, 3) := by decide +kernel
theorem dX11_tick_77 : decode cX11_tick 77 = .ok (.iload_n 1, 1) := by decide +kernel
theorem dX11_tick_78 : decode cX11_tick 78 = .ok (.aaload, 1) := by decide +kernel
theorem dX11_tick_79 : decode cX11_tick 79 = .ok (.astore_n 2, 1) := by decide +kernel
theorem dX11_tick_80 : decode cX11_tick 80 = .ok (.aload_n 2, 1) := by decide +kernel
theorem dX11_tick_81 : decode cX11_tick 81 = .ok (.ifnull 21, 3) := by decide +kernel
theorem dX11_tick_84 : decode cX11_tick 84 = .ok (.aload_n 2, 1) := by decide +kernel
theorem dX11_tick_85 : decode cX11_tick 85 = .ok (.invokevirtual 628, 3) := by decide +kernel
theorem dX11_tick_88 : decode cX11_tick 88 = .ok (.aload_n 0, 1) := by decide +kernel
theorem dX11_tick_89 : decode cX11_tick 89 = .ok (.getfield 131, 3) := by decide +kernel
theorem dX11_tick_92 : decode cX11_tick 92 = .ok (.i2l, 1) := by decide +kernel
theorem dX11_tick_93 : decode cX11_tick 93 = .ok (.lcmp, 1) := by decide +kernel
theorem dX11_tick_94 : decode cX11_tick 94 = .ok (.ifCond .gt 8, 3) := by decide +kernel
theorem dX11_tick_97 : decode cX11_tick 97 = .ok (.aload_n 0, 1) := by decide +kernel
theorem dX11_tick_98 : decode cX11_tick 98 = .ok (.aload_n 2, 1) := by decide +kernel
theorem dX11_tick_99 : decode cX11_tick 99 = .ok (.invokevirtual 613, 3) := by decide +kernel
theorem dX11_tick_102 : decode cX11_tick 102 = .ok (.iinc 1 1, 3) := by decide +kernel
theorem dX11_tick_105 : decode cX11_tick 105 = .ok (.goto (-38), 3) := by decide +kernel
theorem dX11_tick_108 : decode cX11_tick 108 = .ok (.iconst 0, 1) := by decide +kernel
theorem dX11_tick_109 : decode cX11_tick 109 = .ok (.istore_n 1, 1) := by decide +kernel
theorem dX11_tick_110 : decode cX11_tick 110 = .ok (.iload_n 1, 1) := by decide +kernel
theorem dX11_tick_111 : decode cX11_tick 111 = .ok (.bipush 12, 2) := by decide +kernel
theorem dX11_tick_113 : decode cX11_tick 113 = .ok (.if_icmp .ge 38, 3) := by decide +kernel
theorem dX11_tick_116 : decode cX11_tick 116 = .ok (.aload_n 0, 1) := by decide +kernel
theorem dX11_tick_117 : decode cX11_tick 117 = .ok (.getfield 20, 3) := by decide +kernel
theorem dX11_tick_120 : decode cX11_tick 120 = .ok (.iload_n 1, 1) := by decide +kernel
theorem dX11_tick_121 : decode cX11_tick 121 = .ok (.aaload, 1) := by decide +kernel
theorem dX11_tick_122 : decode cX11_tick 122 = .ok (.astore_n 2, 1) := by decide +kernel
theorem dX11_tick_123 : decode cX11_tick 123 = .ok (.aload_n 2, 1) := by decide +kernel
theorem dX11_tick_124 : decode cX11_tick 124 = .ok (.ifnull 21, 3) := by decide +kernel
theorem dX11_tick_127 : decode cX11_tick 127 = .ok (.aload_n 2, 1) := by decide +kernel
theorem dX11_tick_128 : decode cX11_tick 128 = .ok (.invokevirtual 631, 3) := by decide +kernel
theorem dX11_tick_131 : decode cX11_tick 131 = .ok (.aload_n 0, 1) := by decide +kernel
theorem dX11_tick_132 : decode cX11_tick 132 = .ok (.getfield 131, 3) := by decide +kernel
theorem dX11_tick_135 : decode cX11_tick 135 = .ok (.i2l, 1) := by decide +kernel
theorem dX11_tick_136 : decode cX11_tick 136 = .ok (.lcmp, 1) := by decide +kernel
theorem dX11_tick_137 : decode cX11_tick 137 = .ok (.ifCond .gt 8, 3) := by decide +kernel
theorem dX11_tick_140 : decode cX11_tick 140 = .ok (.aload_n 0, 1) := by decide +kernel
theorem dX11_tick_141 : decode cX11_tick 141 = .ok (.aload_n 2, 1) := by decide +kernel
theorem dX11_tick_142 : decode cX11_tick 142 = .ok (.invokevirtual 378, 3) := by decide +kernel
theorem dX11_tick_145 : decode cX11_tick 145 = .ok (.iinc 1 1, 3) := by decide +kernel
theorem dX11_tick_148 : decode cX11_tick 148 = .ok (.goto (-38), 3) := by decide +kernel
theorem dX11_tick_151 : decode cX11_tick 151 = .ok (.return_, 1) := by decide +kernel
theorem dX11_nextEvent_0 : decode cX11_nextEvent 0 = .ok (.ldc2_w 634, 3) := by decide +kernel
theorem dX11_nextEvent_3 : decode cX11_nextEvent 3 = .ok (.lstore_n 1, 1) := by decide +kernel
theorem dX11_nextEvent_4 : decode cX11_nextEvent 4 = .ok (.iconst 0, 1) := by decide +kernel
theorem dX11_nextEvent_5 : decode cX11_nextEvent 5 = .ok (.istore_n 3, 1) := by decide +kernel
theorem dX11_nextEvent_6 : decode cX11_nextEvent 6 = .ok (.iload_n 3, 1) := by decide +kernel
theorem dX11_nextEvent_7 : decode cX11_nextEvent 7 = .ok (.bipush 8, 2) := by decide +kernel
theorem dX11_nextEvent_9 : decode cX11_nextEvent 9 = .ok (.if_icmp .ge 25, 3) := by decide +kernel
theorem dX11_nextEvent_12 : decode cX11_nextEvent 12 = .ok (.lload_n 1, 1) := by decide +kernel
theorem dX11_nextEvent_13 : decode cX11_nextEvent 13 = .ok (.aload_n 0, 1) := by decide +kernel
theorem dX11_nextEvent_14 : decode cX11_nextEvent 14 = .ok (.getfield 11, 3) := by decide +kernel
theorem dX11_nextEvent_17 : decode cX11_nextEvent 17 = .ok (.iload_n 3, 1) := by decide +kernel
theorem dX11_nextEvent_18 : decode cX11_nextEvent 18 = .ok (.aaload, 1) := by decide +kernel
theorem dX11_nextEvent_19 : decode cX11_nextEvent 19 = .ok (.invokevirtual 625, 3) := by decide +kernel
theorem dX11_nextEvent_22 : decode cX11_nextEvent 22 = .ok (.lconst 1, 1) := by decide +kernel
theorem dX11_nextEvent_23 : decode cX11_nextEvent 23 = .ok (.ladd, 1) := by decide +kernel
theorem dX11_nextEvent_24 : decode cX11_nextEvent 24 = .ok (.invokestatic 141, 3) := by decide +kernel
theorem dX11_nextEvent_27 : decode cX11_nextEvent 27 = .ok (.lstore_n 1, 1) := by decide +kernel
theorem dX11_nextEvent_28 : decode cX11_nextEvent 28 = .ok (.iinc 3 1, 3) := by decide +kernel
theorem dX11_nextEvent_31 : decode cX11_nextEvent 31 = .ok (.goto (-25), 3) := by decide +kernel
theorem dX11_nextEvent_34 : decode cX11_nextEvent 34 = .ok (.iconst 0, 1) := by decide +kernel
theorem dX11_nextEvent_35 : decode cX11_nextEvent 35 = .ok (.istore_n 3, 1) := by decide +kernel
theorem dX11_nextEvent_36 : decode cX11_nextEvent 36 = .ok (.iload_n 3, 1) := by decide +kernel
theorem dX11_nextEvent_37 : decode cX11_nextEvent 37 = .ok (.bipush 12, 2) := by decide +kernel
theorem dX11_nextEvent_39 : decode cX11_nextEvent 39 = .ok (.if_icmp .ge 40, 3) := by decide +kernel
theorem dX11_nextEvent_42 : decode cX11_nextEvent 42 = .ok (.aload_n 0, 1) := by decide +kernel
theorem dX11_nextEvent_43 : decode cX11_nextEvent 43 = .ok (.getfield 20, 3) := by decide +kernel
theorem dX11_nextEvent_46 : decode cX11_nextEvent 46 = .ok (.iload_n 3, 1) := by decide +kernel
theorem dX11_nextEvent_47 : decode cX11_nextEvent 47 = .ok (.aaload, 1) := by decide +kernel
theorem dX11_nextEvent_48 : decode cX11_nextEvent 48 = .ok (.astore 4, 2) := by decide +kernel
theorem dX11_nextEvent_50 : decode cX11_nextEvent 50 = .ok (.aload 4, 2) := by decide +kernel
theorem dX11_nextEvent_52 : decode cX11_nextEvent 52 = .ok (.ifnull 21, 3) := by decide +kernel
theorem dX11_nextEvent_55 : decode cX11_nextEvent 55 = .ok (.lload_n 1, 1) := by decide +kernel
theorem dX11_nextEvent_56 : decode cX11_nextEvent 56 = .ok (.aload 4, 2) := by decide +kernel
theorem dX11_nextEvent_58 : decode cX11_nextEvent 58 = .ok (.invokevirtual 628, 3) := by decide +kernel
theorem dX11_nextEvent_61 : decode cX11_nextEvent 61 = .ok (.aload 4, 2) := by decide +kernel
theorem dX11_nextEvent_63 : decode cX11_nextEvent 63 = .ok (.invokevirtual 631, 3) := by decide +kernel
theorem dX11_nextEvent_66 : decode cX11_nextEvent 66 = .ok (.invokestatic 141, 3) := by decide +kernel
theorem dX11_nextEvent_69 : decode cX11_nextEvent 69 = .ok (.invokestatic 141, 3) := by decide +kernel
theorem dX11_nextEvent_72 : decode cX11_nextEvent 72 = .ok (.lstore_n 1, 1) := by decide +kernel
theorem dX11_nextEvent_73 : decode cX11_nextEvent 73 = .ok (.iinc 3 1, 3) := by decide +kernel
theorem dX11_nextEvent_76 : decode cX11_nextEvent 76 = .ok (.goto (-40), 3) := by decide +kernel
theorem dX11_nextEvent_79 : decode cX11_nextEvent 79 = .ok (.lload_n 1, 1) := by decide +kernel
theorem dX11_nextEvent_80 : decode cX11_nextEvent 80 = .ok (.aload_n 0, 1) := by decide +kernel
theorem dX11_nextEvent_81 : decode cX11_nextEvent 81 = .ok (.getfield 131, 3) := by decide +kernel
theorem dX11_nextEvent_84 : decode cX11_nextEvent 84 = .ok (.iconst 1, 1) := by decide +kernel
theorem dX11_nextEvent_85 : decode cX11_nextEvent 85 = .ok (.iadd, 1) := by decide +kernel
theorem dX11_nextEvent_86 : decode cX11_nextEvent 86 = .ok (.i2l, 1) := by decide +kernel
theorem dX11_nextEvent_87 : decode cX11_nextEvent 87 = .ok (.invokestatic 636, 3) := by decide +kernel
theorem dX11_nextEvent_90 : decode cX11_nextEvent 90 = .ok (.lreturn, 1) := by decide +kernel
theorem dJ7_copyOf_9075b_0 : decode cJ7_copyOf_9075b 0 = .ok (.iload_n 1, 1) := by decide +kernel
theorem dJ7_copyOf_9075b_1 : decode cJ7_copyOf_9075b 1 = .ok (.aload_n 0, 1) := by decide +kernel
theorem dJ7_copyOf_9075b_2 : decode cJ7_copyOf_9075b 2 = .ok (.arraylength, 1) := by decide +kernel
theorem dJ7_copyOf_9075b_3 : decode cJ7_copyOf_9075b 3 = .ok (.if_icmp .ne 11, 3) := by decide +kernel
theorem dJ7_copyOf_9075b_6 : decode cJ7_copyOf_9075b 6 = .ok (.aload_n 0, 1) := by decide +kernel
theorem dJ7_copyOf_9075b_7 : decode cJ7_copyOf_9075b 7 = .ok (.invokevirtual 310, 3) := by decide +kernel
theorem dJ7_copyOf_9075b_10 : decode cJ7_copyOf_9075b 10 = .ok (.checkcast 311, 3) := by decide +kernel
theorem dJ7_copyOf_9075b_13 : decode cJ7_copyOf_9075b 13 = .ok (.areturn, 1) := by decide +kernel
theorem dJ7_copyOf_9075b_14 : decode cJ7_copyOf_9075b 14 = .ok (.iload_n 1, 1) := by decide +kernel
theorem dJ7_copyOf_9075b_15 : decode cJ7_copyOf_9075b 15 = .ok (.newarray .byte, 2) := by decide +kernel
theorem dJ7_copyOf_9075b_17 : decode cJ7_copyOf_9075b 17 = .ok (.astore_n 2, 1) := by decide +kernel
theorem dJ7_copyOf_9075b_18 : decode cJ7_copyOf_9075b 18 = .ok (.aload_n 0, 1) := by decide +kernel
theorem dJ7_copyOf_9075b_19 : decode cJ7_copyOf_9075b 19 = .ok (.iconst 0, 1) := by decide +kernel
theorem dJ7_copyOf_9075b_20 : decode cJ7_copyOf_9075b 20 = .ok (.aload_n 2, 1) := by decide +kernel
theorem dJ7_copyOf_9075b_21 : decode cJ7_copyOf_9075b 21 = .ok (.iconst 0, 1) := by decide +kernel
theorem dJ7_copyOf_9075b_22 : decode cJ7_copyOf_9075b 22 = .ok (.aload_n 0, 1) := by decide +kernel
theorem dJ7_copyOf_9075b_23 : decode cJ7_copyOf_9075b 23 = .ok (.arraylength, 1) := by decide +kernel
