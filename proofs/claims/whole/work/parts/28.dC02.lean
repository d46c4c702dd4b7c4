theorem dX10_publish_26 : decode cX10_publish 26 = .ok (.ior, 1) := by decide +kernel
theorem dX10_publish_27 : decode cX10_publish 27 = .ok (.aload_n 1, 1) := by decide +kernel
theorem dX10_publish_28 : decode cX10_publish 28 = .ok (.getfield 41, 3) := by decide +kernel
theorem dX10_publish_31 : decode cX10_publish 31 = .ok (.ifCond .eq 7, 3) := by decide +kernel
theorem dX10_publish_34 : decode cX10_publish 34 = .ok (.iconst 1, 1) := by decide +kernel
theorem dX10_publish_35 : decode cX10_publish 35 = .ok (.goto 4, 3) := by decide +kernel
theorem dX10_publish_38 : decode cX10_publish 38 = .ok (.iconst 0, 1) := by decide +kernel
theorem dX10_publish_39 : decode cX10_publish 39 = .ok (.ior, 1) := by decide +kernel
theorem dX10_publish_40 : decode cX10_publish 40 = .ok (.invokevirtual 45, 3) := by decide +kernel
theorem dX10_publish_43 : decode cX10_publish 43 = .ok (.aload_n 0, 1) := by decide +kernel
theorem dX10_publish_44 : decode cX10_publish 44 = .ok (.aload 4, 2) := by decide +kernel
theorem dX10_publish_46 : decode cX10_publish 46 = .ok (.getfield 49, 3) := by decide +kernel
theorem dX10_publish_49 : decode cX10_publish 49 = .ok (.invokevirtual 55, 3) := by decide +kernel
theorem dX10_publish_52 : decode cX10_publish 52 = .ok (.invokevirtual 58, 3) := by decide +kernel
theorem dX10_publish_55 : decode cX10_publish 55 = .ok (.aload_n 0, 1) := by decide +kernel
theorem dX10_publish_56 : decode cX10_publish 56 = .ok (.aload 4, 2) := by decide +kernel
theorem dX10_publish_58 : decode cX10_publish 58 = .ok (.getfield 49, 3) := by decide +kernel
theorem dX10_publish_61 : decode cX10_publish 61 = .ok (.invokevirtual 61, 3) := by decide +kernel
theorem dX10_publish_64 : decode cX10_publish 64 = .ok (.aload_n 1, 1) := by decide +kernel
theorem dX10_publish_65 : decode cX10_publish 65 = .ok (.getfield 38, 3) := by decide +kernel
theorem dX10_publish_68 : decode cX10_publish 68 = .ok (.ifCond .le 11, 3) := by decide +kernel
theorem dX10_publish_71 : decode cX10_publish 71 = .ok (.aload_n 0, 1) := by decide +kernel
theorem dX10_publish_72 : decode cX10_publish 72 = .ok (.aload_n 1, 1) := by decide +kernel
theorem dX10_publish_73 : decode cX10_publish 73 = .ok (.getfield 65, 3) := by decide +kernel
theorem dX10_publish_76 : decode cX10_publish 76 = .ok (.invokevirtual 58, 3) := by decide +kernel
theorem dX10_publish_79 : decode cX10_publish 79 = .ok (.aload 4, 2) := by decide +kernel
theorem dX10_publish_81 : decode cX10_publish 81 = .ok (.getfield 68, 3) := by decide +kernel
theorem dX10_publish_84 : decode cX10_publish 84 = .ok (.ldc2_w 72, 3) := by decide +kernel
theorem dX10_publish_87 : decode cX10_publish 87 = .ok (.lcmp, 1) := by decide +kernel
theorem dX10_publish_88 : decode cX10_publish 88 = .ok (.ifCond .ne 7, 3) := by decide +kernel
theorem dX10_publish_91 : decode cX10_publish 91 = .ok (.iconst 0, 1) := by decide +kernel
theorem dX10_publish_92 : decode cX10_publish 92 = .ok (.goto 4, 3) := by decide +kernel
theorem dX10_publish_95 : decode cX10_publish 95 = .ok (.iconst 5, 1) := by decide +kernel
theorem dX10_publish_96 : decode cX10_publish 96 = .ok (.istore 5, 2) := by decide +kernel
theorem dX10_publish_98 : decode cX10_publish 98 = .ok (.aload_n 1, 1) := by decide +kernel
theorem dX10_publish_99 : decode cX10_publish 99 = .ok (.getfield 74, 3) := by decide +kernel
theorem dX10_publish_102 : decode cX10_publish 102 = .ok (.ifCond .ne 7, 3) := by decide +kernel
theorem dX10_publish_105 : decode cX10_publish 105 = .ok (.iconst 0, 1) := by decide +kernel
theorem dX10_publish_106 : decode cX10_publish 106 = .ok (.goto 13, 3) := by decide +kernel
theorem dX10_publish_109 : decode cX10_publish 109 = .ok (.iconst 1, 1) := by decide +kernel
theorem dX10_publish_110 : decode cX10_publish 110 = .ok (.aload_n 0, 1) := by decide +kernel
theorem dX10_publish_111 : decode cX10_publish 111 = .ok (.aload_n 1, 1) := by decide +kernel
theorem dX10_publish_112 : decode cX10_publish 112 = .ok (.getfield 74, 3) := by decide +kernel
theorem dX10_publish_115 : decode cX10_publish 115 = .ok (.invokevirtual 28, 3) := by decide +kernel
theorem dX10_publish_118 : decode cX10_publish 118 = .ok (.iadd, 1) := by decide +kernel
theorem dX10_publish_119 : decode cX10_publish 119 = .ok (.istore 6, 2) := by decide +kernel
theorem dX10_publish_121 : decode cX10_publish 121 = .ok (.aload_n 0, 1) := by decide +kernel
theorem dX10_publish_122 : decode cX10_publish 122 = .ok (.aload 4, 2) := by decide +kernel
theorem dX10_publish_124 : decode cX10_publish 124 = .ok (.getfield 77, 3) := by decide +kernel
theorem dX10_publish_127 : decode cX10_publish 127 = .ok (.invokevirtual 55, 3) := by decide +kernel
theorem dX10_publish_130 : decode cX10_publish 130 = .ok (.iload 5, 2) := by decide +kernel
theorem dX10_publish_132 : decode cX10_publish 132 = .ok (.iadd, 1) := by decide +kernel
theorem dX10_publish_133 : decode cX10_publish 133 = .ok (.aload 4, 2) := by decide +kernel
theorem dX10_publish_135 : decode cX10_publish 135 = .ok (.getfield 80, 3) := by decide +kernel
theorem dX10_publish_138 : decode cX10_publish 138 = .ok (.invokevirtual 55, 3) := by decide +kernel
theorem dX10_publish_141 : decode cX10_publish 141 = .ok (.iadd, 1) := by decide +kernel
theorem dX10_publish_142 : decode cX10_publish 142 = .ok (.iload 6, 2) := by decide +kernel
theorem dX10_publish_144 : decode cX10_publish 144 = .ok (.iadd, 1) := by decide +kernel
theorem dX10_publish_145 : decode cX10_publish 145 = .ok (.aload 4, 2) := by decide +kernel
theorem dX10_publish_147 : decode cX10_publish 147 = .ok (.getfield 83, 3) := by decide +kernel
theorem dX10_publish_150 : decode cX10_publish 150 = .ok (.invokevirtual 55, 3) := by decide +kernel
theorem dX10_publish_153 : decode cX10_publish 153 = .ok (.iadd, 1) := by decide +kernel
theorem dX10_publish_154 : decode cX10_publish 154 = .ok (.invokevirtual 86, 3) := by decide +kernel
theorem dX10_publish_157 : decode cX10_publish 157 = .ok (.aload_n 0, 1) := by decide +kernel
theorem dX10_publish_158 : decode cX10_publish 158 = .ok (.aload 4, 2) := by decide +kernel
theorem dX10_publish_160 : decode cX10_publish 160 = .ok (.getfield 77, 3) := by decide +kernel
theorem dX10_publish_163 : decode cX10_publish 163 = .ok (.invokevirtual 61, 3) := by decide +kernel
theorem dX10_publish_166 : decode cX10_publish 166 = .ok (.iload 5, 2) := by decide +kernel
theorem dX10_publish_168 : decode cX10_publish 168 = .ok (.ifCond .le 18, 3) := by decide +kernel
theorem dX10_publish_171 : decode cX10_publish 171 = .ok (.aload_n 0, 1) := by decide +kernel
theorem dX10_publish_172 : decode cX10_publish 172 = .ok (.iconst 2, 1) := by decide +kernel
theorem dX10_publish_173 : decode cX10_publish 173 = .ok (.invokevirtual 89, 3) := by decide +kernel
theorem dX10_publish_176 : decode cX10_publish 176 = .ok (.aload_n 0, 1) := by decide +kernel
theorem dX10_publish_177 : decode cX10_publish 177 = .ok (.aload 4, 2) := by decide +kernel
theorem dX10_publish_179 : decode cX10_publish 179 = .ok (.iload_n 3, 1) := by decide +kernel
theorem dX10_publish_180 : decode cX10_publish 180 = .ok (.invokevirtual 92, 3) := by decide +kernel
theorem dX10_publish_183 : decode cX10_publish 183 = .ok (.invokevirtual 96, 3) := by decide +kernel
theorem dX10_publish_186 : decode cX10_publish 186 = .ok (.aload_n 0, 1) := by decide +kernel
theorem dX10_publish_187 : decode cX10_publish 187 = .ok (.aload 4, 2) := by decide +kernel
theorem dX10_publish_189 : decode cX10_publish 189 = .ok (.getfield 80, 3) := by decide +kernel
theorem dX10_publish_192 : decode cX10_publish 192 = .ok (.invokevirtual 61, 3) := by decide +kernel
theorem dX10_publish_195 : decode cX10_publish 195 = .ok (.iload 6, 2) := by decide +kernel
theorem dX10_publish_197 : decode cX10_publish 197 = .ok (.ifCond .le 17, 3) := by decide +kernel
theorem dX10_publish_200 : decode cX10_publish 200 = .ok (.aload_n 0, 1) := by decide +kernel
theorem dX10_publish_201 : decode cX10_publish 201 = .ok (.bipush 11, 2) := by decide +kernel
theorem dX10_publish_203 : decode cX10_publish 203 = .ok (.invokevirtual 89, 3) := by decide +kernel
theorem dX10_publish_206 : decode cX10_publish 206 = .ok (.aload_n 0, 1) := by decide +kernel
theorem dX10_publish_207 : decode cX10_publish 207 = .ok (.aload_n 1, 1) := by decide +kernel
theorem dX10_publish_208 : decode cX10_publish 208 = .ok (.getfield 74, 3) := by decide +kernel
theorem dX10_publish_211 : decode cX10_publish 211 = .ok (.invokevirtual 86, 3) := by decide +kernel
theorem dX10_publish_214 : decode cX10_publish 214 = .ok (.aload_n 0, 1) := by decide +kernel
theorem dX10_publish_215 : decode cX10_publish 215 = .ok (.aload 4, 2) := by decide +kernel
theorem dX10_publish_217 : decode cX10_publish 217 = .ok (.getfield 83, 3) := by decide +kernel
theorem dX10_publish_220 : decode cX10_publish 220 = .ok (.invokevirtual 61, 3) := by decide +kernel
theorem dX10_publish_223 : decode cX10_publish 223 = .ok (.aload_n 0, 1) := by decide +kernel
theorem dX10_publish_224 : decode cX10_publish 224 = .ok (.aload 4, 2) := by decide +kernel
theorem dX10_publish_226 : decode cX10_publish 226 = .ok (.getfield 100, 3) := by decide +kernel
theorem dX10_publish_229 : decode cX10_publish 229 = .ok (.invokevirtual 61, 3) := by decide +kernel
theorem dX10_publish_232 : decode cX10_publish 232 = .ok (.return_, 1) := by decide +kernel
theorem dX11_init_0 : decode cX11_init 0 = .ok (.aload_n 0, 1) := by decide +kernel
theorem dX11_init_1 : decode cX11_init 1 = .ok (.invokespecial 3, 3) := by decide +kernel
theorem dX11_init_4 : decode cX11_init 4 = .ok (.aload_n 0, 1) := by decide +kernel
theorem dX11_init_5 : decode cX11_init 5 = .ok (.bipush 8, 2) := by decide +kernel
theorem dX11_init_7 : decode cX11_init 7 = .ok (.anewarray 9, 3) := by decide +kernel
theorem dX11_init_10 : decode cX11_init 10 = .ok (.putfield 11, 3) := by decide +kernel
theorem dX11_init_13 : decode cX11_init 13 = .ok (.iconst 0, 1) := by decide +kernel
theorem dX11_init_14 : decode cX11_init 14 = .ok (.istore_n 1, 1) := by decide +kernel
theorem dX11_init_15 : decode cX11_init 15 = .ok (.iload_n 1, 1) := by decide +kernel
theorem dX11_init_16 : decode cX11_init 16 = .ok (.bipush 8, 2) := by decide +kernel
theorem dX11_init_18 : decode cX11_init 18 = .ok (.if_icmp .ge 23, 3) := by decide +kernel
theorem dX11_init_21 : decode cX11_init 21 = .ok (.aload_n 0, 1) := by decide +kernel
theorem dX11_init_22 : decode cX11_init 22 = .ok (.getfield 11, 3) := by decide +kernel
theorem dX11_init_25 : decode cX11_init 25 = .ok (.iload_n 1, 1) := by decide +kernel
theorem dX11_init_26 : decode cX11_init 26 = .ok (.new 9, 3) := by decide +kernel
theorem dX11_init_29 : decode cX11_init 29 = .ok (.dup, 1) := by decide +kernel
theorem dX11_init_30 : decode cX11_init 30 = .ok (.iload_n 1, 1) := by decide +kernel
theorem dX11_init_31 : decode cX11_init 31 = .ok (.invokespecial 15, 3) := by decide +kernel
theorem dX11_init_34 : decode cX11_init 34 = .ok (.aastore, 1) := by decide +kernel
theorem dX11_init_35 : decode cX11_init 35 = .ok (.iinc 1 1, 3) := by decide +kernel
theorem dX11_init_38 : decode cX11_init 38 = .ok (.goto (-23), 3) := by decide +kernel
theorem dX11_init_41 : decode cX11_init 41 = .ok (.aload_n 0, 1) := by decide +kernel
theorem dX11_init_42 : decode cX11_init 42 = .ok (.bipush 12, 2) := by decide +kernel
theorem dX11_init_44 : decode cX11_init 44 = .ok (.anewarray 18, 3) := by decide +kernel
theorem dX11_init_47 : decode cX11_init 47 = .ok (.putfield 20, 3) := by decide +kernel
theorem dX11_init_50 : decode cX11_init 50 = .ok (.aload_n 0, 1) := by decide +kernel
theorem dX11_init_51 : decode cX11_init 51 = .ok (.new 24, 3) := by decide +kernel
theorem dX11_init_54 : decode cX11_init 54 = .ok (.dup, 1) := by decide +kernel
theorem dX11_init_55 : decode cX11_init 55 = .ok (.invokespecial 26, 3) := by decide +kernel
theorem dX11_init_58 : decode cX11_init 58 = .ok (.putfield 27, 3) := by decide +kernel
theorem dX11_init_61 : decode cX11_init 61 = .ok (.aload_n 0, 1) := by decide +kernel
theorem dX11_init_62 : decode cX11_init 62 = .ok (.new 31, 3) := by decide +kernel
theorem dX11_init_65 : decode cX11_init 65 = .ok (.dup, 1) := by decide +kernel
theorem dX11_init_66 : decode cX11_init 66 = .ok (.invokespecial 33, 3) := by decide +kernel
theorem dX11_init_69 : decode cX11_init 69 = .ok (.putfield 34, 3) := by decide +kernel
theorem dX11_init_72 : decode cX11_init 72 = .ok (.aload_n 0, 1) := by decide +kernel
theorem dX11_init_73 : decode cX11_init 73 = .ok (.new 38, 3) := by decide +kernel
theorem dX11_init_76 : decode cX11_init 76 = .ok (.dup, 1) := by decide +kernel
theorem dX11_init_77 : decode cX11_init 77 = .ok (.invokespecial 40, 3) := by decide +kernel
theorem dX11_init_80 : decode cX11_init 80 = .ok (.putfield 41, 3) := by decide +kernel
theorem dX11_init_83 : decode cX11_init 83 = .ok (.aload_n 0, 1) := by decide +kernel
theorem dX11_init_84 : decode cX11_init 84 = .ok (.new 45, 3) := by decide +kernel
theorem dX11_init_87 : decode cX11_init 87 = .ok (.dup, 1) := by decide +kernel
theorem dX11_init_88 : decode cX11_init 88 = .ok (.invokespecial 47, 3) := by decide +kernel
theorem dX11_init_91 : decode cX11_init 91 = .ok (.putfield 48, 3) := by decide +kernel
theorem dX11_init_94 : decode cX11_init 94 = .ok (.aload_n 0, 1) := by decide +kernel
theorem dX11_init_95 : decode cX11_init 95 = .ok (.new 52, 3) := by decide +kernel
theorem dX11_init_98 : decode cX11_init 98 = .ok (.dup, 1) := by decide +kernel
theorem dX11_init_99 : decode cX11_init 99 = .ok (.invokespecial 54, 3) := by decide +kernel
theorem dX11_init_102 : decode cX11_init 102 = .ok (.putfield 55, 3) := by decide +kernel
theorem dX11_init_105 : decode cX11_init 105 = .ok (.aload_n 0, 1) := by decide +kernel
theorem dX11_init_106 : decode cX11_init 106 = .ok (.new 59, 3) := by decide +kernel
theorem dX11_init_109 : decode cX11_init 109 = .ok (.dup, 1) := by decide +kernel
theorem dX11_init_110 : decode cX11_init 110 = .ok (.invokespecial 61, 3) := by decide +kernel
theorem dX11_init_113 : decode cX11_init 113 = .ok (.putfield 62, 3) := by decide +kernel
theorem dX11_init_116 : decode cX11_init 116 = .ok (.aload_n 0, 1) := by decide +kernel
theorem dX11_init_117 : decode cX11_init 117 = .ok (.sipush 133, 3) := by decide +kernel
theorem dX11_init_120 : decode cX11_init 120 = .ok (.newarray .int, 2) := by decide +kernel
theorem dX11_init_122 : decode cX11_init 122 = .ok (.putfield 66, 3) := by decide +kernel
theorem dX11_init_125 : decode cX11_init 125 = .ok (.return_, 1) := by decide +kernel
theorem dX11_open_0 : decode cX11_open 0 = .ok (.aload_n 0, 1) := by decide +kernel
theorem dX11_open_1 : decode cX11_open 1 = .ok (.iload_n 1, 1) := by decide +kernel
theorem dX11_open_2 : decode cX11_open 2 = .ok (.invokevirtual 70, 3) := by decide +kernel
theorem dX11_open_5 : decode cX11_open 5 = .ok (.astore_n 2, 1) := by decide +kernel
theorem dX11_open_6 : decode cX11_open 6 = .ok (.aload_n 2, 1) := by decide +kernel
theorem dX11_open_7 : decode cX11_open 7 = .ok (.getfield 74, 3) := by decide +kernel
theorem dX11_open_10 : decode cX11_open 10 = .ok (.ifCond .eq 11, 3) := by decide +kernel
theorem dX11_open_13 : decode cX11_open 13 = .ok (.new 78, 3) := by decide +kernel
theorem dX11_open_16 : decode cX11_open 16 = .ok (.dup, 1) := by decide +kernel
theorem dX11_open_17 : decode cX11_open 17 = .ok (.invokespecial 80, 3) := by decide +kernel
theorem dX11_open_20 : decode cX11_open 20 = .ok (.athrow, 1) := by decide +kernel
theorem dX11_open_21 : decode cX11_open 21 = .ok (.aload_n 2, 1) := by decide +kernel
theorem dX11_open_22 : decode cX11_open 22 = .ok (.invokevirtual 81, 3) := by decide +kernel
theorem dX11_open_25 : decode cX11_open 25 = .ok (.return_, 1) := by decide +kernel
theorem dX11_feed_0 : decode cX11_feed 0 = .ok (.aload_n 0, 1) := by decide +kernel
theorem dX11_feed_1 : decode cX11_feed 1 = .ok (.iload_n 1, 1) := by decide +kernel
theorem dX11_feed_2 : decode cX11_feed 2 = .ok (.invokevirtual 70, 3) := by decide +kernel
theorem dX11_feed_5 : decode cX11_feed 5 = .ok (.astore 7, 2) := by decide +kernel
theorem dX11_feed_7 : decode cX11_feed 7 = .ok (.iload 6, 2) := by decide +kernel
theorem dX11_feed_9 : decode cX11_feed 9 = .ok (.iconst 1, 1) := by decide +kernel
theorem dX11_feed_10 : decode cX11_feed 10 = .ok (.if_icmp .lt 10, 3) := by decide +kernel
theorem dX11_feed_13 : decode cX11_feed 13 = .ok (.iload 6, 2) := by decide +kernel
theorem dX11_feed_15 : decode cX11_feed 15 = .ok (.bipush 16, 2) := by decide +kernel
theorem dX11_feed_17 : decode cX11_feed 17 = .ok (.if_icmp .le 11, 3) := by decide +kernel
theorem dX11_feed_20 : decode cX11_feed 20 = .ok (.new 84, 3) := by decide +kernel
theorem dX11_feed_23 : decode cX11_feed 23 = .ok (.dup, 1) := by decide +kernel
theorem dX11_feed_24 : decode cX11_feed 24 = .ok (.invokespecial 86, 3) := by decide +kernel
theorem dX11_feed_27 : decode cX11_feed 27 = .ok (.athrow, 1) := by decide +kernel
theorem dX11_feed_28 : decode cX11_feed 28 = .ok (.aload 7, 2) := by decide +kernel
theorem dX11_feed_30 : decode cX11_feed 30 = .ok (.getfield 74, 3) := by decide +kernel
theorem dX11_feed_33 : decode cX11_feed 33 = .ok (.ifCond .ne 11, 3) := by decide +kernel
theorem dX11_feed_36 : decode cX11_feed 36 = .ok (.new 78, 3) := by decide +kernel
theorem dX11_feed_39 : decode cX11_feed 39 = .ok (.dup, 1) := by decide +kernel
theorem dX11_feed_40 : decode cX11_feed 40 = .ok (.invokespecial 80, 3) := by decide +kernel
theorem dX11_feed_43 : decode cX11_feed 43 = .ok (.athrow, 1) := by decide +kernel
theorem dX11_feed_44 : decode cX11_feed 44 = .ok (.aload_n 0, 1) := by decide +kernel
theorem dX11_feed_45 : decode cX11_feed 45 = .ok (.getfield 87, 3) := by decide +kernel
theorem dX11_feed_48 : decode cX11_feed 48 = .ok (.istore 8, 2) := by decide +kernel
theorem dX11_feed_50 : decode cX11_feed 50 = .ok (.iconst 0, 1) := by decide +kernel
theorem dX11_feed_51 : decode cX11_feed 51 = .ok (.istore 9, 2) := by decide +kernel
theorem dX11_feed_53 : decode cX11_feed 53 = .ok (.iload 9, 2) := by decide +kernel
theorem dX11_feed_55 : decode cX11_feed 55 = .ok (.iload 6, 2) := by decide +kernel
theorem dX11_feed_57 : decode cX11_feed 57 = .ok (.if_icmp .ge 122, 3) := by decide +kernel
theorem dX11_feed_60 : decode cX11_feed 60 = .ok (.aload 7, 2) := by decide +kernel
theorem dX11_feed_62 : decode cX11_feed 62 = .ok (.getfield 74, 3) := by decide +kernel
theorem dX11_feed_65 : decode cX11_feed 65 = .ok (.ifCond .eq 114, 3) := by decide +kernel
theorem dX11_feed_68 : decode cX11_feed 68 = .ok (.iload 9, 2) := by decide +kernel
theorem dX11_feed_70 : decode cX11_feed 70 = .ok (.bipush 8, 2) := by decide +kernel
theorem dX11_feed_72 : decode cX11_feed 72 = .ok (.if_icmp .ge 7, 3) := by decide +kernel
theorem dX11_feed_75 : decode cX11_feed 75 = .ok (.lload_n 2, 1) := by decide +kernel
theorem dX11_feed_76 : decode cX11_feed 76 = .ok (.goto 5, 3) := by decide +kernel
theorem dX11_feed_79 : decode cX11_feed 79 = .ok (.lload 4, 2) := by decide +kernel
theorem dX11_feed_81 : decode cX11_feed 81 = .ok (.lstore 10, 2) := by decide +kernel
theorem dX11_feed_83 : decode cX11_feed 83 = .ok (.aload 7, 2) := by decide +kernel
theorem dX11_feed_85 : decode cX11_feed 85 = .ok (.lload 10, 2) := by decide +kernel
theorem dX11_feed_87 : decode cX11_feed 87 = .ok (.bipush 8, 2) := by decide +kernel
theorem dX11_feed_89 : decode cX11_feed 89 = .ok (.iload 9, 2) := by decide +kernel
theorem dX11_feed_91 : decode cX11_feed 91 = .ok (.bipush 7, 2) := by decide +kernel
theorem dX11_feed_93 : decode cX11_feed 93 = .ok (.iand, 1) := by decide +kernel
theorem dX11_feed_94 : decode cX11_feed 94 = .ok (.imul, 1) := by decide +kernel
theorem dX11_feed_95 : decode cX11_feed 95 = .ok (.lushr, 1) := by decide +kernel
theorem dX11_feed_96 : decode cX11_feed 96 = .ok (.l2i, 1) := by decide +kernel
theorem dX11_feed_97 : decode cX11_feed 97 = .ok (.sipush 255, 3) := by decide +kernel
theorem dX11_feed_100 : decode cX11_feed 100 = .ok (.iand, 1) := by decide +kernel
theorem dX11_feed_101 : decode cX11_feed 101 = .ok (.invokevirtual 91, 3) := by decide +kernel
theorem dX11_feed_104 : decode cX11_feed 104 = .ok (.istore 12, 2) := by decide +kernel
theorem dX11_feed_106 : decode cX11_feed 106 = .ok (.iload 12, 2) := by decide +kernel
theorem dX11_feed_108 : decode cX11_feed 108 = .ok (.iconst 1, 1) := by decide +kernel
theorem dX11_feed_109 : decode cX11_feed 109 = .ok (.if_icmp .eq 64, 3) := by decide +kernel
theorem dX11_feed_112 : decode cX11_feed 112 = .ok (.iload 12, 2) := by decide +kernel
theorem dX11_feed_114 : decode cX11_feed 114 = .ok (.iconst 2, 1) := by decide +kernel
theorem dX11_feed_115 : decode cX11_feed 115 = .ok (.if_icmp .ne 11, 3) := by decide +kernel
theorem dX11_feed_118 : decode cX11_feed 118 = .ok (.aload_n 0, 1) := by decide +kernel
theorem dX11_feed_119 : decode cX11_feed 119 = .ok (.aload 7, 2) := by decide +kernel
theorem dX11_feed_121 : decode cX11_feed 121 = .ok (.invokevirtual 95, 3) := by decide +kernel
theorem dX11_feed_124 : decode cX11_feed 124 = .ok (.istore 12, 2) := by decide +kernel
theorem dX11_feed_126 : decode cX11_feed 126 = .ok (.iload 12, 2) := by decide +kernel
theorem dX11_feed_128 : decode cX11_feed 128 = .ok (.iconst 3, 1) := by decide +kernel
theorem dX11_feed_129 : decode cX11_feed 129 = .ok (.if_icmp .ne 12, 3) := by decide +kernel
theorem dX11_feed_132 : decode cX11_feed 132 = .ok (.aload_n 0, 1) := by decide +kernel
theorem dX11_feed_133 : decode cX11_feed 133 = .ok (.aload 7, 2) := by decide +kernel
theorem dX11_feed_135 : decode cX11_feed 135 = .ok (.invokevirtual 99, 3) := by decide +kernel
theorem dX11_feed_138 : decode cX11_feed 138 = .ok (.goto 31, 3) := by decide +kernel
theorem dX11_feed_141 : decode cX11_feed 141 = .ok (.iload 12, 2) := by decide +kernel
theorem dX11_feed_143 : decode cX11_feed 143 = .ok (.iconst 4, 1) := by decide +kernel
theorem dX11_feed_144 : decode cX11_feed 144 = .ok (.if_icmp .ne 12, 3) := by decide +kernel
theorem dX11_feed_147 : decode cX11_feed 147 = .ok (.aload_n 0, 1) := by decide +kernel
theorem dX11_feed_148 : decode cX11_feed 148 = .ok (.aload 7, 2) := by decide +kernel
theorem dX11_feed_150 : decode cX11_feed 150 = .ok (.invokevirtual 103, 3) := by decide +kernel
theorem dX11_feed_153 : decode cX11_feed 153 = .ok (.goto 16, 3) := by decide +kernel
theorem dX11_feed_156 : decode cX11_feed 156 = .ok (.iload 12, 2) := by decide +kernel
theorem dX11_feed_158 : decode cX11_feed 158 = .ok (.ifCond .eq 11, 3) := by decide +kernel
theorem dX11_feed_161 : decode cX11_feed 161 = .ok (.aload_n 0, 1) := by decide +kernel
theorem dX11_feed_162 : decode cX11_feed 162 = .ok (.aload 7, 2) := by decide +kernel
theorem dX11_feed_164 : decode cX11_feed 164 = .ok (.iload 12, 2) := by decide +kernel
theorem dX11_feed_166 : decode cX11_feed 166 = .ok (.invokevirtual 106, 3) := by decide +kernel
theorem dX11_feed_169 : decode cX11_feed 169 = .ok (.aload_n 0, 1) := by decide +kernel
theorem dX11_feed_170 : decode cX11_feed 170 = .ok (.invokevirtual 110, 3) := by decide +kernel
theorem dX11_feed_173 : decode cX11_feed 173 = .ok (.iinc 9 1, 3) := by decide +kernel
theorem dX11_feed_176 : decode cX11_feed 176 = .ok (.goto (-123), 3) := by decide +kernel
theorem dX11_feed_179 : decode cX11_feed 179 = .ok (.aload_n 0, 1) := by decide +kernel
theorem dX11_feed_180 : decode cX11_feed 180 = .ok (.getfield 87, 3) := by decide +kernel
theorem dX11_feed_183 : decode cX11_feed 183 = .ok (.iload 8, 2) := by decide +kernel
theorem dX11_feed_185 : decode cX11_feed 185 = .ok (.isub, 1) := by decide +kernel
theorem dX11_feed_186 : decode cX11_feed 186 = .ok (.ireturn, 1) := by decide +kernel
theorem dX11_lose_0 : decode cX11_lose 0 = .ok (.aload_n 0, 1) := by decide +kernel
theorem dX11_lose_1 : decode cX11_lose 1 = .ok (.iload_n 1, 1) := by decide +kernel
theorem dX11_lose_2 : decode cX11_lose 2 = .ok (.invokevirtual 70, 3) := by decide +kernel
theorem dX11_lose_5 : decode cX11_lose 5 = .ok (.astore_n 2, 1) := by decide +kernel
theorem dX11_lose_6 : decode cX11_lose 6 = .ok (.aload_n 2, 1) := by decide +kernel
theorem dX11_lose_7 : decode cX11_lose 7 = .ok (.getfield 74, 3) := by decide +kernel
theorem dX11_lose_10 : decode cX11_lose 10 = .ok (.ifCond .ne 11, 3) := by decide +kernel
theorem dX11_lose_13 : decode cX11_lose 13 = .ok (.new 78, 3) := by decide +kernel
theorem dX11_lose_16 : decode cX11_lose 16 = .ok (.dup, 1) := by decide +kernel
theorem dX11_lose_17 : decode cX11_lose 17 = .ok (.invokespecial 80, 3) := by decide +kernel
theorem dX11_lose_20 : decode cX11_lose 20 = .ok (.athrow, 1) := by decide +kernel
theorem dX11_lose_21 : decode cX11_lose 21 = .ok (.aload_n 0, 1) := by decide +kernel
theorem dX11_lose_22 : decode cX11_lose 22 = .ok (.aload_n 2, 1) := by decide +kernel
theorem dX11_lose_23 : decode cX11_lose 23 = .ok (.invokevirtual 103, 3) := by decide +kernel
theorem dX11_lose_26 : decode cX11_lose 26 = .ok (.aload_n 0, 1) := by decide +kernel
theorem dX11_lose_27 : decode cX11_lose 27 = .ok (.invokevirtual 110, 3) := by decide +kernel
theorem dX11_lose_30 : decode cX11_lose 30 = .ok (.return_, 1) := by decide +kernel
theorem dX11_isOpen_0 : decode cX11_isOpen 0 = .ok (.aload_n 0, 1) := by decide +kernel
theorem dX11_isOpen_1 : decode cX11_isOpen 1 = .ok (.iload_n 1, 1) := by decide +kernel
theorem dX11_isOpen_2 : decode cX11_isOpen 2 = .ok (.invokevirtual 70, 3) := by decide +kernel
theorem dX11_isOpen_5 : decode cX11_isOpen 5 = .ok (.getfield 74, 3) := by decide +kernel
theorem dX11_isOpen_8 : decode cX11_isOpen 8 = .ok (.ireturn, 1) := by decide +kernel
theorem dX11_size_0 : decode cX11_size 0 = .ok (.aload_n 0, 1) := by decide +kernel
theorem dX11_size_1 : decode cX11_size 1 = .ok (.iload_n 1, 1) := by decide +kernel
theorem dX11_size_2 : decode cX11_size 2 = .ok (.invokevirtual 70, 3) := by decide +kernel
theorem dX11_size_5 : decode cX11_size 5 = .ok (.getfield 113, 3) := by decide +kernel
theorem dX11_size_8 : decode cX11_size 8 = .ok (.ireturn, 1) := by decide +kernel
theorem dX11_out_0 : decode cX11_out 0 = .ok (.aload_n 0, 1) := by decide +kernel
theorem dX11_out_1 : decode cX11_out 1 = .ok (.iload_n 1, 1) := by decide +kernel
theorem dX11_out_2 : decode cX11_out 2 = .ok (.invokevirtual 70, 3) := by decide +kernel
theorem dX11_out_5 : decode cX11_out 5 = .ok (.astore_n 3, 1) := by decide +kernel
theorem dX11_out_6 : decode cX11_out 6 = .ok (.iload_n 2, 1) := by decide +kernel
theorem dX11_out_7 : decode cX11_out 7 = .ok (.ifCond .lt 20, 3) := by decide +kernel
theorem dX11_out_10 : decode cX11_out 10 = .ok (.iload_n 2, 1) := by decide +kernel
theorem dX11_out_11 : decode cX11_out 11 = .ok (.aload_n 3, 1) := by decide +kernel
theorem dX11_out_12 : decode cX11_out 12 = .ok (.getfield 113, 3) := by decide +kernel
theorem dX11_out_15 : decode cX11_out 15 = .ok (.if_icmp .ge 12, 3) := by decide +kernel
theorem dX11_out_18 : decode cX11_out 18 = .ok (.aload_n 3, 1) := by decide +kernel
theorem dX11_out_19 : decode cX11_out 19 = .ok (.getfield 116, 3) := by decide +kernel
theorem dX11_out_22 : decode cX11_out 22 = .ok (.iload_n 2, 1) := by decide +kernel
theorem dX11_out_23 : decode cX11_out 23 = .ok (.iaload, 1) := by decide +kernel
theorem dX11_out_24 : decode cX11_out 24 = .ok (.goto 4, 3) := by decide +kernel
theorem dX11_out_27 : decode cX11_out 27 = .ok (.iconst (-1), 1) := by decide +kernel
theorem dX11_out_28 : decode cX11_out 28 = .ok (.ireturn, 1) := by decide +kernel
theorem dX11_take_0 : decode cX11_take 0 = .ok (.aload_n 0, 1) := by decide +kernel
theorem dX11_take_1 : decode cX11_take 1 = .ok (.iload_n 1, 1) := by decide +kernel
theorem dX11_take_2 : decode cX11_take 2 = .ok (.invokevirtual 70, 3) := by decide +kernel
theorem dX11_take_5 : decode cX11_take 5 = .ok (.astore_n 3, 1) := by decide +kernel
theorem dX11_take_6 : decode cX11_take 6 = .ok (.iload_n 2, 1) := by decide +kernel
theorem dX11_take_7 : decode cX11_take 7 = .ok (.ifCond .ge 11, 3) := by decide +kernel
theorem dX11_take_10 : decode cX11_take 10 = .ok (.new 84, 3) := by decide +kernel
theorem dX11_take_13 : decode cX11_take 13 = .ok (.dup, 1) := by decide +kernel
theorem dX11_take_14 : decode cX11_take 14 = .ok (.invokespecial 86, 3) := by decide +kernel
theorem dX11_take_17 : decode cX11_take 17 = .ok (.athrow, 1) := by decide +kernel
theorem dX11_take_18 : decode cX11_take 18 = .ok (.aload_n 3, 1) := by decide +kernel
theorem dX11_take_19 : decode cX11_take 19 = .ok (.iload_n 2, 1) := by decide +kernel
theorem dX11_take_20 : decode cX11_take 20 = .ok (.aload_n 3, 1) := by decide +kernel
theorem dX11_take_21 : decode cX11_take 21 = .ok (.getfield 113, 3) := by decide +kernel
theorem dX11_take_24 : decode cX11_take 24 = .ok (.invokestatic 119, 3) := by decide +kernel
theorem dX11_take_27 : decode cX11_take 27 = .ok (.invokevirtual 125, 3) := by decide +kernel
theorem dX11_take_30 : decode cX11_take 30 = .ok (.aload_n 3, 1) := by decide +kernel
theorem dX11_take_31 : decode cX11_take 31 = .ok (.getfield 113, 3) := by decide +kernel
theorem dX11_take_34 : decode cX11_take 34 = .ok (.ireturn, 1) := by decide +kernel
theorem dX11_pending_0 : decode cX11_pending 0 = .ok (.aload_n 0, 1) := by decide +kernel
theorem dX11_pending_1 : decode cX11_pending 1 = .ok (.iload_n 1, 1) := by decide +kernel
theorem dX11_pending_2 : decode cX11_pending 2 = .ok (.invokevirtual 70, 3) := by decide +kernel
theorem dX11_pending_5 : decode cX11_pending 5 = .ok (.getfield 128, 3) := by decide +kernel
theorem dX11_pending_8 : decode cX11_pending 8 = .ok (.ireturn, 1) := by decide +kernel
theorem dX11_pass_0 : decode cX11_pass 0 = .ok (.iload_n 1, 1) := by decide +kernel
theorem dX11_pass_1 : decode cX11_pass 1 = .ok (.ifCond .lt 10, 3) := by decide +kernel
theorem dX11_pass_4 : decode cX11_pass 4 = .ok (.iload_n 1, 1) := by decide +kernel
theorem dX11_pass_5 : decode cX11_pass 5 = .ok (.sipush 4000, 3) := by decide +kernel
theorem dX11_pass_8 : decode cX11_pass 8 = .ok (.if_icmp .le 11, 3) := by decide +kernel
theorem dX11_pass_11 : decode cX11_pass 11 = .ok (.new 84, 3) := by decide +kernel
theorem dX11_pass_14 : decode cX11_pass 14 = .ok (.dup, 1) := by decide +kernel
theorem dX11_pass_15 : decode cX11_pass 15 = .ok (.invokespecial 86, 3) := by decide +kernel
theorem dX11_pass_18 : decode cX11_pass 18 = .ok (.athrow, 1) := by decide +kernel
theorem dX11_pass_19 : decode cX11_pass 19 = .ok (.aload_n 0, 1) := by decide +kernel
theorem dX11_pass_20 : decode cX11_pass 20 = .ok (.getfield 131, 3) := by decide +kernel
theorem dX11_pass_23 : decode cX11_pass 23 = .ok (.iload_n 1, 1) := by decide +kernel
theorem dX11_pass_24 : decode cX11_pass 24 = .ok (.iadd, 1) := by decide +kernel
theorem dX11_pass_25 : decode cX11_pass 25 = .ok (.istore_n 2, 1) := by decide +kernel
theorem dX11_pass_26 : decode cX11_pass 26 = .ok (.aload_n 0, 1) := by decide +kernel
theorem dX11_pass_27 : decode cX11_pass 27 = .ok (.iconst 0, 1) := by decide +kernel
theorem dX11_pass_28 : decode cX11_pass 28 = .ok (.putfield 134, 3) := by decide +kernel
theorem dX11_pass_31 : decode cX11_pass 31 = .ok (.iconst 0, 1) := by decide +kernel
theorem dX11_pass_32 : decode cX11_pass 32 = .ok (.istore_n 3, 1) := by decide +kernel
theorem dX11_pass_33 : decode cX11_pass 33 = .ok (.iload_n 3, 1) := by decide +kernel
theorem dX11_pass_34 : decode cX11_pass 34 = .ok (.iload_n 1, 1) := by decide +kernel
theorem dX11_pass_35 : decode cX11_pass 35 = .ok (.if_icmp .ge 39, 3) := by decide +kernel
theorem dX11_pass_38 : decode cX11_pass 38 = .ok (.aload_n 0, 1) := by decide +kernel
theorem dX11_pass_39 : decode cX11_pass 39 = .ok (.getfield 131, 3) := by decide +kernel
theorem dX11_pass_42 : decode cX11_pass 42 = .ok (.iload_n 2, 1) := by decide +kernel
theorem dX11_pass_43 : decode cX11_pass 43 = .ok (.if_icmp .ge 31, 3) := by decide +kernel
theorem dX11_pass_46 : decode cX11_pass 46 = .ok (.aload_n 0, 1) := by decide +kernel
theorem dX11_pass_47 : decode cX11_pass 47 = .ok (.iload_n 2, 1) := by decide +kernel
theorem dX11_pass_48 : decode cX11_pass 48 = .ok (.i2l, 1) := by decide +kernel
theorem dX11_pass_49 : decode cX11_pass 49 = .ok (.aload_n 0, 1) := by decide +kernel
theorem dX11_pass_50 : decode cX11_pass 50 = .ok (.invokevirtual 137, 3) := by decide +kernel
theorem dX11_pass_53 : decode cX11_pass 53 = .ok (.invokestatic 141, 3) := by decide +kernel
theorem dX11_pass_56 : decode cX11_pass 56 = .ok (.l2i, 1) := by decide +kernel
theorem dX11_pass_57 : decode cX11_pass 57 = .ok (.putfield 131, 3) := by decide +kernel
theorem dX11_pass_60 : decode cX11_pass 60 = .ok (.aload_n 0, 1) := by decide +kernel
theorem dX11_pass_61 : decode cX11_pass 61 = .ok (.invokevirtual 144, 3) := by decide +kernel
theorem dX11_pass_64 : decode cX11_pass 64 = .ok (.aload_n 0, 1) := by decide +kernel
theorem dX11_pass_65 : decode cX11_pass 65 = .ok (.invokevirtual 110, 3) := by decide +kernel
theorem dX11_pass_68 : decode cX11_pass 68 = .ok (.iinc 3 1, 3) := by decide +kernel
theorem dX11_pass_71 : decode cX11_pass 71 = .ok (.goto (-38), 3) := by decide +kernel
theorem dX11_pass_74 : decode cX11_pass 74 = .ok (.aload_n 0, 1) := by decide +kernel
theorem dX11_pass_75 : decode cX11_pass 75 = .ok (.getfield 134, 3) := by decide +kernel
theorem dX11_pass_78 : decode cX11_pass 78 = .ok (.ireturn, 1) := by decide +kernel
theorem dX11_isSession_0 : decode cX11_isSession 0 = .ok (.iload_n 1, 1) := by decide +kernel
theorem dX11_isSession_1 : decode cX11_isSession 1 = .ok (.ifCond .lt 22, 3) := by decide +kernel
theorem dX11_isSession_4 : decode cX11_isSession 4 = .ok (.iload_n 1, 1) := by decide +kernel
theorem dX11_isSession_5 : decode cX11_isSession 5 = .ok (.bipush 12, 2) := by decide +kernel
theorem dX11_isSession_7 : decode cX11_isSession 7 = .ok (.if_icmp .ge 16, 3) := by decide +kernel
theorem dX11_isSession_10 : decode cX11_isSession 10 = .ok (.aload_n 0, 1) := by decide +kernel
theorem dX11_isSession_11 : decode cX11_isSession 11 = .ok (.getfield 20, 3) := by decide +kernel
theorem dX11_isSession_14 : decode cX11_isSession 14 = .ok (.iload_n 1, 1) := by decide +kernel
theorem dX11_isSession_15 : decode cX11_isSession 15 = .ok (.aaload, 1) := by decide +kernel
theorem dX11_isSession_16 : decode cX11_isSession 16 = .ok (.ifnull 7, 3) := by decide +kernel
theorem dX11_isSession_19 : decode cX11_isSession 19 = .ok (.iconst 1, 1) := by decide +kernel
theorem dX11_isSession_20 : decode cX11_isSession 20 = .ok (.goto 4, 3) := by decide +kernel
theorem dX11_isSession_23 : decode cX11_isSession 23 = .ok (.iconst 0, 1) := by decide +kernel
theorem dX11_isSession_24 : decode cX11_isSession 24 = .ok (.ireturn, 1) := by decide +kernel
theorem dX11_session_0 : decode cX11_session 0 = .ok (.aload_n 0, 1) := by decide +kernel
theorem dX11_session_1 : decode cX11_session 1 = .ok (.iload_n 1, 1) := by decide +kernel
theorem dX11_session_2 : decode cX11_session 2 = .ok (.invokevirtual 147, 3) := by decide +kernel
theorem dX11_session_5 : decode cX11_session 5 = .ok (.astore_n 3, 1) := by decide +kernel
theorem dX11_session_6 : decode cX11_session 6 = .ok (.iload_n 2, 1) := by decide +kernel
theorem dX11_session_7 : decode cX11_session 7 = .ok (.tableswitch 119 0 8 #[49, 68, 73, 78, 83, 88, 101, 109, 114], 49) := by decide +kernel
theorem dX11_session_56 : decode cX11_session 56 = .ok (.aload_n 3, 1) := by decide +kernel
theorem dX11_session_57 : decode cX11_session 57 = .ok (.getfield 151, 3) := by decide +kernel
theorem dX11_session_60 : decode cX11_session 60 = .ok (.ifnonnull 7, 3) := by decide +kernel
theorem dX11_session_63 : decode cX11_session 63 = .ok (.iconst (-1), 1) := by decide +kernel
theorem dX11_session_64 : decode cX11_session 64 = .ok (.goto 10, 3) := by decide +kernel
theorem dX11_session_67 : decode cX11_session 67 = .ok (.aload_n 3, 1) := by decide +kernel
theorem dX11_session_68 : decode cX11_session 68 = .ok (.getfield 151, 3) := by decide +kernel
theorem dX11_session_71 : decode cX11_session 71 = .ok (.getfield 155, 3) := by decide +kernel
theorem dX11_session_74 : decode cX11_session 74 = .ok (.ireturn, 1) := by decide +kernel
theorem dX11_session_75 : decode cX11_session 75 = .ok (.aload_n 3, 1) := by decide +kernel
theorem dX11_session_76 : decode cX11_session 76 = .ok (.getfield 158, 3) := by decide +kernel
theorem dX11_session_79 : decode cX11_session 79 = .ok (.ireturn, 1) := by decide +kernel
theorem dX11_session_80 : decode cX11_session 80 = .ok (.aload_n 3, 1) := by decide +kernel
theorem dX11_session_81 : decode cX11_session 81 = .ok (.getfield 161, 3) := by decide +kernel
theorem dX11_session_84 : decode cX11_session 84 = .ok (.ireturn, 1) := by decide +kernel
theorem dX11_session_85 : decode cX11_session 85 = .ok (.aload_n 3, 1) := by decide +kernel
theorem dX11_session_86 : decode cX11_session 86 = .ok (.getfield 164, 3) := by decide +kernel
theorem dX11_session_89 : decode cX11_session 89 = .ok (.ireturn, 1) := by decide +kernel
theorem dX11_session_90 : decode cX11_session 90 = .ok (.aload_n 3, 1) := by decide +kernel
theorem dX11_session_91 : decode cX11_session 91 = .ok (.getfield 167, 3) := by decide +kernel
theorem dX11_session_94 : decode cX11_session 94 = .ok (.ireturn, 1) := by decide +kernel
theorem dX11_session_95 : decode cX11_session 95 = .ok (.aload_n 3, 1) := by decide +kernel
theorem dX11_session_96 : decode cX11_session 96 = .ok (.getfield 170, 3) := by decide +kernel
theorem dX11_session_99 : decode cX11_session 99 = .ok (.ifnonnull 7, 3) := by decide +kernel
theorem dX11_session_102 : decode cX11_session 102 = .ok (.iconst 0, 1) := by decide +kernel
theorem dX11_session_103 : decode cX11_session 103 = .ok (.goto 4, 3) := by decide +kernel
theorem dX11_session_106 : decode cX11_session 106 = .ok (.iconst 1, 1) := by decide +kernel
theorem dX11_session_107 : decode cX11_session 107 = .ok (.ireturn, 1) := by decide +kernel
theorem dX11_session_108 : decode cX11_session 108 = .ok (.aload_n 3, 1) := by decide +kernel
theorem dX11_session_109 : decode cX11_session 109 = .ok (.getfield 174, 3) := by decide +kernel
theorem dX11_session_112 : decode cX11_session 112 = .ok (.invokevirtual 178, 3) := by decide +kernel
theorem dX11_session_115 : decode cX11_session 115 = .ok (.ireturn, 1) := by decide +kernel
theorem dX11_session_116 : decode cX11_session 116 = .ok (.aload_n 3, 1) := by decide +kernel
theorem dX11_session_117 : decode cX11_session 117 = .ok (.getfield 184, 3) := by decide +kernel
theorem dX11_session_120 : decode cX11_session 120 = .ok (.ireturn, 1) := by decide +kernel
theorem dX11_session_121 : decode cX11_session 121 = .ok (.aload_n 3, 1) := by decide +kernel
theorem dX11_session_122 : decode cX11_session 122 = .ok (.getfield 187, 3) := by decide +kernel
theorem dX11_session_125 : decode cX11_session 125 = .ok (.ireturn, 1) := by decide +kernel
theorem dX11_session_126 : decode cX11_session 126 = .ok (.new 84, 3) := by decide +kernel
theorem dX11_session_129 : decode cX11_session 129 = .ok (.dup, 1) := by decide +kernel
theorem dX11_session_130 : decode cX11_session 130 = .ok (.invokespecial 86, 3) := by decide +kernel
theorem dX11_session_133 : decode cX11_session 133 = .ok (.athrow, 1) := by decide +kernel
theorem dX11_expiry_0 : decode cX11_expiry 0 = .ok (.aload_n 0, 1) := by decide +kernel
theorem dX11_expiry_1 : decode cX11_expiry 1 = .ok (.iload_n 1, 1) := by decide +kernel
theorem dX11_expiry_2 : decode cX11_expiry 2 = .ok (.invokevirtual 147, 3) := by decide +kernel
theorem dX11_expiry_5 : decode cX11_expiry 5 = .ok (.getfield 190, 3) := by decide +kernel
theorem dX11_expiry_8 : decode cX11_expiry 8 = .ok (.lreturn, 1) := by decide +kernel
theorem dX11_id_0 : decode cX11_id 0 = .ok (.aload_n 0, 1) := by decide +kernel
theorem dX11_id_1 : decode cX11_id 1 = .ok (.iload_n 1, 1) := by decide +kernel
theorem dX11_id_2 : decode cX11_id 2 = .ok (.invokevirtual 147, 3) := by decide +kernel
theorem dX11_id_5 : decode cX11_id 5 = .ok (.getfield 174, 3) := by decide +kernel
theorem dX11_id_8 : decode cX11_id 8 = .ok (.iload_n 2, 1) := by decide +kernel
theorem dX11_id_9 : decode cX11_id 9 = .ok (.invokevirtual 194, 3) := by decide +kernel
theorem dX11_id_12 : decode cX11_id 12 = .ok (.ireturn, 1) := by decide +kernel
theorem dX11_subscription_0 : decode cX11_subscription 0 = .ok (.aload_n 0, 1) := by decide +kernel
theorem dX11_subscription_1 : decode cX11_subscription 1 = .ok (.iload_n 1, 1) := by decide +kernel
theorem dX11_subscription_2 : decode cX11_subscription 2 = .ok (.iload_n 2, 1) := by decide +kernel
theorem dX11_subscription_3 : decode cX11_subscription 3 = .ok (.invokevirtual 197, 3) := by decide +kernel
theorem dX11_subscription_6 : decode cX11_subscription 6 = .ok (.astore 4, 2) := by decide +kernel
theorem dX11_subscription_8 : decode cX11_subscription 8 = .ok (.iload_n 3, 1) := by decide +kernel
theorem dX11_subscription_9 : decode cX11_subscription 9 = .ok (.tableswitch 58 0 3 #[31, 37, 43, 52], 31) := by decide +kernel
theorem dX11_subscription_40 : decode cX11_subscription 40 = .ok (.aload 4, 2) := by decide +kernel
theorem dX11_subscription_42 : decode cX11_subscription 42 = .ok (.getfield 201, 3) := by decide +kernel
theorem dX11_subscription_45 : decode cX11_subscription 45 = .ok (.ireturn, 1) := by decide +kernel
theorem dX11_subscription_46 : decode cX11_subscription 46 = .ok (.aload 4, 2) := by decide +kernel
theorem dX11_subscription_48 : decode cX11_subscription 48 = .ok (.getfield 206, 3) := by decide +kernel
theorem dX11_subscription_51 : decode cX11_subscription 51 = .ok (.ireturn, 1) := by decide +kernel
theorem dX11_subscription_52 : decode cX11_subscription 52 = .ok (.aload 4, 2) := by decide +kernel
theorem dX11_subscription_54 : decode cX11_subscription 54 = .ok (.getfield 209, 3) := by decide +kernel
theorem dX11_subscription_57 : decode cX11_subscription 57 = .ok (.invokevirtual 178, 3) := by decide +kernel
theorem dX11_subscription_60 : decode cX11_subscription 60 = .ok (.ireturn, 1) := by decide +kernel
theorem dX11_subscription_61 : decode cX11_subscription 61 = .ok (.aload 4, 2) := by decide +kernel
theorem dX11_subscription_63 : decode cX11_subscription 63 = .ok (.getfield 212, 3) := by decide +kernel
theorem dX11_subscription_66 : decode cX11_subscription 66 = .ok (.ireturn, 1) := by decide +kernel
theorem dX11_subscription_67 : decode cX11_subscription 67 = .ok (.new 84, 3) := by decide +kernel
theorem dX11_subscription_70 : decode cX11_subscription 70 = .ok (.dup, 1) := by decide +kernel
theorem dX11_subscription_71 : decode cX11_subscription 71 = .ok (.invokespecial 86, 3) := by decide +kernel
theorem dX11_subscription_74 : decode cX11_subscription 74 = .ok (.athrow, 1) := by decide +kernel
theorem dX11_filter_0 : decode cX11_filter 0 = .ok (.aload_n 0, 1) := by decide +kernel
theorem dX11_filter_1 : decode cX11_filter 1 = .ok (.iload_n 1, 1) := by decide +kernel
theorem dX11_filter_2 : decode cX11_filter 2 = .ok (.iload_n 2, 1) := by decide +kernel
theorem dX11_filter_3 : decode cX11_filter 3 = .ok (.invokevirtual 197, 3) := by decide +kernel
theorem dX11_filter_6 : decode cX11_filter 6 = .ok (.getfield 209, 3) := by decide +kernel
theorem dX11_filter_9 : decode cX11_filter 9 = .ok (.iload_n 3, 1) := by decide +kernel
theorem dX11_filter_10 : decode cX11_filter 10 = .ok (.invokevirtual 194, 3) := by decide +kernel
theorem dX11_filter_13 : decode cX11_filter 13 = .ok (.ireturn, 1) := by decide +kernel
theorem dX11_retained_0 : decode cX11_retained 0 = .ok (.iload_n 2, 1) := by decide +kernel
theorem dX11_retained_1 : decode cX11_retained 1 = .ok (.ifCond .lt 8, 3) := by decide +kernel
theorem dX11_retained_4 : decode cX11_retained 4 = .ok (.iload_n 2, 1) := by decide +kernel
theorem dX11_retained_5 : decode cX11_retained 5 = .ok (.iconst 3, 1) := by decide +kernel
theorem dX11_retained_6 : decode cX11_retained 6 = .ok (.if_icmp .le 11, 3) := by decide +kernel
theorem dX11_retained_9 : decode cX11_retained 9 = .ok (.new 84, 3) := by decide +kernel
theorem dX11_retained_12 : decode cX11_retained 12 = .ok (.dup, 1) := by decide +kernel
theorem dX11_retained_13 : decode cX11_retained 13 = .ok (.invokespecial 86, 3) := by decide +kernel
theorem dX11_retained_16 : decode cX11_retained 16 = .ok (.athrow, 1) := by decide +kernel
theorem dX11_retained_17 : decode cX11_retained 17 = .ok (.aload_n 0, 1) := by decide +kernel
theorem dX11_retained_18 : decode cX11_retained 18 = .ok (.getfield 27, 3) := by decide +kernel
theorem dX11_retained_21 : decode cX11_retained 21 = .ok (.iload_n 1, 1) := by decide +kernel
theorem dX11_retained_22 : decode cX11_retained 22 = .ok (.invokevirtual 215, 3) := by decide +kernel
theorem dX11_retained_25 : decode cX11_retained 25 = .ok (.astore_n 3, 1) := by decide +kernel
theorem dX11_retained_26 : decode cX11_retained 26 = .ok (.aload_n 3, 1) := by decide +kernel
theorem dX11_retained_27 : decode cX11_retained 27 = .ok (.ifnonnull 5, 3) := by decide +kernel
theorem dX11_retained_30 : decode cX11_retained 30 = .ok (.iconst (-1), 1) := by decide +kernel
theorem dX11_retained_31 : decode cX11_retained 31 = .ok (.ireturn, 1) := by decide +kernel
theorem dX11_retained_32 : decode cX11_retained 32 = .ok (.iload_n 2, 1) := by decide +kernel
theorem dX11_retained_33 : decode cX11_retained 33 = .ok (.tableswitch 48 0 2 #[27, 35, 43], 27) := by decide +kernel
theorem dX11_retained_60 : decode cX11_retained 60 = .ok (.aload_n 3, 1) := by decide +kernel
theorem dX11_retained_61 : decode cX11_retained 61 = .ok (.getfield 219, 3) := by decide +kernel
theorem dX11_retained_64 : decode cX11_retained 64 = .ok (.invokevirtual 178, 3) := by decide +kernel
theorem dX11_retained_67 : decode cX11_retained 67 = .ok (.ireturn, 1) := by decide +kernel
theorem dX11_retained_68 : decode cX11_retained 68 = .ok (.aload_n 3, 1) := by decide +kernel
theorem dX11_retained_69 : decode cX11_retained 69 = .ok (.getfield 224, 3) := by decide +kernel
theorem dX11_retained_72 : decode cX11_retained 72 = .ok (.invokevirtual 178, 3) := by decide +kernel
theorem dX11_retained_75 : decode cX11_retained 75 = .ok (.ireturn, 1) := by decide +kernel
theorem dX11_retained_76 : decode cX11_retained 76 = .ok (.aload_n 3, 1) := by decide +kernel
theorem dX11_retained_77 : decode cX11_retained 77 = .ok (.getfield 227, 3) := by decide +kernel
theorem dX11_retained_80 : decode cX11_retained 80 = .ok (.ireturn, 1) := by decide +kernel
theorem dX11_retained_81 : decode cX11_retained 81 = .ok (.aload_n 3, 1) := by decide +kernel
theorem dX11_retained_82 : decode cX11_retained 82 = .ok (.getfield 230, 3) := by decide +kernel
theorem dX11_retained_85 : decode cX11_retained 85 = .ok (.ldc2_w 233, 3) := by decide +kernel
theorem dX11_retained_88 : decode cX11_retained 88 = .ok (.lcmp, 1) := by decide +kernel
theorem dX11_retained_89 : decode cX11_retained 89 = .ok (.ifCond .ne 7, 3) := by decide +kernel
theorem dX11_retained_92 : decode cX11_retained 92 = .ok (.iconst (-1), 1) := by decide +kernel
theorem dX11_retained_93 : decode cX11_retained 93 = .ok (.goto 18, 3) := by decide +kernel
theorem dX11_retained_96 : decode cX11_retained 96 = .ok (.ldc2_w 235, 3) := by decide +kernel
theorem dX11_retained_99 : decode cX11_retained 99 = .ok (.aload_n 3, 1) := by decide +kernel
theorem dX11_retained_100 : decode cX11_retained 100 = .ok (.aload_n 0, 1) := by decide +kernel
theorem dX11_retained_101 : decode cX11_retained 101 = .ok (.getfield 131, 3) := by decide +kernel
theorem dX11_retained_104 : decode cX11_retained 104 = .ok (.invokevirtual 237, 3) := by decide +kernel
theorem dX11_retained_107 : decode cX11_retained 107 = .ok (.invokestatic 141, 3) := by decide +kernel
theorem dX11_retained_110 : decode cX11_retained 110 = .ok (.l2i, 1) := by decide +kernel
theorem dX11_retained_111 : decode cX11_retained 111 = .ok (.ireturn, 1) := by decide +kernel
theorem dX11_kept_0 : decode cX11_kept 0 = .ok (.aload_n 0, 1) := by decide +kernel
theorem dX11_kept_1 : decode cX11_kept 1 = .ok (.getfield 27, 3) := by decide +kernel
theorem dX11_kept_4 : decode cX11_kept 4 = .ok (.iload_n 1, 1) := by decide +kernel
theorem dX11_kept_5 : decode cX11_kept 5 = .ok (.invokevirtual 215, 3) := by decide +kernel
theorem dX11_kept_8 : decode cX11_kept 8 = .ok (.astore 4, 2) := by decide +kernel
theorem dX11_kept_10 : decode cX11_kept 10 = .ok (.aload 4, 2) := by decide +kernel
theorem dX11_kept_12 : decode cX11_kept 12 = .ok (.ifnonnull 5, 3) := by decide +kernel
theorem dX11_kept_15 : decode cX11_kept 15 = .ok (.iconst (-1), 1) := by decide +kernel
theorem dX11_kept_16 : decode cX11_kept 16 = .ok (.ireturn, 1) := by decide +kernel
theorem dX11_kept_17 : decode cX11_kept 17 = .ok (.iload_n 2, 1) := by decide +kernel
theorem dX11_kept_18 : decode cX11_kept 18 = .ok (.ifCond .eq 15, 3) := by decide +kernel
theorem dX11_kept_21 : decode cX11_kept 21 = .ok (.aload 4, 2) := by decide +kernel
theorem dX11_kept_23 : decode cX11_kept 23 = .ok (.getfield 224, 3) := by decide +kernel
theorem dX11_kept_26 : decode cX11_kept 26 = .ok (.iload_n 3, 1) := by decide +kernel
theorem dX11_kept_27 : decode cX11_kept 27 = .ok (.invokevirtual 194, 3) := by decide +kernel
theorem dX11_kept_30 : decode cX11_kept 30 = .ok (.goto 12, 3) := by decide +kernel
theorem dX11_kept_33 : decode cX11_kept 33 = .ok (.aload 4, 2) := by decide +kernel
theorem dX11_kept_35 : decode cX11_kept 35 = .ok (.getfield 219, 3) := by decide +kernel
theorem dX11_kept_38 : decode cX11_kept 38 = .ok (.iload_n 3, 1) := by decide +kernel
theorem dX11_kept_39 : decode cX11_kept 39 = .ok (.invokevirtual 194, 3) := by decide +kernel
theorem dX11_kept_42 : decode cX11_kept 42 = .ok (.ireturn, 1) := by decide +kernel
theorem dX11_told_0 : decode cX11_told 0 = .ok (.iload_n 1, 1) := by decide +kernel
theorem dX11_told_1 : decode cX11_told 1 = .ok (.tableswitch 90 0 7 #[47, 52, 60, 65, 70, 75, 80, 85], 47) := by decide +kernel
theorem dX11_told_48 : decode cX11_told 48 = .ok (.aload_n 0, 1) := by decide +kernel
theorem dX11_told_49 : decode cX11_told 49 = .ok (.invokevirtual 241, 3) := by decide +kernel
theorem dX11_told_52 : decode cX11_told 52 = .ok (.ireturn, 1) := by decide +kernel
theorem dX11_told_53 : decode cX11_told 53 = .ok (.aload_n 0, 1) := by decide +kernel
theorem dX11_told_54 : decode cX11_told 54 = .ok (.getfield 27, 3) := by decide +kernel
theorem dX11_told_57 : decode cX11_told 57 = .ok (.getfield 244, 3) := by decide +kernel
theorem dX11_told_60 : decode cX11_told 60 = .ok (.ireturn, 1) := by decide +kernel
theorem dX11_told_61 : decode cX11_told 61 = .ok (.aload_n 0, 1) := by decide +kernel
theorem dX11_told_62 : decode cX11_told 62 = .ok (.getfield 87, 3) := by decide +kernel
theorem dX11_told_65 : decode cX11_told 65 = .ok (.ireturn, 1) := by decide +kernel
theorem dX11_told_66 : decode cX11_told 66 = .ok (.aload_n 0, 1) := by decide +kernel
theorem dX11_told_67 : decode cX11_told 67 = .ok (.invokevirtual 246, 3) := by decide +kernel
theorem dX11_told_70 : decode cX11_told 70 = .ok (.ireturn, 1) := by decide +kernel
theorem dX11_told_71 : decode cX11_told 71 = .ok (.aload_n 0, 1) := by decide +kernel
theorem dX11_told_72 : decode cX11_told 72 = .ok (.getfield 249, 3) := by decide +kernel
theorem dX11_told_75 : decode cX11_told 75 = .ok (.ireturn, 1) := by decide +kernel
theorem dX11_told_76 : decode cX11_told 76 = .ok (.aload_n 0, 1) := by decide +kernel
theorem dX11_told_77 : decode cX11_told 77 = .ok (.getfield 252, 3) := by decide +kernel
theorem dX11_told_80 : decode cX11_told 80 = .ok (.ireturn, 1) := by decide +kernel
theorem dX11_told_81 : decode cX11_told 81 = .ok (.aload_n 0, 1) := by decide +kernel
theorem dX11_told_82 : decode cX11_told 82 = .ok (.getfield 131, 3) := by decide +kernel
theorem dX11_told_85 : decode cX11_told 85 = .ok (.ireturn, 1) := by decide +kernel
theorem dX11_told_86 : decode cX11_told 86 = .ok (.aload_n 0, 1) := by decide +kernel
theorem dX11_told_87 : decode cX11_told 87 = .ok (.getfield 255, 3) := by decide +kernel
theorem dX11_told_90 : decode cX11_told 90 = .ok (.ireturn, 1) := by decide +kernel
theorem dX11_told_91 : decode cX11_told 91 = .ok (.new 84, 3) := by decide +kernel
theorem dX11_told_94 : decode cX11_told 94 = .ok (.dup, 1) := by decide +kernel
theorem dX11_told_95 : decode cX11_told 95 = .ok (.invokespecial 86, 3) := by decide +kernel
theorem dX11_told_98 : decode cX11_told 98 = .ok (.athrow, 1) := by decide +kernel
theorem dX11_connectionOf_0 : decode cX11_connectionOf 0 = .ok (.iload_n 1, 1) := by decide +kernel
theorem dX11_connectionOf_1 : decode cX11_connectionOf 1 = .ok (.ifCond .lt 9, 3) := by decide +kernel
theorem dX11_connectionOf_4 : decode cX11_connectionOf 4 = .ok (.iload_n 1, 1) := by decide +kernel
theorem dX11_connectionOf_5 : decode cX11_connectionOf 5 = .ok (.bipush 8, 2) := by decide +kernel
theorem dX11_connectionOf_7 : decode cX11_connectionOf 7 = .ok (.if_icmp .lt 11, 3) := by decide +kernel
theorem dX11_connectionOf_10 : decode cX11_connectionOf 10 = .ok (.new 258, 3) := by decide +kernel
theorem dX11_connectionOf_13 : decode cX11_connectionOf 13 = .ok (.dup, 1) := by decide +kernel
theorem dX11_connectionOf_14 : decode cX11_connectionOf 14 = .ok (.invokespecial 260, 3) := by decide +kernel
theorem dX11_connectionOf_17 : decode cX11_connectionOf 17 = .ok (.athrow, 1) := by decide +kernel
theorem dX11_connectionOf_18 : decode cX11_connectionOf 18 = .ok (.aload_n 0, 1) := by decide +kernel
theorem dX11_connectionOf_19 : decode cX11_connectionOf 19 = .ok (.getfield 11, 3) := by decide +kernel
theorem dX11_connectionOf_22 : decode cX11_connectionOf 22 = .ok (.iload_n 1, 1) := by decide +kernel
theorem dX11_connectionOf_23 : decode cX11_connectionOf 23 = .ok (.aaload, 1) := by decide +kernel
theorem dX11_connectionOf_24 : decode cX11_connectionOf 24 = .ok (.areturn, 1) := by decide +kernel
theorem dX11_sessionOf_0 : decode cX11_sessionOf 0 = .ok (.iload_n 1, 1) := by decide +kernel
theorem dX11_sessionOf_1 : decode cX11_sessionOf 1 = .ok (.ifCond .lt 18, 3) := by decide +kernel
theorem dX11_sessionOf_4 : decode cX11_sessionOf 4 = .ok (.iload_n 1, 1) := by decide +kernel
theorem dX11_sessionOf_5 : decode cX11_sessionOf 5 = .ok (.bipush 12, 2) := by decide +kernel
theorem dX11_sessionOf_7 : decode cX11_sessionOf 7 = .ok (.if_icmp .ge 12, 3) := by decide +kernel
theorem dX11_sessionOf_10 : decode cX11_sessionOf 10 = .ok (.aload_n 0, 1) := by decide +kernel
theorem dX11_sessionOf_11 : decode cX11_sessionOf 11 = .ok (.getfield 20, 3) := by decide +kernel
theorem dX11_sessionOf_14 : decode cX11_sessionOf 14 = .ok (.iload_n 1, 1) := by decide +kernel
theorem dX11_sessionOf_15 : decode cX11_sessionOf 15 = .ok (.aaload, 1) := by decide +kernel
theorem dX11_sessionOf_16 : decode cX11_sessionOf 16 = .ok (.ifnonnull 11, 3) := by decide +kernel
theorem dX11_sessionOf_19 : decode cX11_sessionOf 19 = .ok (.new 258, 3) := by decide +kernel
theorem dX11_sessionOf_22 : decode cX11_sessionOf 22 = .ok (.dup, 1) := by decide +kernel
theorem dX11_sessionOf_23 : decode cX11_sessionOf 23 = .ok (.invokespecial 260, 3) := by decide +kernel
theorem dX11_sessionOf_26 : decode cX11_sessionOf 26 = .ok (.athrow, 1) := by decide +kernel
theorem dX11_sessionOf_27 : decode cX11_sessionOf 27 = .ok (.aload_n 0, 1) := by decide +kernel
theorem dX11_sessionOf_28 : decode cX11_sessionOf 28 = .ok (.getfield 20, 3) := by decide +kernel
theorem dX11_sessionOf_31 : decode cX11_sessionOf 31 = .ok (.iload_n 1, 1) := by decide +kernel
theorem dX11_sessionOf_32 : decode cX11_sessionOf 32 = .ok (.aaload, 1) := by decide +kernel
theorem dX11_sessionOf_33 : decode cX11_sessionOf 33 = .ok (.areturn, 1) := by decide +kernel
theorem dX11_subscriptionOf_0 : decode cX11_subscriptionOf 0 = .ok (.aload_n 0, 1) := by decide +kernel
theorem dX11_subscriptionOf_1 : decode cX11_subscriptionOf 1 = .ok (.iload_n 1, 1) := by decide +kernel
theorem dX11_subscriptionOf_2 : decode cX11_subscriptionOf 2 = .ok (.invokevirtual 147, 3) := by decide +kernel
theorem dX11_subscriptionOf_5 : decode cX11_subscriptionOf 5 = .ok (.astore_n 3, 1) := by decide +kernel
theorem dX11_subscriptionOf_6 : decode cX11_subscriptionOf 6 = .ok (.iload_n 2, 1) := by decide +kernel
theorem dX11_subscriptionOf_7 : decode cX11_subscriptionOf 7 = .ok (.ifCond .lt 11, 3) := by decide +kernel
theorem dX11_subscriptionOf_10 : decode cX11_subscriptionOf 10 = .ok (.iload_n 2, 1) := by decide +kernel
theorem dX11_subscriptionOf_11 : decode cX11_subscriptionOf 11 = .ok (.aload_n 3, 1) := by decide +kernel
theorem dX11_subscriptionOf_12 : decode cX11_subscriptionOf 12 = .ok (.getfield 158, 3) := by decide +kernel
theorem dX11_subscriptionOf_15 : decode cX11_subscriptionOf 15 = .ok (.if_icmp .lt 11, 3) := by decide +kernel
theorem dX11_subscriptionOf_18 : decode cX11_subscriptionOf 18 = .ok (.new 258, 3) := by decide +kernel
theorem dX11_subscriptionOf_21 : decode cX11_subscriptionOf 21 = .ok (.dup, 1) := by decide +kernel
theorem dX11_subscriptionOf_22 : decode cX11_subscriptionOf 22 = .ok (.invokespecial 260, 3) := by decide +kernel
theorem dX11_subscriptionOf_25 : decode cX11_subscriptionOf 25 = .ok (.athrow, 1) := by decide +kernel
theorem dX11_subscriptionOf_26 : decode cX11_subscriptionOf 26 = .ok (.aload_n 3, 1) := by decide +kernel
theorem dX11_subscriptionOf_27 : decode cX11_subscriptionOf 27 = .ok (.getfield 261, 3) := by decide +kernel
theorem dX11_subscriptionOf_30 : decode cX11_subscriptionOf 30 = .ok (.iload_n 2, 1) := by decide +kernel
theorem dX11_subscriptionOf_31 : decode cX11_subscriptionOf 31 = .ok (.aaload, 1) := by decide +kernel
theorem dX11_subscriptionOf_32 : decode cX11_subscriptionOf 32 = .ok (.areturn, 1) := by decide +kernel
theorem dX11_countSessions_0 : decode cX11_countSessions 0 = .ok (.iconst 0, 1) := by decide +kernel
theorem dX11_countSessions_1 : decode cX11_countSessions 1 = .ok (.istore_n 1, 1) := by decide +kernel
theorem dX11_countSessions_2 : decode cX11_countSessions 2 = .ok (.iconst 0, 1) := by decide +kernel
theorem dX11_countSessions_3 : decode cX11_countSessions 3 = .ok (.istore_n 2, 1) := by decide +kernel
theorem dX11_countSessions_4 : decode cX11_countSessions 4 = .ok (.iload_n 2, 1) := by decide +kernel
theorem dX11_countSessions_5 : decode cX11_countSessions 5 = .ok (.bipush 12, 2) := by decide +kernel
theorem dX11_countSessions_7 : decode cX11_countSessions 7 = .ok (.if_icmp .ge 21, 3) := by decide +kernel
theorem dX11_countSessions_10 : decode cX11_countSessions 10 = .ok (.aload_n 0, 1) := by decide +kernel
theorem dX11_countSessions_11 : decode cX11_countSessions 11 = .ok (.getfield 20, 3) := by decide +kernel
theorem dX11_countSessions_14 : decode cX11_countSessions 14 = .ok (.iload_n 2, 1) := by decide +kernel
theorem dX11_countSessions_15 : decode cX11_countSessions 15 = .ok (.aaload, 1) := by decide +kernel
theorem dX11_countSessions_16 : decode cX11_countSessions 16 = .ok (.ifnull 6, 3) := by decide +kernel
theorem dX11_countSessions_19 : decode cX11_countSessions 19 = .ok (.iinc 1 1, 3) := by decide +kernel
theorem dX11_countSessions_22 : decode cX11_countSessions 22 = .ok (.iinc 2 1, 3) := by decide +kernel
theorem dX11_countSessions_25 : decode cX11_countSessions 25 = .ok (.goto (-21), 3) := by decide +kernel
theorem dX11_countSessions_28 : decode cX11_countSessions 28 = .ok (.iload_n 1, 1) := by decide +kernel
theorem dX11_countSessions_29 : decode cX11_countSessions 29 = .ok (.ireturn, 1) := by decide +kernel
theorem dX11_countSent_0 : decode cX11_countSent 0 = .ok (.iconst 0, 1) := by decide +kernel
theorem dX11_countSent_1 : decode cX11_countSent 1 = .ok (.istore_n 1, 1) := by decide +kernel
theorem dX11_countSent_2 : decode cX11_countSent 2 = .ok (.iconst 0, 1) := by decide +kernel
theorem dX11_countSent_3 : decode cX11_countSent 3 = .ok (.istore_n 2, 1) := by decide +kernel
theorem dX11_countSent_4 : decode cX11_countSent 4 = .ok (.iload_n 2, 1) := by decide +kernel
theorem dX11_countSent_5 : decode cX11_countSent 5 = .ok (.bipush 8, 2) := by decide +kernel
theorem dX11_countSent_7 : decode cX11_countSent 7 = .ok (.if_icmp .ge 21, 3) := by decide +kernel
theorem dX11_countSent_10 : decode cX11_countSent 10 = .ok (.iload_n 1, 1) := by decide +kernel
theorem dX11_countSent_11 : decode cX11_countSent 11 = .ok (.aload_n 0, 1) := by decide +kernel
theorem dX11_countSent_12 : decode cX11_countSent 12 = .ok (.getfield 11, 3) := by decide +kernel
theorem dX11_countSent_15 : decode cX11_countSent 15 = .ok (.iload_n 2, 1) := by decide +kernel
theorem dX11_countSent_16 : decode cX11_countSent 16 = .ok (.aaload, 1) := by decide +kernel
theorem dX11_countSent_17 : decode cX11_countSent 17 = .ok (.getfield 265, 3) := by decide +kernel
theorem dX11_countSent_20 : decode cX11_countSent 20 = .ok (.iadd, 1) := by decide +kernel
theorem dX11_countSent_21 : decode cX11_countSent 21 = .ok (.istore_n 1, 1) := by decide +kernel
theorem dX11_countSent_22 : decode cX11_countSent 22 = .ok (.iinc 2 1, 3) := by decide +kernel
theorem dX11_countSent_25 : decode cX11_countSent 25 = .ok (.goto (-21), 3) := by decide +kernel
theorem dX11_countSent_28 : decode cX11_countSent 28 = .ok (.iload_n 1, 1) := by decide +kernel
theorem dX11_countSent_29 : decode cX11_countSent 29 = .ok (.ireturn, 1) := by decide +kernel
theorem dX11_obey_0 : decode cX11_obey 0 = .ok (.aload_n 0, 1) := by decide +kernel
theorem dX11_obey_1 : decode cX11_obey 1 = .ok (.dup, 1) := by decide +kernel
theorem dX11_obey_2 : decode cX11_obey 2 = .ok (.getfield 87, 3) := by decide +kernel
theorem dX11_obey_5 : decode cX11_obey 5 = .ok (.iconst 1, 1) := by decide +kernel
theorem dX11_obey_6 : decode cX11_obey 6 = .ok (.iadd, 1) := by decide +kernel
theorem dX11_obey_7 : decode cX11_obey 7 = .ok (.putfield 87, 3) := by decide +kernel
theorem dX11_obey_10 : decode cX11_obey 10 = .ok (.aload_n 1, 1) := by decide +kernel
theorem dX11_obey_11 : decode cX11_obey 11 = .ok (.aload_n 0, 1) := by decide +kernel
theorem dX11_obey_12 : decode cX11_obey 12 = .ok (.getfield 131, 3) := by decide +kernel
theorem dX11_obey_15 : decode cX11_obey 15 = .ok (.putfield 268, 3) := by decide +kernel
theorem dX11_obey_18 : decode cX11_obey 18 = .ok (.aload_n 0, 1) := by decide +kernel
theorem dX11_obey_19 : decode cX11_obey 19 = .ok (.getfield 34, 3) := by decide +kernel
theorem dX11_obey_22 : decode cX11_obey 22 = .ok (.aload_n 1, 1) := by decide +kernel
theorem dX11_obey_23 : decode cX11_obey 23 = .ok (.getfield 271, 3) := by decide +kernel
theorem dX11_obey_26 : decode cX11_obey 26 = .ok (.aload_n 1, 1) := by decide +kernel
theorem dX11_obey_27 : decode cX11_obey 27 = .ok (.getfield 274, 3) := by decide +kernel
theorem dX11_obey_30 : decode cX11_obey 30 = .ok (.aload_n 1, 1) := by decide +kernel
theorem dX11_obey_31 : decode cX11_obey 31 = .ok (.getfield 277, 3) := by decide +kernel
theorem dX11_obey_34 : decode cX11_obey 34 = .ok (.invokevirtual 280, 3) := by decide +kernel
theorem dX11_obey_37 : decode cX11_obey 37 = .ok (.aload_n 1, 1) := by decide +kernel
theorem dX11_obey_38 : decode cX11_obey 38 = .ok (.invokevirtual 283, 3) := by decide +kernel
theorem dX11_obey_41 : decode cX11_obey 41 = .ok (.istore_n 2, 1) := by decide +kernel
theorem dX11_obey_42 : decode cX11_obey 42 = .ok (.aload_n 1, 1) := by decide +kernel
theorem dX11_obey_43 : decode cX11_obey 43 = .ok (.getfield 271, 3) := by decide +kernel
theorem dX11_obey_46 : decode cX11_obey 46 = .ok (.iconst 0, 1) := by decide +kernel
theorem dX11_obey_47 : decode cX11_obey 47 = .ok (.iaload, 1) := by decide +kernel
theorem dX11_obey_48 : decode cX11_obey 48 = .ok (.bipush 15, 2) := by decide +kernel
theorem dX11_obey_50 : decode cX11_obey 50 = .ok (.iand, 1) := by decide +kernel
theorem dX11_obey_51 : decode cX11_obey 51 = .ok (.istore_n 3, 1) := by decide +kernel
theorem dX11_obey_52 : decode cX11_obey 52 = .ok (.iload_n 2, 1) := by decide +kernel
theorem dX11_obey_53 : decode cX11_obey 53 = .ok (.iconst 1, 1) := by decide +kernel
theorem dX11_obey_54 : decode cX11_obey 54 = .ok (.if_icmp .ne 31, 3) := by decide +kernel
theorem dX11_obey_57 : decode cX11_obey 57 = .ok (.aload_n 1, 1) := by decide +kernel
theorem dX11_obey_58 : decode cX11_obey 58 = .ok (.getfield 286, 3) := by decide +kernel
theorem dX11_obey_61 : decode cX11_obey 61 = .ok (.ifnonnull 24, 3) := by decide +kernel
theorem dX11_obey_64 : decode cX11_obey 64 = .ok (.aload_n 0, 1) := by decide +kernel
theorem dX11_obey_65 : decode cX11_obey 65 = .ok (.getfield 55, 3) := by decide +kernel
theorem dX11_obey_68 : decode cX11_obey 68 = .ok (.aload_n 0, 1) := by decide +kernel
theorem dX11_obey_69 : decode cX11_obey 69 = .ok (.getfield 34, 3) := by decide +kernel
theorem dX11_obey_72 : decode cX11_obey 72 = .ok (.aload_n 0, 1) := by decide +kernel
theorem dX11_obey_73 : decode cX11_obey 73 = .ok (.getfield 41, 3) := by decide +kernel
theorem dX11_obey_76 : decode cX11_obey 76 = .ok (.iload_n 3, 1) := by decide +kernel
theorem dX11_obey_77 : decode cX11_obey 77 = .ok (.invokevirtual 290, 3) := by decide +kernel
theorem dX11_obey_80 : decode cX11_obey 80 = .ok (.aload_n 0, 1) := by decide +kernel
theorem dX11_obey_81 : decode cX11_obey 81 = .ok (.invokevirtual 294, 3) := by decide +kernel
theorem dX11_obey_84 : decode cX11_obey 84 = .ok (.ireturn, 1) := by decide +kernel
theorem dX11_obey_85 : decode cX11_obey 85 = .ok (.aload_n 1, 1) := by decide +kernel
theorem dX11_obey_86 : decode cX11_obey 86 = .ok (.getfield 286, 3) := by decide +kernel
theorem dX11_obey_89 : decode cX11_obey 89 = .ok (.astore 4, 2) := by decide +kernel
theorem dX11_obey_91 : decode cX11_obey 91 = .ok (.aload 4, 2) := by decide +kernel
theorem dX11_obey_93 : decode cX11_obey 93 = .ok (.ifnonnull 7, 3) := by decide +kernel
theorem dX11_obey_96 : decode cX11_obey 96 = .ok (.sipush 130, 3) := by decide +kernel
theorem dX11_obey_99 : decode cX11_obey 99 = .ok (.ireturn, 1) := by decide +kernel
theorem dX11_obey_100 : decode cX11_obey 100 = .ok (.iload_n 2, 1) := by decide +kernel
theorem dX11_obey_101 : decode cX11_obey 101 = .ok (.tableswitch 115 3 14 #[63, 72, 72, 72, 72, 82, 115, 91, 115, 100, 115, 107], 63) := by decide +kernel
theorem dX11_obey_164 : decode cX11_obey 164 = .ok (.aload_n 0, 1) := by decide +kernel
theorem dX11_obey_165 : decode cX11_obey 165 = .ok (.aload_n 1, 1) := by decide +kernel
theorem dX11_obey_166 : decode cX11_obey 166 = .ok (.aload 4, 2) := by decide +kernel
theorem dX11_obey_168 : decode cX11_obey 168 = .ok (.iload_n 3, 1) := by decide +kernel
theorem dX11_obey_169 : decode cX11_obey 169 = .ok (.invokevirtual 297, 3) := by decide +kernel
theorem dX11_obey_172 : decode cX11_obey 172 = .ok (.ireturn, 1) := by decide +kernel
theorem dX11_obey_173 : decode cX11_obey 173 = .ok (.aload_n 0, 1) := by decide +kernel
theorem dX11_obey_174 : decode cX11_obey 174 = .ok (.aload_n 1, 1) := by decide +kernel
theorem dX11_obey_175 : decode cX11_obey 175 = .ok (.aload 4, 2) := by decide +kernel
theorem dX11_obey_177 : decode cX11_obey 177 = .ok (.iload_n 2, 1) := by decide +kernel
theorem dX11_obey_178 : decode cX11_obey 178 = .ok (.iload_n 3, 1) := by decide +kernel
theorem dX11_obey_179 : decode cX11_obey 179 = .ok (.invokevirtual 301, 3) := by decide +kernel
theorem dX11_obey_182 : decode cX11_obey 182 = .ok (.ireturn, 1) := by decide +kernel
theorem dX11_obey_183 : decode cX11_obey 183 = .ok (.aload_n 0, 1) := by decide +kernel
theorem dX11_obey_184 : decode cX11_obey 184 = .ok (.aload_n 1, 1) := by decide +kernel
theorem dX11_obey_185 : decode cX11_obey 185 = .ok (.aload 4, 2) := by decide +kernel
theorem dX11_obey_187 : decode cX11_obey 187 = .ok (.iload_n 3, 1) := by decide +kernel
theorem dX11_obey_188 : decode cX11_obey 188 = .ok (.invokevirtual 305, 3) := by decide +kernel
theorem dX11_obey_191 : decode cX11_obey 191 = .ok (.ireturn, 1) := by decide +kernel
theorem dX11_obey_192 : decode cX11_obey 192 = .ok (.aload_n 0, 1) := by decide +kernel
theorem dX11_obey_193 : decode cX11_obey 193 = .ok (.aload_n 1, 1) := by decide +kernel
theorem dX11_obey_194 : decode cX11_obey 194 = .ok (.aload 4, 2) := by decide +kernel
theorem dX11_obey_196 : decode cX11_obey 196 = .ok (.iload_n 3, 1) := by decide +kernel
theorem dX11_obey_197 : decode cX11_obey 197 = .ok (.invokevirtual 308, 3) := by decide +kernel
theorem dX11_obey_200 : decode cX11_obey 200 = .ok (.ireturn, 1) := by decide +kernel
theorem dX11_obey_201 : decode cX11_obey 201 = .ok (.aload_n 0, 1) := by decide +kernel
theorem dX11_obey_202 : decode cX11_obey 202 = .ok (.aload_n 1, 1) := by decide +kernel
theorem dX11_obey_203 : decode cX11_obey 203 = .ok (.iload_n 3, 1) := by decide +kernel
theorem dX11_obey_204 : decode cX11_obey 204 = .ok (.invokevirtual 311, 3) := by decide +kernel
theorem dX11_obey_207 : decode cX11_obey 207 = .ok (.ireturn, 1) := by decide +kernel
theorem dX11_obey_208 : decode cX11_obey 208 = .ok (.aload_n 0, 1) := by decide +kernel
theorem dX11_obey_209 : decode cX11_obey 209 = .ok (.aload 4, 2) := by decide +kernel
theorem dX11_obey_211 : decode cX11_obey 211 = .ok (.iload_n 3, 1) := by decide +kernel
theorem dX11_obey_212 : decode cX11_obey 212 = .ok (.invokevirtual 315, 3) := by decide +kernel
theorem dX11_obey_215 : decode cX11_obey 215 = .ok (.ireturn, 1) := by decide +kernel
theorem dX11_obey_216 : decode cX11_obey 216 = .ok (.sipush 130, 3) := by decide +kernel
theorem dX11_obey_219 : decode cX11_obey 219 = .ok (.ireturn, 1) := by decide +kernel
theorem dX11_refuse_0 : decode cX11_refuse 0 = .ok (.aload_n 1, 1) := by decide +kernel
theorem dX11_refuse_1 : decode cX11_refuse 1 = .ok (.getfield 286, 3) := by decide +kernel
theorem dX11_refuse_4 : decode cX11_refuse 4 = .ok (.ifnull 12, 3) := by decide +kernel
theorem dX11_refuse_7 : decode cX11_refuse 7 = .ok (.aload_n 0, 1) := by decide +kernel
theorem dX11_refuse_8 : decode cX11_refuse 8 = .ok (.aload_n 1, 1) := by decide +kernel
theorem dX11_refuse_9 : decode cX11_refuse 9 = .ok (.iload_n 2, 1) := by decide +kernel
theorem dX11_refuse_10 : decode cX11_refuse 10 = .ok (.invokevirtual 319, 3) := by decide +kernel
theorem dX11_refuse_13 : decode cX11_refuse 13 = .ok (.goto 52, 3) := by decide +kernel
theorem dX11_refuse_16 : decode cX11_refuse 16 = .ok (.aload_n 1, 1) := by decide +kernel
theorem dX11_refuse_17 : decode cX11_refuse 17 = .ok (.invokevirtual 283, 3) := by decide +kernel
theorem dX11_refuse_20 : decode cX11_refuse 20 = .ok (.iconst 1, 1) := by decide +kernel
theorem dX11_refuse_21 : decode cX11_refuse 21 = .ok (.if_icmp .ne 44, 3) := by decide +kernel
theorem dX11_refuse_24 : decode cX11_refuse 24 = .ok (.aload_n 0, 1) := by decide +kernel
theorem dX11_refuse_25 : decode cX11_refuse 25 = .ok (.getfield 48, 3) := by decide +kernel
theorem dX11_refuse_28 : decode cX11_refuse 28 = .ok (.bipush 32, 2) := by decide +kernel
theorem dX11_refuse_30 : decode cX11_refuse 30 = .ok (.invokevirtual 322, 3) := by decide +kernel
theorem dX11_refuse_33 : decode cX11_refuse 33 = .ok (.aload_n 0, 1) := by decide +kernel
theorem dX11_refuse_34 : decode cX11_refuse 34 = .ok (.getfield 48, 3) := by decide +kernel
theorem dX11_refuse_37 : decode cX11_refuse 37 = .ok (.iconst 0, 1) := by decide +kernel
theorem dX11_refuse_38 : decode cX11_refuse 38 = .ok (.invokevirtual 324, 3) := by decide +kernel
theorem dX11_refuse_41 : decode cX11_refuse 41 = .ok (.aload_n 0, 1) := by decide +kernel
theorem dX11_refuse_42 : decode cX11_refuse 42 = .ok (.getfield 48, 3) := by decide +kernel
theorem dX11_refuse_45 : decode cX11_refuse 45 = .ok (.iload_n 2, 1) := by decide +kernel
theorem dX11_refuse_46 : decode cX11_refuse 46 = .ok (.invokevirtual 324, 3) := by decide +kernel
theorem dX11_refuse_49 : decode cX11_refuse 49 = .ok (.aload_n 0, 1) := by decide +kernel
theorem dX11_refuse_50 : decode cX11_refuse 50 = .ok (.getfield 48, 3) := by decide +kernel
theorem dX11_refuse_53 : decode cX11_refuse 53 = .ok (.iconst 0, 1) := by decide +kernel
theorem dX11_refuse_54 : decode cX11_refuse 54 = .ok (.invokevirtual 324, 3) := by decide +kernel
theorem dX11_refuse_57 : decode cX11_refuse 57 = .ok (.aload_n 1, 1) := by decide +kernel
theorem dX11_refuse_58 : decode cX11_refuse 58 = .ok (.aload_n 0, 1) := by decide +kernel
theorem dX11_refuse_59 : decode cX11_refuse 59 = .ok (.getfield 48, 3) := by decide +kernel
theorem dX11_refuse_62 : decode cX11_refuse 62 = .ok (.invokevirtual 327, 3) := by decide +kernel
theorem dX11_refuse_65 : decode cX11_refuse 65 = .ok (.aload_n 0, 1) := by decide +kernel
theorem dX11_refuse_66 : decode cX11_refuse 66 = .ok (.aload_n 1, 1) := by decide +kernel
theorem dX11_refuse_67 : decode cX11_refuse 67 = .ok (.invokevirtual 103, 3) := by decide +kernel
theorem dX11_refuse_70 : decode cX11_refuse 70 = .ok (.return_, 1) := by decide +kernel
theorem dX11_sayFarewell_0 : decode cX11_sayFarewell 0 = .ok (.aload_n 0, 1) := by decide +kernel
theorem dX11_sayFarewell_1 : decode cX11_sayFarewell 1 = .ok (.getfield 48, 3) := by decide +kernel
theorem dX11_sayFarewell_4 : decode cX11_sayFarewell 4 = .ok (.sipush 224, 3) := by decide +kernel
theorem dX11_sayFarewell_7 : decode cX11_sayFarewell 7 = .ok (.invokevirtual 322, 3) := by decide +kernel
theorem dX11_sayFarewell_10 : decode cX11_sayFarewell 10 = .ok (.aload_n 0, 1) := by decide +kernel
theorem dX11_sayFarewell_11 : decode cX11_sayFarewell 11 = .ok (.getfield 48, 3) := by decide +kernel
theorem dX11_sayFarewell_14 : decode cX11_sayFarewell 14 = .ok (.iload_n 2, 1) := by decide +kernel
theorem dX11_sayFarewell_15 : decode cX11_sayFarewell 15 = .ok (.invokevirtual 324, 3) := by decide +kernel
theorem dX11_sayFarewell_18 : decode cX11_sayFarewell 18 = .ok (.aload_n 0, 1) := by decide +kernel
theorem dX11_sayFarewell_19 : decode cX11_sayFarewell 19 = .ok (.getfield 48, 3) := by decide +kernel
theorem dX11_sayFarewell_22 : decode cX11_sayFarewell 22 = .ok (.iconst 0, 1) := by decide +kernel
theorem dX11_sayFarewell_23 : decode cX11_sayFarewell 23 = .ok (.invokevirtual 324, 3) := by decide +kernel
theorem dX11_sayFarewell_26 : decode cX11_sayFarewell 26 = .ok (.aload_n 1, 1) := by decide +kernel
theorem dX11_sayFarewell_27 : decode cX11_sayFarewell 27 = .ok (.aload_n 0, 1) := by decide +kernel
theorem dX11_sayFarewell_28 : decode cX11_sayFarewell 28 = .ok (.getfield 48, 3) := by decide +kernel
theorem dX11_sayFarewell_31 : decode cX11_sayFarewell 31 = .ok (.invokevirtual 327, 3) := by decide +kernel
theorem dX11_sayFarewell_34 : decode cX11_sayFarewell 34 = .ok (.return_, 1) := by decide +kernel
theorem dX11_answer_0 : decode cX11_answer 0 = .ok (.aload_n 0, 1) := by decide +kernel
theorem dX11_answer_1 : decode cX11_answer 1 = .ok (.getfield 48, 3) := by decide +kernel
theorem dX11_answer_4 : decode cX11_answer 4 = .ok (.iload_n 2, 1) := by decide +kernel
theorem dX11_answer_5 : decode cX11_answer 5 = .ok (.invokevirtual 322, 3) := by decide +kernel
theorem dX11_answer_8 : decode cX11_answer 8 = .ok (.aload_n 0, 1) := by decide +kernel
theorem dX11_answer_9 : decode cX11_answer 9 = .ok (.getfield 48, 3) := by decide +kernel
theorem dX11_answer_12 : decode cX11_answer 12 = .ok (.iload_n 3, 1) := by decide +kernel
theorem dX11_answer_13 : decode cX11_answer 13 = .ok (.invokevirtual 331, 3) := by decide +kernel
theorem dX11_answer_16 : decode cX11_answer 16 = .ok (.iload 4, 2) := by decide +kernel
theorem dX11_answer_18 : decode cX11_answer 18 = .ok (.ifCond .eq 12, 3) := by decide +kernel
theorem dX11_answer_21 : decode cX11_answer 21 = .ok (.aload_n 0, 1) := by decide +kernel
theorem dX11_answer_22 : decode cX11_answer 22 = .ok (.getfield 48, 3) := by decide +kernel
theorem dX11_answer_25 : decode cX11_answer 25 = .ok (.iload 4, 2) := by decide +kernel
theorem dX11_answer_27 : decode cX11_answer 27 = .ok (.invokevirtual 324, 3) := by decide +kernel
theorem dX11_answer_30 : decode cX11_answer 30 = .ok (.aload_n 1, 1) := by decide +kernel
theorem dX11_answer_31 : decode cX11_answer 31 = .ok (.aload_n 0, 1) := by decide +kernel
theorem dX11_answer_32 : decode cX11_answer 32 = .ok (.getfield 48, 3) := by decide +kernel
theorem dX11_answer_35 : decode cX11_answer 35 = .ok (.invokevirtual 327, 3) := by decide +kernel
theorem dX11_answer_38 : decode cX11_answer 38 = .ok (.return_, 1) := by decide +kernel
theorem dX11_ping_0 : decode cX11_ping 0 = .ok (.aload_n 0, 1) := by decide +kernel
theorem dX11_ping_1 : decode cX11_ping 1 = .ok (.getfield 34, 3) := by decide +kernel
theorem dX11_ping_4 : decode cX11_ping 4 = .ok (.iload_n 2, 1) := by decide +kernel
theorem dX11_ping_5 : decode cX11_ping 5 = .ok (.iconst 0, 1) := by decide +kernel
theorem dX11_ping_6 : decode cX11_ping 6 = .ok (.invokevirtual 334, 3) := by decide +kernel
theorem dX11_ping_9 : decode cX11_ping 9 = .ok (.aload_n 0, 1) := by decide +kernel
theorem dX11_ping_10 : decode cX11_ping 10 = .ok (.getfield 34, 3) := by decide +kernel
theorem dX11_ping_13 : decode cX11_ping 13 = .ok (.invokevirtual 338, 3) := by decide +kernel
theorem dX11_ping_16 : decode cX11_ping 16 = .ok (.aload_n 0, 1) := by decide +kernel
theorem dX11_ping_17 : decode cX11_ping 17 = .ok (.getfield 34, 3) := by decide +kernel
theorem dX11_ping_20 : decode cX11_ping 20 = .ok (.getfield 341, 3) := by decide +kernel
theorem dX11_ping_23 : decode cX11_ping 23 = .ok (.ifCond .eq 11, 3) := by decide +kernel
theorem dX11_ping_26 : decode cX11_ping 26 = .ok (.aload_n 0, 1) := by decide +kernel
theorem dX11_ping_27 : decode cX11_ping 27 = .ok (.getfield 34, 3) := by decide +kernel
theorem dX11_ping_30 : decode cX11_ping 30 = .ok (.getfield 341, 3) := by decide +kernel
theorem dX11_ping_33 : decode cX11_ping 33 = .ok (.ireturn, 1) := by decide +kernel
theorem dX11_ping_34 : decode cX11_ping 34 = .ok (.aload_n 0, 1) := by decide +kernel
theorem dX11_ping_35 : decode cX11_ping 35 = .ok (.getfield 48, 3) := by decide +kernel
theorem dX11_ping_38 : decode cX11_ping 38 = .ok (.sipush 208, 3) := by decide +kernel
theorem dX11_ping_41 : decode cX11_ping 41 = .ok (.invokevirtual 322, 3) := by decide +kernel
theorem dX11_ping_44 : decode cX11_ping 44 = .ok (.aload_n 1, 1) := by decide +kernel
theorem dX11_ping_45 : decode cX11_ping 45 = .ok (.aload_n 0, 1) := by decide +kernel
theorem dX11_ping_46 : decode cX11_ping 46 = .ok (.getfield 48, 3) := by decide +kernel
theorem dX11_ping_49 : decode cX11_ping 49 = .ok (.invokevirtual 327, 3) := by decide +kernel
theorem dX11_ping_52 : decode cX11_ping 52 = .ok (.iconst 0, 1) := by decide +kernel
theorem dX11_ping_53 : decode cX11_ping 53 = .ok (.ireturn, 1) := by decide +kernel
theorem dX11_leave_0 : decode cX11_leave 0 = .ok (.aload_n 0, 1) := by decide +kernel
theorem dX11_leave_1 : decode cX11_leave 1 = .ok (.getfield 34, 3) := by decide +kernel
theorem dX11_leave_4 : decode cX11_leave 4 = .ok (.iload_n 2, 1) := by decide +kernel
theorem dX11_leave_5 : decode cX11_leave 5 = .ok (.iconst 0, 1) := by decide +kernel
theorem dX11_leave_6 : decode cX11_leave 6 = .ok (.invokevirtual 334, 3) := by decide +kernel
theorem dX11_leave_9 : decode cX11_leave 9 = .ok (.aload_n 0, 1) := by decide +kernel
theorem dX11_leave_10 : decode cX11_leave 10 = .ok (.getfield 41, 3) := by decide +kernel
theorem dX11_leave_13 : decode cX11_leave 13 = .ok (.invokevirtual 344, 3) := by decide +kernel
theorem dX11_leave_16 : decode cX11_leave 16 = .ok (.iconst 0, 1) := by decide +kernel
theorem dX11_leave_17 : decode cX11_leave 17 = .ok (.istore_n 3, 1) := by decide +kernel
theorem dX11_leave_18 : decode cX11_leave 18 = .ok (.aload_n 0, 1) := by decide +kernel
theorem dX11_leave_19 : decode cX11_leave 19 = .ok (.getfield 34, 3) := by decide +kernel
theorem dX11_leave_22 : decode cX11_leave 22 = .ok (.invokevirtual 347, 3) := by decide +kernel
theorem dX11_leave_25 : decode cX11_leave 25 = .ok (.ifCond .le 11, 3) := by decide +kernel
theorem dX11_leave_28 : decode cX11_leave 28 = .ok (.aload_n 0, 1) := by decide +kernel
theorem dX11_leave_29 : decode cX11_leave 29 = .ok (.getfield 34, 3) := by decide +kernel
theorem dX11_leave_32 : decode cX11_leave 32 = .ok (.invokevirtual 349, 3) := by decide +kernel
theorem dX11_leave_35 : decode cX11_leave 35 = .ok (.istore_n 3, 1) := by decide +kernel
theorem dX11_leave_36 : decode cX11_leave 36 = .ok (.aload_n 0, 1) := by decide +kernel
theorem dX11_leave_37 : decode cX11_leave 37 = .ok (.getfield 34, 3) := by decide +kernel
theorem dX11_leave_40 : decode cX11_leave 40 = .ok (.invokevirtual 347, 3) := by decide +kernel
theorem dX11_leave_43 : decode cX11_leave 43 = .ok (.ifCond .le 17, 3) := by decide +kernel
theorem dX11_leave_46 : decode cX11_leave 46 = .ok (.aload_n 0, 1) := by decide +kernel
theorem dX11_leave_47 : decode cX11_leave 47 = .ok (.getfield 41, 3) := by decide +kernel
theorem dX11_leave_50 : decode cX11_leave 50 = .ok (.aload_n 0, 1) := by decide +kernel
theorem dX11_leave_51 : decode cX11_leave 51 = .ok (.getfield 34, 3) := by decide +kernel
theorem dX11_leave_54 : decode cX11_leave 54 = .ok (.ldc2_w 351, 3) := by decide +kernel
theorem dX11_leave_57 : decode cX11_leave 57 = .ok (.invokevirtual 353, 3) := by decide +kernel
theorem dX11_leave_60 : decode cX11_leave 60 = .ok (.aload_n 0, 1) := by decide +kernel
theorem dX11_leave_61 : decode cX11_leave 61 = .ok (.getfield 34, 3) := by decide +kernel
theorem dX11_leave_64 : decode cX11_leave 64 = .ok (.invokevirtual 338, 3) := by decide +kernel
theorem dX11_leave_67 : decode cX11_leave 67 = .ok (.aload_n 0, 1) := by decide +kernel
theorem dX11_leave_68 : decode cX11_leave 68 = .ok (.getfield 41, 3) := by decide +kernel
theorem dX11_leave_71 : decode cX11_leave 71 = .ok (.bipush 17, 2) := by decide +kernel
theorem dX11_leave_73 : decode cX11_leave 73 = .ok (.aload_n 1, 1) := by decide +kernel
theorem dX11_leave_74 : decode cX11_leave 74 = .ok (.getfield 190, 3) := by decide +kernel
theorem dX11_leave_77 : decode cX11_leave 77 = .ok (.invokevirtual 356, 3) := by decide +kernel
theorem dX11_leave_80 : decode cX11_leave 80 = .ok (.lstore 4, 2) := by decide +kernel
theorem dX11_leave_82 : decode cX11_leave 82 = .ok (.lload 4, 2) := by decide +kernel
theorem dX11_leave_84 : decode cX11_leave 84 = .ok (.lconst 0, 1) := by decide +kernel
theorem dX11_leave_85 : decode cX11_leave 85 = .ok (.lcmp, 1) := by decide +kernel
theorem dX11_leave_86 : decode cX11_leave 86 = .ok (.ifCond .eq 22, 3) := by decide +kernel
theorem dX11_leave_89 : decode cX11_leave 89 = .ok (.aload_n 1, 1) := by decide +kernel
theorem dX11_leave_90 : decode cX11_leave 90 = .ok (.getfield 190, 3) := by decide +kernel
theorem dX11_leave_93 : decode cX11_leave 93 = .ok (.lconst 0, 1) := by decide +kernel
theorem dX11_leave_94 : decode cX11_leave 94 = .ok (.lcmp, 1) := by decide +kernel
theorem dX11_leave_95 : decode cX11_leave 95 = .ok (.ifCond .ne 13, 3) := by decide +kernel
theorem dX11_leave_98 : decode cX11_leave 98 = .ok (.aload_n 0, 1) := by decide +kernel
theorem dX11_leave_99 : decode cX11_leave 99 = .ok (.getfield 34, 3) := by decide +kernel
theorem dX11_leave_102 : decode cX11_leave 102 = .ok (.sipush 130, 3) := by decide +kernel
theorem dX11_leave_105 : decode cX11_leave 105 = .ok (.invokevirtual 359, 3) := by decide +kernel
theorem dX11_leave_108 : decode cX11_leave 108 = .ok (.aload_n 0, 1) := by decide +kernel
theorem dX11_leave_109 : decode cX11_leave 109 = .ok (.getfield 34, 3) := by decide +kernel
theorem dX11_leave_112 : decode cX11_leave 112 = .ok (.getfield 341, 3) := by decide +kernel
theorem dX11_leave_115 : decode cX11_leave 115 = .ok (.ifCond .eq 11, 3) := by decide +kernel
theorem dX11_leave_118 : decode cX11_leave 118 = .ok (.aload_n 0, 1) := by decide +kernel
theorem dX11_leave_119 : decode cX11_leave 119 = .ok (.getfield 34, 3) := by decide +kernel
theorem dX11_leave_122 : decode cX11_leave 122 = .ok (.getfield 341, 3) := by decide +kernel
theorem dX11_leave_125 : decode cX11_leave 125 = .ok (.ireturn, 1) := by decide +kernel
theorem dX11_leave_126 : decode cX11_leave 126 = .ok (.aload_n 1, 1) := by decide +kernel
theorem dX11_leave_127 : decode cX11_leave 127 = .ok (.lload 4, 2) := by decide +kernel
theorem dX11_leave_129 : decode cX11_leave 129 = .ok (.putfield 190, 3) := by decide +kernel
theorem dX11_leave_132 : decode cX11_leave 132 = .ok (.iload_n 3, 1) := by decide +kernel
theorem dX11_leave_133 : decode cX11_leave 133 = .ok (.ifCond .ne 8, 3) := by decide +kernel
theorem dX11_leave_136 : decode cX11_leave 136 = .ok (.aload_n 1, 1) := by decide +kernel
theorem dX11_leave_137 : decode cX11_leave 137 = .ok (.aconst_null, 1) := by decide +kernel
theorem dX11_leave_138 : decode cX11_leave 138 = .ok (.putfield 170, 3) := by decide +kernel
theorem dX11_leave_141 : decode cX11_leave 141 = .ok (.iconst 4, 1) := by decide +kernel
theorem dX11_leave_142 : decode cX11_leave 142 = .ok (.ireturn, 1) := by decide +kernel
theorem dX11_greeted_0 : decode cX11_greeted 0 = .ok (.aload_n 0, 1) := by decide +kernel
theorem dX11_greeted_1 : decode cX11_greeted 1 = .ok (.getfield 34, 3) := by decide +kernel
theorem dX11_greeted_4 : decode cX11_greeted 4 = .ok (.getfield 341, 3) := by decide +kernel
theorem dX11_greeted_7 : decode cX11_greeted 7 = .ok (.ifCond .ne 36, 3) := by decide +kernel
theorem dX11_greeted_10 : decode cX11_greeted 10 = .ok (.aload_n 0, 1) := by decide +kernel
theorem dX11_greeted_11 : decode cX11_greeted 11 = .ok (.invokevirtual 241, 3) := by decide +kernel
theorem dX11_greeted_14 : decode cX11_greeted 14 = .ok (.bipush 12, 2) := by decide +kernel
theorem dX11_greeted_16 : decode cX11_greeted 16 = .ok (.if_icmp .ne 27, 3) := by decide +kernel
theorem dX11_greeted_19 : decode cX11_greeted 19 = .ok (.aload_n 0, 1) := by decide +kernel
theorem dX11_greeted_20 : decode cX11_greeted 20 = .ok (.aload_n 0, 1) := by decide +kernel
theorem dX11_greeted_21 : decode cX11_greeted 21 = .ok (.getfield 55, 3) := by decide +kernel
theorem dX11_greeted_24 : decode cX11_greeted 24 = .ok (.getfield 362, 3) := by decide +kernel
theorem dX11_greeted_27 : decode cX11_greeted 27 = .ok (.invokevirtual 363, 3) := by decide +kernel
theorem dX11_greeted_30 : decode cX11_greeted 30 = .ok (.ifnonnull 13, 3) := by decide +kernel
theorem dX11_greeted_33 : decode cX11_greeted 33 = .ok (.aload_n 0, 1) := by decide +kernel
theorem dX11_greeted_34 : decode cX11_greeted 34 = .ok (.getfield 34, 3) := by decide +kernel
theorem dX11_greeted_37 : decode cX11_greeted 37 = .ok (.sipush 151, 3) := by decide +kernel
theorem dX11_greeted_40 : decode cX11_greeted 40 = .ok (.invokevirtual 359, 3) := by decide +kernel
theorem dX11_greeted_43 : decode cX11_greeted 43 = .ok (.aload_n 0, 1) := by decide +kernel
theorem dX11_greeted_44 : decode cX11_greeted 44 = .ok (.getfield 34, 3) := by decide +kernel
theorem dX11_greeted_47 : decode cX11_greeted 47 = .ok (.getfield 341, 3) := by decide +kernel
theorem dX11_greeted_50 : decode cX11_greeted 50 = .ok (.ifCond .ne 7, 3) := by decide +kernel
theorem dX11_greeted_53 : decode cX11_greeted 53 = .ok (.iconst 3, 1) := by decide +kernel
theorem dX11_greeted_54 : decode cX11_greeted 54 = .ok (.goto 10, 3) := by decide +kernel
theorem dX11_greeted_57 : decode cX11_greeted 57 = .ok (.aload_n 0, 1) := by decide +kernel
theorem dX11_greeted_58 : decode cX11_greeted 58 = .ok (.getfield 34, 3) := by decide +kernel
theorem dX11_greeted_61 : decode cX11_greeted 61 = .ok (.getfield 341, 3) := by decide +kernel
theorem dX11_greeted_64 : decode cX11_greeted 64 = .ok (.ireturn, 1) := by decide +kernel
theorem dX11_find_0 : decode cX11_find 0 = .ok (.iconst 0, 1) := by decide +kernel
theorem dX11_find_1 : decode cX11_find 1 = .ok (.istore_n 2, 1) := by decide +kernel
theorem dX11_find_2 : decode cX11_find 2 = .ok (.iload_n 2, 1) := by decide +kernel
theorem dX11_find_3 : decode cX11_find 3 = .ok (.bipush 12, 2) := by decide +kernel
theorem dX11_find_5 : decode cX11_find 5 = .ok (.if_icmp .ge 33, 3) := by decide +kernel
theorem dX11_find_8 : decode cX11_find 8 = .ok (.aload_n 0, 1) := by decide +kernel
theorem dX11_find_9 : decode cX11_find 9 = .ok (.getfield 20, 3) := by decide +kernel
theorem dX11_find_12 : decode cX11_find 12 = .ok (.iload_n 2, 1) := by decide +kernel
theorem dX11_find_13 : decode cX11_find 13 = .ok (.aaload, 1) := by decide +kernel
theorem dX11_find_14 : decode cX11_find 14 = .ok (.astore_n 3, 1) := by decide +kernel
theorem dX11_find_15 : decode cX11_find 15 = .ok (.aload_n 3, 1) := by decide +kernel
theorem dX11_find_16 : decode cX11_find 16 = .ok (.ifnull 16, 3) := by decide +kernel
theorem dX11_find_19 : decode cX11_find 19 = .ok (.aload_n 3, 1) := by decide +kernel
theorem dX11_find_20 : decode cX11_find 20 = .ok (.getfield 174, 3) := by decide +kernel
theorem dX11_find_23 : decode cX11_find 23 = .ok (.aload_n 1, 1) := by decide +kernel
theorem dX11_find_24 : decode cX11_find 24 = .ok (.invokevirtual 367, 3) := by decide +kernel
theorem dX11_find_27 : decode cX11_find 27 = .ok (.ifCond .eq 5, 3) := by decide +kernel
theorem dX11_find_30 : decode cX11_find 30 = .ok (.aload_n 3, 1) := by decide +kernel
theorem dX11_find_31 : decode cX11_find 31 = .ok (.areturn, 1) := by decide +kernel
theorem dX11_find_32 : decode cX11_find 32 = .ok (.iinc 2 1, 3) := by decide +kernel
theorem dX11_find_35 : decode cX11_find 35 = .ok (.goto (-33), 3) := by decide +kernel
theorem dX11_find_38 : decode cX11_find 38 = .ok (.aconst_null, 1) := by decide +kernel
theorem dX11_find_39 : decode cX11_find 39 = .ok (.areturn, 1) := by decide +kernel
theorem dX11_enter_0 : decode cX11_enter 0 = .ok (.aload_n 0, 1) := by decide +kernel
theorem dX11_enter_1 : decode cX11_enter 1 = .ok (.getfield 55, 3) := by decide +kernel
theorem dX11_enter_4 : decode cX11_enter 4 = .ok (.getfield 362, 3) := by decide +kernel
theorem dX11_enter_7 : decode cX11_enter 7 = .ok (.invokevirtual 178, 3) := by decide +kernel
theorem dX11_enter_10 : decode cX11_enter 10 = .ok (.ifCond .ne 7, 3) := by decide +kernel
theorem dX11_enter_13 : decode cX11_enter 13 = .ok (.iconst 1, 1) := by decide +kernel
theorem dX11_enter_14 : decode cX11_enter 14 = .ok (.goto 4, 3) := by decide +kernel
theorem dX11_enter_17 : decode cX11_enter 17 = .ok (.iconst 0, 1) := by decide +kernel
theorem dX11_enter_18 : decode cX11_enter 18 = .ok (.istore_n 2, 1) := by decide +kernel
theorem dX11_enter_19 : decode cX11_enter 19 = .ok (.iload_n 2, 1) := by decide +kernel
theorem dX11_enter_20 : decode cX11_enter 20 = .ok (.ifCond .eq 10, 3) := by decide +kernel
theorem dX11_enter_23 : decode cX11_enter 23 = .ok (.aload_n 0, 1) := by decide +kernel
theorem dX11_enter_24 : decode cX11_enter 24 = .ok (.invokevirtual 371, 3) := by decide +kernel
theorem dX11_enter_27 : decode cX11_enter 27 = .ok (.goto 10, 3) := by decide +kernel
theorem dX11_enter_30 : decode cX11_enter 30 = .ok (.aload_n 0, 1) := by decide +kernel
theorem dX11_enter_31 : decode cX11_enter 31 = .ok (.getfield 55, 3) := by decide +kernel
theorem dX11_enter_34 : decode cX11_enter 34 = .ok (.getfield 362, 3) := by decide +kernel
theorem dX11_enter_37 : decode cX11_enter 37 = .ok (.astore_n 3, 1) := by decide +kernel
theorem dX11_enter_38 : decode cX11_enter 38 = .ok (.aload_n 0, 1) := by decide +kernel
theorem dX11_enter_39 : decode cX11_enter 39 = .ok (.aload_n 3, 1) := by decide +kernel
theorem dX11_enter_40 : decode cX11_enter 40 = .ok (.invokevirtual 363, 3) := by decide +kernel
theorem dX11_enter_43 : decode cX11_enter 43 = .ok (.astore 4, 2) := by decide +kernel
theorem dX11_enter_45 : decode cX11_enter 45 = .ok (.aload 4, 2) := by decide +kernel
theorem dX11_enter_47 : decode cX11_enter 47 = .ok (.ifnull 39, 3) := by decide +kernel
theorem dX11_enter_50 : decode cX11_enter 50 = .ok (.aload 4, 2) := by decide +kernel
theorem dX11_enter_52 : decode cX11_enter 52 = .ok (.getfield 151, 3) := by decide +kernel
theorem dX11_enter_55 : decode cX11_enter 55 = .ok (.ifnull 31, 3) := by decide +kernel
theorem dX11_enter_58 : decode cX11_enter 58 = .ok (.aload_n 0, 1) := by decide +kernel
theorem dX11_enter_59 : decode cX11_enter 59 = .ok (.aload 4, 2) := by decide +kernel
theorem dX11_enter_61 : decode cX11_enter 61 = .ok (.getfield 151, 3) := by decide +kernel
theorem dX11_enter_64 : decode cX11_enter 64 = .ok (.sipush 142, 3) := by decide +kernel
theorem dX11_enter_67 : decode cX11_enter 67 = .ok (.invokevirtual 319, 3) := by decide +kernel
theorem dX11_enter_70 : decode cX11_enter 70 = .ok (.aload_n 0, 1) := by decide +kernel
theorem dX11_enter_71 : decode cX11_enter 71 = .ok (.aload 4, 2) := by decide +kernel
theorem dX11_enter_73 : decode cX11_enter 73 = .ok (.getfield 151, 3) := by decide +kernel
theorem dX11_enter_76 : decode cX11_enter 76 = .ok (.invokevirtual 103, 3) := by decide +kernel
theorem dX11_enter_79 : decode cX11_enter 79 = .ok (.aload_n 0, 1) := by decide +kernel
theorem dX11_enter_80 : decode cX11_enter 80 = .ok (.aload_n 3, 1) := by decide +kernel
theorem dX11_enter_81 : decode cX11_enter 81 = .ok (.invokevirtual 363, 3) := by decide +kernel
theorem dX11_enter_84 : decode cX11_enter 84 = .ok (.astore 4, 2) := by decide +kernel
theorem dX11_enter_86 : decode cX11_enter 86 = .ok (.aload 4, 2) := by decide +kernel
theorem dX11_enter_88 : decode cX11_enter 88 = .ok (.ifnull 22, 3) := by decide +kernel
theorem dX11_enter_91 : decode cX11_enter 91 = .ok (.aload_n 0, 1) := by decide +kernel
theorem dX11_enter_92 : decode cX11_enter 92 = .ok (.getfield 55, 3) := by decide +kernel
theorem dX11_enter_95 : decode cX11_enter 95 = .ok (.getfield 375, 3) := by decide +kernel
theorem dX11_enter_98 : decode cX11_enter 98 = .ok (.ifCond .eq 12, 3) := by decide +kernel
theorem dX11_enter_101 : decode cX11_enter 101 = .ok (.aload_n 0, 1) := by decide +kernel
theorem dX11_enter_102 : decode cX11_enter 102 = .ok (.aload 4, 2) := by decide +kernel
theorem dX11_enter_104 : decode cX11_enter 104 = .ok (.invokevirtual 378, 3) := by decide +kernel
theorem dX11_enter_107 : decode cX11_enter 107 = .ok (.aconst_null, 1) := by decide +kernel
theorem dX11_enter_108 : decode cX11_enter 108 = .ok (.astore 4, 2) := by decide +kernel
theorem dX11_enter_110 : decode cX11_enter 110 = .ok (.aload 4, 2) := by decide +kernel
theorem dX11_enter_112 : decode cX11_enter 112 = .ok (.ifnull 7, 3) := by decide +kernel
theorem dX11_enter_115 : decode cX11_enter 115 = .ok (.iconst 1, 1) := by decide +kernel
theorem dX11_enter_116 : decode cX11_enter 116 = .ok (.goto 4, 3) := by decide +kernel
theorem dX11_enter_119 : decode cX11_enter 119 = .ok (.iconst 0, 1) := by decide +kernel
theorem dX11_enter_120 : decode cX11_enter 120 = .ok (.istore 5, 2) := by decide +kernel
theorem dX11_enter_122 : decode cX11_enter 122 = .ok (.aload 4, 2) := by decide +kernel
theorem dX11_enter_124 : decode cX11_enter 124 = .ok (.ifnonnull 10, 3) := by decide +kernel
theorem dX11_enter_127 : decode cX11_enter 127 = .ok (.aload_n 0, 1) := by decide +kernel
theorem dX11_enter_128 : decode cX11_enter 128 = .ok (.aload_n 3, 1) := by decide +kernel
theorem dX11_enter_129 : decode cX11_enter 129 = .ok (.invokevirtual 382, 3) := by decide +kernel
theorem dX11_enter_132 : decode cX11_enter 132 = .ok (.astore 4, 2) := by decide +kernel
theorem dX11_enter_134 : decode cX11_enter 134 = .ok (.aload 4, 2) := by decide +kernel
theorem dX11_enter_136 : decode cX11_enter 136 = .ok (.ifnonnull 4, 3) := by decide +kernel
theorem dX11_enter_139 : decode cX11_enter 139 = .ok (.return_, 1) := by decide +kernel
theorem dX11_enter_140 : decode cX11_enter 140 = .ok (.aload_n 0, 1) := by decide +kernel
theorem dX11_enter_141 : decode cX11_enter 141 = .ok (.getfield 55, 3) := by decide +kernel
theorem dX11_enter_144 : decode cX11_enter 144 = .ok (.aload 4, 2) := by decide +kernel
theorem dX11_enter_146 : decode cX11_enter 146 = .ok (.invokevirtual 385, 3) := by decide +kernel
theorem dX11_enter_149 : decode cX11_enter 149 = .ok (.aload 4, 2) := by decide +kernel
theorem dX11_enter_151 : decode cX11_enter 151 = .ok (.aload_n 1, 1) := by decide +kernel
theorem dX11_enter_152 : decode cX11_enter 152 = .ok (.putfield 151, 3) := by decide +kernel
theorem dX11_enter_155 : decode cX11_enter 155 = .ok (.aload_n 1, 1) := by decide +kernel
theorem dX11_enter_156 : decode cX11_enter 156 = .ok (.aload 4, 2) := by decide +kernel
theorem dX11_enter_158 : decode cX11_enter 158 = .ok (.putfield 286, 3) := by decide +kernel
theorem dX11_enter_161 : decode cX11_enter 161 = .ok (.aload_n 0, 1) := by decide +kernel
theorem dX11_enter_162 : decode cX11_enter 162 = .ok (.aload_n 1, 1) := by decide +kernel
theorem dX11_enter_163 : decode cX11_enter 163 = .ok (.iload 5, 2) := by decide +kernel
theorem dX11_enter_165 : decode cX11_enter 165 = .ok (.iload_n 2, 1) := by decide +kernel
theorem dX11_enter_166 : decode cX11_enter 166 = .ok (.aload_n 3, 1) := by decide +kernel
theorem dX11_enter_167 : decode cX11_enter 167 = .ok (.invokevirtual 388, 3) := by decide +kernel
theorem dX11_enter_170 : decode cX11_enter 170 = .ok (.aload_n 0, 1) := by decide +kernel
theorem dX11_enter_171 : decode cX11_enter 171 = .ok (.aload 4, 2) := by decide +kernel
theorem dX11_enter_173 : decode cX11_enter 173 = .ok (.aload_n 1, 1) := by decide +kernel
theorem dX11_enter_174 : decode cX11_enter 174 = .ok (.invokevirtual 392, 3) := by decide +kernel
theorem dX11_enter_177 : decode cX11_enter 177 = .ok (.aload_n 0, 1) := by decide +kernel
theorem dX11_enter_178 : decode cX11_enter 178 = .ok (.aload 4, 2) := by decide +kernel
theorem dX11_enter_180 : decode cX11_enter 180 = .ok (.invokevirtual 396, 3) := by decide +kernel
theorem dX11_enter_183 : decode cX11_enter 183 = .ok (.return_, 1) := by decide +kernel
theorem dX11_makeId_0 : decode cX11_makeId 0 = .ok (.aload_n 0, 1) := by decide +kernel
theorem dX11_makeId_1 : decode cX11_makeId 1 = .ok (.dup, 1) := by decide +kernel
theorem dX11_makeId_2 : decode cX11_makeId 2 = .ok (.getfield 255, 3) := by decide +kernel
theorem dX11_makeId_5 : decode cX11_makeId 5 = .ok (.iconst 1, 1) := by decide +kernel
theorem dX11_makeId_6 : decode cX11_makeId 6 = .ok (.iadd, 1) := by decide +kernel
theorem dX11_makeId_7 : decode cX11_makeId 7 = .ok (.putfield 255, 3) := by decide +kernel
theorem dX11_makeId_10 : decode cX11_makeId 10 = .ok (.aload_n 0, 1) := by decide +kernel
theorem dX11_makeId_11 : decode cX11_makeId 11 = .ok (.invokevirtual 399, 3) := by decide +kernel
theorem dX11_makeId_14 : decode cX11_makeId 14 = .ok (.astore_n 1, 1) := by decide +kernel
theorem dX11_makeId_15 : decode cX11_makeId 15 = .ok (.iconst 0, 1) := by decide +kernel
theorem dX11_makeId_16 : decode cX11_makeId 16 = .ok (.istore_n 2, 1) := by decide +kernel
theorem dX11_makeId_17 : decode cX11_makeId 17 = .ok (.iload_n 2, 1) := by decide +kernel
theorem dX11_makeId_18 : decode cX11_makeId 18 = .ok (.bipush 12, 2) := by decide +kernel
theorem dX11_makeId_20 : decode cX11_makeId 20 = .ok (.if_icmp .ge 22, 3) := by decide +kernel
theorem dX11_makeId_23 : decode cX11_makeId 23 = .ok (.aload_n 0, 1) := by decide +kernel
theorem dX11_makeId_24 : decode cX11_makeId 24 = .ok (.aload_n 1, 1) := by decide +kernel
theorem dX11_makeId_25 : decode cX11_makeId 25 = .ok (.invokevirtual 363, 3) := by decide +kernel
theorem dX11_makeId_28 : decode cX11_makeId 28 = .ok (.ifnull 14, 3) := by decide +kernel
theorem dX11_makeId_31 : decode cX11_makeId 31 = .ok (.aload_n 0, 1) := by decide +kernel
theorem dX11_makeId_32 : decode cX11_makeId 32 = .ok (.invokevirtual 399, 3) := by decide +kernel
theorem dX11_makeId_35 : decode cX11_makeId 35 = .ok (.astore_n 1, 1) := by decide +kernel
theorem dX11_makeId_36 : decode cX11_makeId 36 = .ok (.iinc 2 1, 3) := by decide +kernel
theorem dX11_makeId_39 : decode cX11_makeId 39 = .ok (.goto (-22), 3) := by decide +kernel
theorem dX11_makeId_42 : decode cX11_makeId 42 = .ok (.aload_n 1, 1) := by decide +kernel
theorem dX11_makeId_43 : decode cX11_makeId 43 = .ok (.areturn, 1) := by decide +kernel
theorem dX11_autoId_0 : decode cX11_autoId 0 = .ok (.aload_n 0, 1) := by decide +kernel
theorem dX11_autoId_1 : decode cX11_autoId 1 = .ok (.dup, 1) := by decide +kernel
theorem dX11_autoId_2 : decode cX11_autoId 2 = .ok (.getfield 402, 3) := by decide +kernel
theorem dX11_autoId_5 : decode cX11_autoId 5 = .ok (.iconst 1, 1) := by decide +kernel
theorem dX11_autoId_6 : decode cX11_autoId 6 = .ok (.iadd, 1) := by decide +kernel
theorem dX11_autoId_7 : decode cX11_autoId 7 = .ok (.putfield 402, 3) := by decide +kernel
theorem dX11_autoId_10 : decode cX11_autoId 10 = .ok (.iconst 1, 1) := by decide +kernel
theorem dX11_autoId_11 : decode cX11_autoId 11 = .ok (.istore_n 1, 1) := by decide +kernel
theorem dX11_autoId_12 : decode cX11_autoId 12 = .ok (.aload_n 0, 1) := by decide +kernel
theorem dX11_autoId_13 : decode cX11_autoId 13 = .ok (.getfield 402, 3) := by decide +kernel
theorem dX11_autoId_16 : decode cX11_autoId 16 = .ok (.bipush 10, 2) := by decide +kernel
theorem dX11_autoId_18 : decode cX11_autoId 18 = .ok (.idiv, 1) := by decide +kernel
theorem dX11_autoId_19 : decode cX11_autoId 19 = .ok (.istore_n 2, 1) := by decide +kernel
theorem dX11_autoId_20 : decode cX11_autoId 20 = .ok (.iload_n 2, 1) := by decide +kernel
theorem dX11_autoId_21 : decode cX11_autoId 21 = .ok (.ifCond .le 14, 3) := by decide +kernel
theorem dX11_autoId_24 : decode cX11_autoId 24 = .ok (.iinc 1 1, 3) := by decide +kernel
theorem dX11_autoId_27 : decode cX11_autoId 27 = .ok (.iload_n 2, 1) := by decide +kernel
theorem dX11_autoId_28 : decode cX11_autoId 28 = .ok (.bipush 10, 2) := by decide +kernel
theorem dX11_autoId_30 : decode cX11_autoId 30 = .ok (.idiv, 1) := by decide +kernel
theorem dX11_autoId_31 : decode cX11_autoId 31 = .ok (.istore_n 2, 1) := by decide +kernel
theorem dX11_autoId_32 : decode cX11_autoId 32 = .ok (.goto (-12), 3) := by decide +kernel
theorem dX11_autoId_35 : decode cX11_autoId 35 = .ok (.ldc_w 405, 3) := by decide +kernel
theorem dX11_autoId_38 : decode cX11_autoId 38 = .ok (.invokevirtual 407, 3) := by decide +kernel
theorem dX11_autoId_41 : decode cX11_autoId 41 = .ok (.iload_n 1, 1) := by decide +kernel
theorem dX11_autoId_42 : decode cX11_autoId 42 = .ok (.iadd, 1) := by decide +kernel
theorem dX11_autoId_43 : decode cX11_autoId 43 = .ok (.newarray .int, 2) := by decide +kernel
theorem dX11_autoId_45 : decode cX11_autoId 45 = .ok (.astore_n 2, 1) := by decide +kernel
theorem dX11_autoId_46 : decode cX11_autoId 46 = .ok (.iconst 0, 1) := by decide +kernel
theorem dX11_autoId_47 : decode cX11_autoId 47 = .ok (.istore_n 3, 1) := by decide +kernel
theorem dX11_autoId_48 : decode cX11_autoId 48 = .ok (.iload_n 3, 1) := by decide +kernel
theorem dX11_autoId_49 : decode cX11_autoId 49 = .ok (.ldc_w 405, 3) := by decide +kernel
theorem dX11_autoId_52 : decode cX11_autoId 52 = .ok (.invokevirtual 407, 3) := by decide +kernel
theorem dX11_autoId_55 : decode cX11_autoId 55 = .ok (.if_icmp .ge 19, 3) := by decide +kernel
theorem dX11_autoId_58 : decode cX11_autoId 58 = .ok (.aload_n 2, 1) := by decide +kernel
theorem dX11_autoId_59 : decode cX11_autoId 59 = .ok (.iload_n 3, 1) := by decide +kernel
theorem dX11_autoId_60 : decode cX11_autoId 60 = .ok (.ldc_w 405, 3) := by decide +kernel
theorem dX11_autoId_63 : decode cX11_autoId 63 = .ok (.iload_n 3, 1) := by decide +kernel
theorem dX11_autoId_64 : decode cX11_autoId 64 = .ok (.invokevirtual 412, 3) := by decide +kernel
theorem dX11_autoId_67 : decode cX11_autoId 67 = .ok (.iastore, 1) := by decide +kernel
theorem dX11_autoId_68 : decode cX11_autoId 68 = .ok (.iinc 3 1, 3) := by decide +kernel
theorem dX11_autoId_71 : decode cX11_autoId 71 = .ok (.goto (-23), 3) := by decide +kernel
theorem dX11_autoId_74 : decode cX11_autoId 74 = .ok (.aload_n 0, 1) := by decide +kernel
theorem dX11_autoId_75 : decode cX11_autoId 75 = .ok (.getfield 402, 3) := by decide +kernel
theorem dX11_autoId_78 : decode cX11_autoId 78 = .ok (.istore_n 3, 1) := by decide +kernel
theorem dX11_autoId_79 : decode cX11_autoId 79 = .ok (.aload_n 2, 1) := by decide +kernel
theorem dX11_autoId_80 : decode cX11_autoId 80 = .ok (.arraylength, 1) := by decide +kernel
theorem dX11_autoId_81 : decode cX11_autoId 81 = .ok (.iconst 1, 1) := by decide +kernel
theorem dX11_autoId_82 : decode cX11_autoId 82 = .ok (.isub, 1) := by decide +kernel
theorem dX11_autoId_83 : decode cX11_autoId 83 = .ok (.istore 4, 2) := by decide +kernel
theorem dX11_autoId_85 : decode cX11_autoId 85 = .ok (.iload 4, 2) := by decide +kernel
theorem dX11_autoId_87 : decode cX11_autoId 87 = .ok (.ldc_w 405, 3) := by decide +kernel
theorem dX11_autoId_90 : decode cX11_autoId 90 = .ok (.invokevirtual 407, 3) := by decide +kernel
theorem dX11_autoId_93 : decode cX11_autoId 93 = .ok (.if_icmp .lt 25, 3) := by decide +kernel
theorem dX11_autoId_96 : decode cX11_autoId 96 = .ok (.aload_n 2, 1) := by decide +kernel
theorem dX11_autoId_97 : decode cX11_autoId 97 = .ok (.iload 4, 2) := by decide +kernel
theorem dX11_autoId_99 : decode cX11_autoId 99 = .ok (.bipush 48, 2) := by decide +kernel
theorem dX11_autoId_101 : decode cX11_autoId 101 = .ok (.iload_n 3, 1) := by decide +kernel
theorem dX11_autoId_102 : decode cX11_autoId 102 = .ok (.bipush 10, 2) := by decide +kernel
theorem dX11_autoId_104 : decode cX11_autoId 104 = .ok (.irem, 1) := by decide +kernel
theorem dX11_autoId_105 : decode cX11_autoId 105 = .ok (.iadd, 1) := by decide +kernel
theorem dX11_autoId_106 : decode cX11_autoId 106 = .ok (.iastore, 1) := by decide +kernel
theorem dX11_autoId_107 : decode cX11_autoId 107 = .ok (.iload_n 3, 1) := by decide +kernel
theorem dX11_autoId_108 : decode cX11_autoId 108 = .ok (.bipush 10, 2) := by decide +kernel
theorem dX11_autoId_110 : decode cX11_autoId 110 = .ok (.idiv, 1) := by decide +kernel
theorem dX11_autoId_111 : decode cX11_autoId 111 = .ok (.istore_n 3, 1) := by decide +kernel
theorem dX11_autoId_112 : decode cX11_autoId 112 = .ok (.iinc 4 (-1), 3) := by decide +kernel
theorem dX11_autoId_115 : decode cX11_autoId 115 = .ok (.goto (-30), 3) := by decide +kernel
theorem dX11_autoId_118 : decode cX11_autoId 118 = .ok (.new 179, 3) := by decide +kernel
theorem dX11_autoId_121 : decode cX11_autoId 121 = .ok (.dup, 1) := by decide +kernel
theorem dX11_autoId_122 : decode cX11_autoId 122 = .ok (.aload_n 2, 1) := by decide +kernel
theorem dX11_autoId_123 : decode cX11_autoId 123 = .ok (.invokespecial 416, 3) := by decide +kernel
theorem dX11_autoId_126 : decode cX11_autoId 126 = .ok (.areturn, 1) := by decide +kernel
theorem dX11_makeSession_0 : decode cX11_makeSession 0 = .ok (.iconst 0, 1) := by decide +kernel
theorem dX11_makeSession_1 : decode cX11_makeSession 1 = .ok (.istore_n 2, 1) := by decide +kernel
theorem dX11_makeSession_2 : decode cX11_makeSession 2 = .ok (.iload_n 2, 1) := by decide +kernel
theorem dX11_makeSession_3 : decode cX11_makeSession 3 = .ok (.bipush 12, 2) := by decide +kernel
theorem dX11_makeSession_5 : decode cX11_makeSession 5 = .ok (.if_icmp .ge 40, 3) := by decide +kernel
theorem dX11_makeSession_8 : decode cX11_makeSession 8 = .ok (.aload_n 0, 1) := by decide +kernel
theorem dX11_makeSession_9 : decode cX11_makeSession 9 = .ok (.getfield 20, 3) := by decide +kernel
theorem dX11_makeSession_12 : decode cX11_makeSession 12 = .ok (.iload_n 2, 1) := by decide +kernel
theorem dX11_makeSession_13 : decode cX11_makeSession 13 = .ok (.aaload, 1) := by decide +kernel
theorem dX11_makeSession_14 : decode cX11_makeSession 14 = .ok (.ifnonnull 25, 3) := by decide +kernel
theorem dX11_makeSession_17 : decode cX11_makeSession 17 = .ok (.aload_n 0, 1) := by decide +kernel
theorem dX11_makeSession_18 : decode cX11_makeSession 18 = .ok (.getfield 20, 3) := by decide +kernel
theorem dX11_makeSession_21 : decode cX11_makeSession 21 = .ok (.iload_n 2, 1) := by decide +kernel
theorem dX11_makeSession_22 : decode cX11_makeSession 22 = .ok (.new 18, 3) := by decide +kernel
theorem dX11_makeSession_25 : decode cX11_makeSession 25 = .ok (.dup, 1) := by decide +kernel
theorem dX11_makeSession_26 : decode cX11_makeSession 26 = .ok (.iload_n 2, 1) := by decide +kernel
theorem dX11_makeSession_27 : decode cX11_makeSession 27 = .ok (.aload_n 1, 1) := by decide +kernel
theorem dX11_makeSession_28 : decode cX11_makeSession 28 = .ok (.invokespecial 419, 3) := by decide +kernel
theorem dX11_makeSession_31 : decode cX11_makeSession 31 = .ok (.aastore, 1) := by decide +kernel
theorem dX11_makeSession_32 : decode cX11_makeSession 32 = .ok (.aload_n 0, 1) := by decide +kernel
theorem dX11_makeSession_33 : decode cX11_makeSession 33 = .ok (.getfield 20, 3) := by decide +kernel
theorem dX11_makeSession_36 : decode cX11_makeSession 36 = .ok (.iload_n 2, 1) := by decide +kernel
theorem dX11_makeSession_37 : decode cX11_makeSession 37 = .ok (.aaload, 1) := by decide +kernel
theorem dX11_makeSession_38 : decode cX11_makeSession 38 = .ok (.areturn, 1) := by decide +kernel
theorem dX11_makeSession_39 : decode cX11_makeSession 39 = .ok (.iinc 2 1, 3) := by decide +kernel
theorem dX11_makeSession_42 : decode cX11_makeSession 42 = .ok (.goto (-40), 3) := by decide +kernel
theorem dX11_makeSession_45 : decode cX11_makeSession 45 = .ok (.aconst_null, 1) := by decide +kernel
theorem dX11_makeSession_46 : decode cX11_makeSession 46 = .ok (.areturn, 1) := by decide +kernel
theorem dX11_welcome_0 : decode cX11_welcome 0 = .ok (.aload_n 0, 1) := by decide +kernel
theorem dX11_welcome_1 : decode cX11_welcome 1 = .ok (.getfield 48, 3) := by decide +kernel
theorem dX11_welcome_4 : decode cX11_welcome 4 = .ok (.bipush 32, 2) := by decide +kernel
theorem dX11_welcome_6 : decode cX11_welcome 6 = .ok (.invokevirtual 322, 3) := by decide +kernel
theorem dX11_welcome_9 : decode cX11_welcome 9 = .ok (.aload_n 0, 1) := by decide +kernel
theorem dX11_welcome_10 : decode cX11_welcome 10 = .ok (.getfield 48, 3) := by decide +kernel
theorem dX11_welcome_13 : decode cX11_welcome 13 = .ok (.iload_n 2, 1) := by decide +kernel
theorem dX11_welcome_14 : decode cX11_welcome 14 = .ok (.ifCond .eq 7, 3) := by decide +kernel
theorem dX11_welcome_17 : decode cX11_welcome 17 = .ok (.iconst 1, 1) := by decide +kernel
theorem dX11_welcome_18 : decode cX11_welcome 18 = .ok (.goto 4, 3) := by decide +kernel
theorem dX11_welcome_21 : decode cX11_welcome 21 = .ok (.iconst 0, 1) := by decide +kernel
theorem dX11_welcome_22 : decode cX11_welcome 22 = .ok (.invokevirtual 324, 3) := by decide +kernel
theorem dX11_welcome_25 : decode cX11_welcome 25 = .ok (.aload_n 0, 1) := by decide +kernel
theorem dX11_welcome_26 : decode cX11_welcome 26 = .ok (.getfield 48, 3) := by decide +kernel
theorem dX11_welcome_29 : decode cX11_welcome 29 = .ok (.iconst 0, 1) := by decide +kernel
theorem dX11_welcome_30 : decode cX11_welcome 30 = .ok (.invokevirtual 324, 3) := by decide +kernel
theorem dX11_welcome_33 : decode cX11_welcome 33 = .ok (.aload_n 0, 1) := by decide +kernel
theorem dX11_welcome_34 : decode cX11_welcome 34 = .ok (.getfield 48, 3) := by decide +kernel
theorem dX11_welcome_37 : decode cX11_welcome 37 = .ok (.iload_n 3, 1) := by decide +kernel
theorem dX11_welcome_38 : decode cX11_welcome 38 = .ok (.ifCond .eq 14, 3) := by decide +kernel
theorem dX11_welcome_41 : decode cX11_welcome 41 = .ok (.bipush 14, 2) := by decide +kernel
theorem dX11_welcome_43 : decode cX11_welcome 43 = .ok (.aload 4, 2) := by decide +kernel
theorem dX11_welcome_45 : decode cX11_welcome 45 = .ok (.invokevirtual 178, 3) := by decide +kernel
theorem dX11_welcome_48 : decode cX11_welcome 48 = .ok (.iadd, 1) := by decide +kernel
theorem dX11_welcome_49 : decode cX11_welcome 49 = .ok (.goto 5, 3) := by decide +kernel
theorem dX11_welcome_52 : decode cX11_welcome 52 = .ok (.bipush 11, 2) := by decide +kernel
theorem dX11_welcome_54 : decode cX11_welcome 54 = .ok (.invokevirtual 422, 3) := by decide +kernel
theorem dX11_welcome_57 : decode cX11_welcome 57 = .ok (.aload_n 0, 1) := by decide +kernel
theorem dX11_welcome_58 : decode cX11_welcome 58 = .ok (.getfield 48, 3) := by decide +kernel
theorem dX11_welcome_61 : decode cX11_welcome 61 = .ok (.bipush 33, 2) := by decide +kernel
theorem dX11_welcome_63 : decode cX11_welcome 63 = .ok (.invokevirtual 324, 3) := by decide +kernel
theorem dX11_welcome_66 : decode cX11_welcome 66 = .ok (.aload_n 0, 1) := by decide +kernel
theorem dX11_welcome_67 : decode cX11_welcome 67 = .ok (.getfield 48, 3) := by decide +kernel
theorem dX11_welcome_70 : decode cX11_welcome 70 = .ok (.bipush 8, 2) := by decide +kernel
theorem dX11_welcome_72 : decode cX11_welcome 72 = .ok (.invokevirtual 331, 3) := by decide +kernel
theorem dX11_welcome_75 : decode cX11_welcome 75 = .ok (.aload_n 0, 1) := by decide +kernel
theorem dX11_welcome_76 : decode cX11_welcome 76 = .ok (.getfield 48, 3) := by decide +kernel
theorem dX11_welcome_79 : decode cX11_welcome 79 = .ok (.bipush 39, 2) := by decide +kernel
theorem dX11_welcome_81 : decode cX11_welcome 81 = .ok (.invokevirtual 324, 3) := by decide +kernel
theorem dX11_welcome_84 : decode cX11_welcome 84 = .ok (.aload_n 0, 1) := by decide +kernel
theorem dX11_welcome_85 : decode cX11_welcome 85 = .ok (.getfield 48, 3) := by decide +kernel
theorem dX11_welcome_88 : decode cX11_welcome 88 = .ok (.ldc2_w 425, 3) := by decide +kernel
theorem dX11_welcome_91 : decode cX11_welcome 91 = .ok (.invokevirtual 427, 3) := by decide +kernel
theorem dX11_welcome_94 : decode cX11_welcome 94 = .ok (.aload_n 0, 1) := by decide +kernel
theorem dX11_welcome_95 : decode cX11_welcome 95 = .ok (.getfield 48, 3) := by decide +kernel
theorem dX11_welcome_98 : decode cX11_welcome 98 = .ok (.bipush 34, 2) := by decide +kernel
theorem dX11_welcome_100 : decode cX11_welcome 100 = .ok (.invokevirtual 324, 3) := by decide +kernel
theorem dX11_welcome_103 : decode cX11_welcome 103 = .ok (.aload_n 0, 1) := by decide +kernel
theorem dX11_welcome_104 : decode cX11_welcome 104 = .ok (.getfield 48, 3) := by decide +kernel
theorem dX11_welcome_107 : decode cX11_welcome 107 = .ok (.iconst 4, 1) := by decide +kernel
theorem dX11_welcome_108 : decode cX11_welcome 108 = .ok (.invokevirtual 331, 3) := by decide +kernel
theorem dX11_welcome_111 : decode cX11_welcome 111 = .ok (.iload_n 3, 1) := by decide +kernel
theorem dX11_welcome_112 : decode cX11_welcome 112 = .ok (.ifCond .eq 33, 3) := by decide +kernel
theorem dX11_welcome_115 : decode cX11_welcome 115 = .ok (.aload_n 0, 1) := by decide +kernel
theorem dX11_welcome_116 : decode cX11_welcome 116 = .ok (.getfield 48, 3) := by decide +kernel
theorem dX11_welcome_119 : decode cX11_welcome 119 = .ok (.bipush 18, 2) := by decide +kernel
theorem dX11_welcome_121 : decode cX11_welcome 121 = .ok (.invokevirtual 324, 3) := by decide +kernel
theorem dX11_welcome_124 : decode cX11_welcome 124 = .ok (.aload_n 0, 1) := by decide +kernel
theorem dX11_welcome_125 : decode cX11_welcome 125 = .ok (.getfield 48, 3) := by decide +kernel
theorem dX11_welcome_128 : decode cX11_welcome 128 = .ok (.aload 4, 2) := by decide +kernel
theorem dX11_welcome_130 : decode cX11_welcome 130 = .ok (.invokevirtual 178, 3) := by decide +kernel
theorem dX11_welcome_133 : decode cX11_welcome 133 = .ok (.invokevirtual 331, 3) := by decide +kernel
theorem dX11_welcome_136 : decode cX11_welcome 136 = .ok (.aload_n 0, 1) := by decide +kernel
theorem dX11_welcome_137 : decode cX11_welcome 137 = .ok (.getfield 48, 3) := by decide +kernel
theorem dX11_welcome_140 : decode cX11_welcome 140 = .ok (.aload 4, 2) := by decide +kernel
theorem dX11_welcome_142 : decode cX11_welcome 142 = .ok (.invokevirtual 431, 3) := by decide +kernel
theorem dX11_welcome_145 : decode cX11_welcome 145 = .ok (.aload_n 1, 1) := by decide +kernel
theorem dX11_welcome_146 : decode cX11_welcome 146 = .ok (.aload_n 0, 1) := by decide +kernel
theorem dX11_welcome_147 : decode cX11_welcome 147 = .ok (.getfield 48, 3) := by decide +kernel
theorem dX11_welcome_150 : decode cX11_welcome 150 = .ok (.invokevirtual 327, 3) := by decide +kernel
theorem dX11_welcome_153 : decode cX11_welcome 153 = .ok (.return_, 1) := by decide +kernel
theorem dX11_sendAgain_0 : decode cX11_sendAgain 0 = .ok (.iconst 0, 1) := by decide +kernel
theorem dX11_sendAgain_1 : decode cX11_sendAgain 1 = .ok (.istore_n 3, 1) := by decide +kernel
theorem dX11_sendAgain_2 : decode cX11_sendAgain 2 = .ok (.iconst 0, 1) := by decide +kernel
theorem dX11_sendAgain_3 : decode cX11_sendAgain 3 = .ok (.istore 4, 2) := by decide +kernel
theorem dX11_sendAgain_5 : decode cX11_sendAgain 5 = .ok (.iload 4, 2) := by decide +kernel
theorem dX11_sendAgain_7 : decode cX11_sendAgain 7 = .ok (.bipush 16, 2) := by decide +kernel
theorem dX11_sendAgain_9 : decode cX11_sendAgain 9 = .ok (.if_icmp .ge 79, 3) := by decide +kernel
theorem dX11_sendAgain_12 : decode cX11_sendAgain 12 = .ok (.iload_n 3, 1) := by decide +kernel
theorem dX11_sendAgain_13 : decode cX11_sendAgain 13 = .ok (.aload_n 1, 1) := by decide +kernel
theorem dX11_sendAgain_14 : decode cX11_sendAgain 14 = .ok (.getfield 161, 3) := by decide +kernel
theorem dX11_sendAgain_17 : decode cX11_sendAgain 17 = .ok (.if_icmp .ge 71, 3) := by decide +kernel
theorem dX11_sendAgain_20 : decode cX11_sendAgain 20 = .ok (.aload_n 1, 1) := by decide +kernel
theorem dX11_sendAgain_21 : decode cX11_sendAgain 21 = .ok (.getfield 435, 3) := by decide +kernel
theorem dX11_sendAgain_24 : decode cX11_sendAgain 24 = .ok (.iload_n 3, 1) := by decide +kernel
theorem dX11_sendAgain_25 : decode cX11_sendAgain 25 = .ok (.aaload, 1) := by decide +kernel
theorem dX11_sendAgain_26 : decode cX11_sendAgain 26 = .ok (.astore 5, 2) := by decide +kernel
theorem dX11_sendAgain_28 : decode cX11_sendAgain 28 = .ok (.aload 5, 2) := by decide +kernel
theorem dX11_sendAgain_30 : decode cX11_sendAgain 30 = .ok (.getfield 439, 3) := by decide +kernel
theorem dX11_sendAgain_33 : decode cX11_sendAgain 33 = .ok (.ifCond .eq 19, 3) := by decide +kernel
theorem dX11_sendAgain_36 : decode cX11_sendAgain 36 = .ok (.aload_n 0, 1) := by decide +kernel
theorem dX11_sendAgain_37 : decode cX11_sendAgain 37 = .ok (.aload_n 2, 1) := by decide +kernel
theorem dX11_sendAgain_38 : decode cX11_sendAgain 38 = .ok (.bipush 98, 2) := by decide +kernel
theorem dX11_sendAgain_40 : decode cX11_sendAgain 40 = .ok (.aload 5, 2) := by decide +kernel
theorem dX11_sendAgain_42 : decode cX11_sendAgain 42 = .ok (.getfield 442, 3) := by decide +kernel
theorem dX11_sendAgain_45 : decode cX11_sendAgain 45 = .ok (.iconst 0, 1) := by decide +kernel
theorem dX11_sendAgain_46 : decode cX11_sendAgain 46 = .ok (.invokevirtual 443, 3) := by decide +kernel
theorem dX11_sendAgain_49 : decode cX11_sendAgain 49 = .ok (.goto 11, 3) := by decide +kernel
theorem dX11_sendAgain_52 : decode cX11_sendAgain 52 = .ok (.aload_n 0, 1) := by decide +kernel
theorem dX11_sendAgain_53 : decode cX11_sendAgain 53 = .ok (.aload_n 1, 1) := by decide +kernel
theorem dX11_sendAgain_54 : decode cX11_sendAgain 54 = .ok (.aload 5, 2) := by decide +kernel
theorem dX11_sendAgain_56 : decode cX11_sendAgain 56 = .ok (.iconst 1, 1) := by decide +kernel
theorem dX11_sendAgain_57 : decode cX11_sendAgain 57 = .ok (.invokevirtual 447, 3) := by decide +kernel
theorem dX11_sendAgain_60 : decode cX11_sendAgain 60 = .ok (.iload_n 3, 1) := by decide +kernel
theorem dX11_sendAgain_61 : decode cX11_sendAgain 61 = .ok (.aload_n 1, 1) := by decide +kernel
theorem dX11_sendAgain_62 : decode cX11_sendAgain 62 = .ok (.getfield 161, 3) := by decide +kernel
theorem dX11_sendAgain_65 : decode cX11_sendAgain 65 = .ok (.if_icmp .ge 17, 3) := by decide +kernel
theorem dX11_sendAgain_68 : decode cX11_sendAgain 68 = .ok (.aload_n 1, 1) := by decide +kernel
