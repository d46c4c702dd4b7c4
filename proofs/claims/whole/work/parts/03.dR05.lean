theorem dX12_subscribeOne_106 : decode cX12_subscribeOne 106 = .ok (.iaload, 1) := by decide +kernel
theorem dX12_subscribeOne_107 : decode cX12_subscribeOne 107 = .ok (.dup_x2, 1) := by decide +kernel
theorem dX12_subscribeOne_108 : decode cX12_subscribeOne 108 = .ok (.iconst 1, 1) := by decide +kernel
theorem dX12_subscribeOne_109 : decode cX12_subscribeOne 109 = .ok (.iadd, 1) := by decide +kernel
theorem dX12_subscribeOne_110 : decode cX12_subscribeOne 110 = .ok (.iastore, 1) := by decide +kernel
theorem dX12_subscribeOne_111 : decode cX12_subscribeOne 111 = .ok (.istore 6, 2) := by decide +kernel
theorem dX12_subscribeOne_113 : decode cX12_subscribeOne 113 = .ok (.bipush 8, 2) := by decide +kernel
theorem dX12_subscribeOne_115 : decode cX12_subscribeOne 115 = .ok (.iload_n 1, 1) := by decide +kernel
theorem dX12_subscribeOne_116 : decode cX12_subscribeOne 116 = .ok (.imul, 1) := by decide +kernel
theorem dX12_subscribeOne_117 : decode cX12_subscribeOne 117 = .ok (.iload 6, 2) := by decide +kernel
theorem dX12_subscribeOne_119 : decode cX12_subscribeOne 119 = .ok (.iadd, 1) := by decide +kernel
theorem dX12_subscribeOne_120 : decode cX12_subscribeOne 120 = .ok (.istore 7, 2) := by decide +kernel
theorem dX12_subscribeOne_122 : decode cX12_subscribeOne 122 = .ok (.aload_n 0, 1) := by decide +kernel
theorem dX12_subscribeOne_123 : decode cX12_subscribeOne 123 = .ok (.getfield 89, 3) := by decide +kernel
theorem dX12_subscribeOne_126 : decode cX12_subscribeOne 126 = .ok (.iload 7, 2) := by decide +kernel
theorem dX12_subscribeOne_128 : decode cX12_subscribeOne 128 = .ok (.iload 5, 2) := by decide +kernel
theorem dX12_subscribeOne_130 : decode cX12_subscribeOne 130 = .ok (.iastore, 1) := by decide +kernel
theorem dX12_subscribeOne_131 : decode cX12_subscribeOne 131 = .ok (.iconst 0, 1) := by decide +kernel
theorem dX12_subscribeOne_132 : decode cX12_subscribeOne 132 = .ok (.istore 8, 2) := by decide +kernel
theorem dX12_subscribeOne_134 : decode cX12_subscribeOne 134 = .ok (.iload 8, 2) := by decide +kernel
theorem dX12_subscribeOne_136 : decode cX12_subscribeOne 136 = .ok (.iload 5, 2) := by decide +kernel
theorem dX12_subscribeOne_138 : decode cX12_subscribeOne 138 = .ok (.if_icmp .ge 32, 3) := by decide +kernel
theorem dX12_subscribeOne_141 : decode cX12_subscribeOne 141 = .ok (.aload_n 0, 1) := by decide +kernel
theorem dX12_subscribeOne_142 : decode cX12_subscribeOne 142 = .ok (.getfield 92, 3) := by decide +kernel
theorem dX12_subscribeOne_145 : decode cX12_subscribeOne 145 = .ok (.bipush 64, 2) := by decide +kernel
theorem dX12_subscribeOne_147 : decode cX12_subscribeOne 147 = .ok (.iload 7, 2) := by decide +kernel
theorem dX12_subscribeOne_149 : decode cX12_subscribeOne 149 = .ok (.imul, 1) := by decide +kernel
theorem dX12_subscribeOne_150 : decode cX12_subscribeOne 150 = .ok (.iload 8, 2) := by decide +kernel
theorem dX12_subscribeOne_152 : decode cX12_subscribeOne 152 = .ok (.iadd, 1) := by decide +kernel
theorem dX12_subscribeOne_153 : decode cX12_subscribeOne 153 = .ok (.aload_n 0, 1) := by decide +kernel
theorem dX12_subscribeOne_154 : decode cX12_subscribeOne 154 = .ok (.getfield 31, 3) := by decide +kernel
theorem dX12_subscribeOne_157 : decode cX12_subscribeOne 157 = .ok (.iload 4, 2) := by decide +kernel
theorem dX12_subscribeOne_159 : decode cX12_subscribeOne 159 = .ok (.iload 8, 2) := by decide +kernel
theorem dX12_subscribeOne_161 : decode cX12_subscribeOne 161 = .ok (.iadd, 1) := by decide +kernel
theorem dX12_subscribeOne_162 : decode cX12_subscribeOne 162 = .ok (.baload, 1) := by decide +kernel
theorem dX12_subscribeOne_163 : decode cX12_subscribeOne 163 = .ok (.bastore, 1) := by decide +kernel
theorem dX12_subscribeOne_164 : decode cX12_subscribeOne 164 = .ok (.iinc 8 1, 3) := by decide +kernel
theorem dX12_subscribeOne_167 : decode cX12_subscribeOne 167 = .ok (.goto (-33), 3) := by decide +kernel
theorem dX12_subscribeOne_170 : decode cX12_subscribeOne 170 = .ok (.aload_n 0, 1) := by decide +kernel
theorem dX12_subscribeOne_171 : decode cX12_subscribeOne 171 = .ok (.getfield 101, 3) := by decide +kernel
theorem dX12_subscribeOne_174 : decode cX12_subscribeOne 174 = .ok (.iload 7, 2) := by decide +kernel
theorem dX12_subscribeOne_176 : decode cX12_subscribeOne 176 = .ok (.iconst 0, 1) := by decide +kernel
theorem dX12_subscribeOne_177 : decode cX12_subscribeOne 177 = .ok (.iastore, 1) := by decide +kernel
theorem dX12_subscribeOne_178 : decode cX12_subscribeOne 178 = .ok (.aload_n 0, 1) := by decide +kernel
theorem dX12_subscribeOne_179 : decode cX12_subscribeOne 179 = .ok (.getfield 104, 3) := by decide +kernel
theorem dX12_subscribeOne_182 : decode cX12_subscribeOne 182 = .ok (.iload 7, 2) := by decide +kernel
theorem dX12_subscribeOne_184 : decode cX12_subscribeOne 184 = .ok (.iconst 0, 1) := by decide +kernel
theorem dX12_subscribeOne_185 : decode cX12_subscribeOne 185 = .ok (.iastore, 1) := by decide +kernel
theorem dX12_subscribeOne_186 : decode cX12_subscribeOne 186 = .ok (.aload_n 0, 1) := by decide +kernel
theorem dX12_subscribeOne_187 : decode cX12_subscribeOne 187 = .ok (.getfield 95, 3) := by decide +kernel
theorem dX12_subscribeOne_190 : decode cX12_subscribeOne 190 = .ok (.bipush 8, 2) := by decide +kernel
theorem dX12_subscribeOne_192 : decode cX12_subscribeOne 192 = .ok (.iload_n 1, 1) := by decide +kernel
theorem dX12_subscribeOne_193 : decode cX12_subscribeOne 193 = .ok (.imul, 1) := by decide +kernel
theorem dX12_subscribeOne_194 : decode cX12_subscribeOne 194 = .ok (.iload 6, 2) := by decide +kernel
theorem dX12_subscribeOne_196 : decode cX12_subscribeOne 196 = .ok (.iadd, 1) := by decide +kernel
theorem dX12_subscribeOne_197 : decode cX12_subscribeOne 197 = .ok (.aload_n 0, 1) := by decide +kernel
theorem dX12_subscribeOne_198 : decode cX12_subscribeOne 198 = .ok (.getfield 240, 3) := by decide +kernel
theorem dX12_subscribeOne_201 : decode cX12_subscribeOne 201 = .ok (.iload_n 2, 1) := by decide +kernel
theorem dX12_subscribeOne_202 : decode cX12_subscribeOne 202 = .ok (.iaload, 1) := by decide +kernel
theorem dX12_subscribeOne_203 : decode cX12_subscribeOne 203 = .ok (.iastore, 1) := by decide +kernel
theorem dX12_subscribeOne_204 : decode cX12_subscribeOne 204 = .ok (.aload_n 0, 1) := by decide +kernel
theorem dX12_subscribeOne_205 : decode cX12_subscribeOne 205 = .ok (.getfield 98, 3) := by decide +kernel
theorem dX12_subscribeOne_208 : decode cX12_subscribeOne 208 = .ok (.bipush 8, 2) := by decide +kernel
theorem dX12_subscribeOne_210 : decode cX12_subscribeOne 210 = .ok (.iload_n 1, 1) := by decide +kernel
theorem dX12_subscribeOne_211 : decode cX12_subscribeOne 211 = .ok (.imul, 1) := by decide +kernel
theorem dX12_subscribeOne_212 : decode cX12_subscribeOne 212 = .ok (.iload 6, 2) := by decide +kernel
theorem dX12_subscribeOne_214 : decode cX12_subscribeOne 214 = .ok (.iadd, 1) := by decide +kernel
theorem dX12_subscribeOne_215 : decode cX12_subscribeOne 215 = .ok (.iload_n 3, 1) := by decide +kernel
theorem dX12_subscribeOne_216 : decode cX12_subscribeOne 216 = .ok (.iastore, 1) := by decide +kernel
theorem dX12_subscribeOne_217 : decode cX12_subscribeOne 217 = .ok (.aload_n 0, 1) := by decide +kernel
theorem dX12_subscribeOne_218 : decode cX12_subscribeOne 218 = .ok (.getfield 240, 3) := by decide +kernel
theorem dX12_subscribeOne_221 : decode cX12_subscribeOne 221 = .ok (.iload_n 2, 1) := by decide +kernel
theorem dX12_subscribeOne_222 : decode cX12_subscribeOne 222 = .ok (.iaload, 1) := by decide +kernel
theorem dX12_subscribeOne_223 : decode cX12_subscribeOne 223 = .ok (.iconst 3, 1) := by decide +kernel
theorem dX12_subscribeOne_224 : decode cX12_subscribeOne 224 = .ok (.iand, 1) := by decide +kernel
theorem dX12_subscribeOne_225 : decode cX12_subscribeOne 225 = .ok (.ireturn, 1) := by decide +kernel
theorem dX12_show_0 : decode cX12_show 0 = .ok (.aload_n 0, 1) := by decide +kernel
theorem dX12_show_1 : decode cX12_show 1 = .ok (.getfield 240, 3) := by decide +kernel
theorem dX12_show_4 : decode cX12_show 4 = .ok (.iload_n 2, 1) := by decide +kernel
theorem dX12_show_5 : decode cX12_show 5 = .ok (.iaload, 1) := by decide +kernel
theorem dX12_show_6 : decode cX12_show 6 = .ok (.iconst 4, 1) := by decide +kernel
theorem dX12_show_7 : decode cX12_show 7 = .ok (.ishr, 1) := by decide +kernel
theorem dX12_show_8 : decode cX12_show 8 = .ok (.iconst 3, 1) := by decide +kernel
theorem dX12_show_9 : decode cX12_show 9 = .ok (.iand, 1) := by decide +kernel
theorem dX12_show_10 : decode cX12_show 10 = .ok (.istore_n 3, 1) := by decide +kernel
theorem dX12_show_11 : decode cX12_show 11 = .ok (.aload_n 0, 1) := by decide +kernel
theorem dX12_show_12 : decode cX12_show 12 = .ok (.getfield 231, 3) := by decide +kernel
theorem dX12_show_15 : decode cX12_show 15 = .ok (.iload_n 2, 1) := by decide +kernel
theorem dX12_show_16 : decode cX12_show 16 = .ok (.iaload, 1) := by decide +kernel
theorem dX12_show_17 : decode cX12_show 17 = .ok (.iconst 2, 1) := by decide +kernel
theorem dX12_show_18 : decode cX12_show 18 = .ok (.if_icmp .gt 43, 3) := by decide +kernel
theorem dX12_show_21 : decode cX12_show 21 = .ok (.aload_n 0, 1) := by decide +kernel
theorem dX12_show_22 : decode cX12_show 22 = .ok (.getfield 31, 3) := by decide +kernel
theorem dX12_show_25 : decode cX12_show 25 = .ok (.aload_n 0, 1) := by decide +kernel
theorem dX12_show_26 : decode cX12_show 26 = .ok (.getfield 234, 3) := by decide +kernel
theorem dX12_show_29 : decode cX12_show 29 = .ok (.iload_n 2, 1) := by decide +kernel
theorem dX12_show_30 : decode cX12_show 30 = .ok (.iaload, 1) := by decide +kernel
theorem dX12_show_31 : decode cX12_show 31 = .ok (.aload_n 0, 1) := by decide +kernel
theorem dX12_show_32 : decode cX12_show 32 = .ok (.getfield 237, 3) := by decide +kernel
theorem dX12_show_35 : decode cX12_show 35 = .ok (.iload_n 2, 1) := by decide +kernel
theorem dX12_show_36 : decode cX12_show 36 = .ok (.iaload, 1) := by decide +kernel
theorem dX12_show_37 : decode cX12_show 37 = .ok (.invokestatic 501, 3) := by decide +kernel
theorem dX12_show_40 : decode cX12_show 40 = .ok (.ifCond .gt 21, 3) := by decide +kernel
theorem dX12_show_43 : decode cX12_show 43 = .ok (.iload_n 3, 1) := by decide +kernel
theorem dX12_show_44 : decode cX12_show 44 = .ok (.ifCond .eq 18, 3) := by decide +kernel
theorem dX12_show_47 : decode cX12_show 47 = .ok (.iload_n 3, 1) := by decide +kernel
theorem dX12_show_48 : decode cX12_show 48 = .ok (.iconst 1, 1) := by decide +kernel
theorem dX12_show_49 : decode cX12_show 49 = .ok (.if_icmp .ne 12, 3) := by decide +kernel
theorem dX12_show_52 : decode cX12_show 52 = .ok (.aload_n 0, 1) := by decide +kernel
theorem dX12_show_53 : decode cX12_show 53 = .ok (.getfield 243, 3) := by decide +kernel
theorem dX12_show_56 : decode cX12_show 56 = .ok (.iload_n 2, 1) := by decide +kernel
theorem dX12_show_57 : decode cX12_show 57 = .ok (.baload, 1) := by decide +kernel
theorem dX12_show_58 : decode cX12_show 58 = .ok (.ifCond .ne 4, 3) := by decide +kernel
theorem dX12_show_61 : decode cX12_show 61 = .ok (.return_, 1) := by decide +kernel
theorem dX12_show_62 : decode cX12_show 62 = .ok (.bipush 8, 2) := by decide +kernel
theorem dX12_show_64 : decode cX12_show 64 = .ok (.iload_n 1, 1) := by decide +kernel
theorem dX12_show_65 : decode cX12_show 65 = .ok (.imul, 1) := by decide +kernel
theorem dX12_show_66 : decode cX12_show 66 = .ok (.aload_n 0, 1) := by decide +kernel
theorem dX12_show_67 : decode cX12_show 67 = .ok (.iload_n 1, 1) := by decide +kernel
theorem dX12_show_68 : decode cX12_show 68 = .ok (.aload_n 0, 1) := by decide +kernel
theorem dX12_show_69 : decode cX12_show 69 = .ok (.getfield 234, 3) := by decide +kernel
theorem dX12_show_72 : decode cX12_show 72 = .ok (.iload_n 2, 1) := by decide +kernel
theorem dX12_show_73 : decode cX12_show 73 = .ok (.iaload, 1) := by decide +kernel
theorem dX12_show_74 : decode cX12_show 74 = .ok (.aload_n 0, 1) := by decide +kernel
theorem dX12_show_75 : decode cX12_show 75 = .ok (.getfield 237, 3) := by decide +kernel
theorem dX12_show_78 : decode cX12_show 78 = .ok (.iload_n 2, 1) := by decide +kernel
theorem dX12_show_79 : decode cX12_show 79 = .ok (.iaload, 1) := by decide +kernel
theorem dX12_show_80 : decode cX12_show 80 = .ok (.invokevirtual 570, 3) := by decide +kernel
theorem dX12_show_83 : decode cX12_show 83 = .ok (.iadd, 1) := by decide +kernel
theorem dX12_show_84 : decode cX12_show 84 = .ok (.istore 4, 2) := by decide +kernel
theorem dX12_show_86 : decode cX12_show 86 = .ok (.aload_n 0, 1) := by decide +kernel
theorem dX12_show_87 : decode cX12_show 87 = .ok (.invokevirtual 486, 3) := by decide +kernel
theorem dX12_show_90 : decode cX12_show 90 = .ok (.iconst 0, 1) := by decide +kernel
theorem dX12_show_91 : decode cX12_show 91 = .ok (.istore 5, 2) := by decide +kernel
theorem dX12_show_93 : decode cX12_show 93 = .ok (.iload 5, 2) := by decide +kernel
theorem dX12_show_95 : decode cX12_show 95 = .ok (.aload_n 0, 1) := by decide +kernel
theorem dX12_show_96 : decode cX12_show 96 = .ok (.getfield 476, 3) := by decide +kernel
theorem dX12_show_99 : decode cX12_show 99 = .ok (.if_icmp .ge 39, 3) := by decide +kernel
theorem dX12_show_102 : decode cX12_show 102 = .ok (.aload_n 0, 1) := by decide +kernel
theorem dX12_show_103 : decode cX12_show 103 = .ok (.iload 4, 2) := by decide +kernel
theorem dX12_show_105 : decode cX12_show 105 = .ok (.aload_n 0, 1) := by decide +kernel
theorem dX12_show_106 : decode cX12_show 106 = .ok (.getfield 207, 3) := by decide +kernel
theorem dX12_show_109 : decode cX12_show 109 = .ok (.iload 5, 2) := by decide +kernel
theorem dX12_show_111 : decode cX12_show 111 = .ok (.iaload, 1) := by decide +kernel
theorem dX12_show_112 : decode cX12_show 112 = .ok (.invokevirtual 511, 3) := by decide +kernel
theorem dX12_show_115 : decode cX12_show 115 = .ok (.ifCond .eq 17, 3) := by decide +kernel
theorem dX12_show_118 : decode cX12_show 118 = .ok (.aload_n 0, 1) := by decide +kernel
theorem dX12_show_119 : decode cX12_show 119 = .ok (.iload 4, 2) := by decide +kernel
theorem dX12_show_121 : decode cX12_show 121 = .ok (.aload_n 0, 1) := by decide +kernel
theorem dX12_show_122 : decode cX12_show 122 = .ok (.getfield 207, 3) := by decide +kernel
theorem dX12_show_125 : decode cX12_show 125 = .ok (.iload 5, 2) := by decide +kernel
theorem dX12_show_127 : decode cX12_show 127 = .ok (.iaload, 1) := by decide +kernel
theorem dX12_show_128 : decode cX12_show 128 = .ok (.iconst 1, 1) := by decide +kernel
theorem dX12_show_129 : decode cX12_show 129 = .ok (.invokevirtual 524, 3) := by decide +kernel
theorem dX12_show_132 : decode cX12_show 132 = .ok (.iinc 5 1, 3) := by decide +kernel
theorem dX12_show_135 : decode cX12_show 135 = .ok (.goto (-42), 3) := by decide +kernel
theorem dX12_show_138 : decode cX12_show 138 = .ok (.return_, 1) := by decide +kernel
theorem dX12_unsubscribe_0 : decode cX12_unsubscribe 0 = .ok (.aload_n 0, 1) := by decide +kernel
theorem dX12_unsubscribe_1 : decode cX12_unsubscribe 1 = .ok (.getfield 34, 3) := by decide +kernel
theorem dX12_unsubscribe_4 : decode cX12_unsubscribe 4 = .ok (.aload_n 0, 1) := by decide +kernel
theorem dX12_unsubscribe_5 : decode cX12_unsubscribe 5 = .ok (.getfield 271, 3) := by decide +kernel
theorem dX12_unsubscribe_8 : decode cX12_unsubscribe 8 = .ok (.iaload, 1) := by decide +kernel
theorem dX12_unsubscribe_9 : decode cX12_unsubscribe 9 = .ok (.istore_n 1, 1) := by decide +kernel
theorem dX12_unsubscribe_10 : decode cX12_unsubscribe 10 = .ok (.aload_n 0, 1) := by decide +kernel
theorem dX12_unsubscribe_11 : decode cX12_unsubscribe 11 = .ok (.invokevirtual 350, 3) := by decide +kernel
theorem dX12_unsubscribe_14 : decode cX12_unsubscribe 14 = .ok (.istore_n 2, 1) := by decide +kernel
theorem dX12_unsubscribe_15 : decode cX12_unsubscribe 15 = .ok (.aload_n 0, 1) := by decide +kernel
theorem dX12_unsubscribe_16 : decode cX12_unsubscribe 16 = .ok (.getfield 283, 3) := by decide +kernel
theorem dX12_unsubscribe_19 : decode cX12_unsubscribe 19 = .ok (.ifCond .ne 14, 3) := by decide +kernel
theorem dX12_unsubscribe_22 : decode cX12_unsubscribe 22 = .ok (.iload_n 2, 1) := by decide +kernel
theorem dX12_unsubscribe_23 : decode cX12_unsubscribe 23 = .ok (.ifCond .ne 10, 3) := by decide +kernel
theorem dX12_unsubscribe_26 : decode cX12_unsubscribe 26 = .ok (.aload_n 0, 1) := by decide +kernel
theorem dX12_unsubscribe_27 : decode cX12_unsubscribe 27 = .ok (.sipush 130, 3) := by decide +kernel
theorem dX12_unsubscribe_30 : decode cX12_unsubscribe 30 = .ok (.invokevirtual 343, 3) := by decide +kernel
theorem dX12_unsubscribe_33 : decode cX12_unsubscribe 33 = .ok (.aload_n 0, 1) := by decide +kernel
theorem dX12_unsubscribe_34 : decode cX12_unsubscribe 34 = .ok (.getfield 283, 3) := by decide +kernel
theorem dX12_unsubscribe_37 : decode cX12_unsubscribe 37 = .ok (.ifCond .eq 4, 3) := by decide +kernel
theorem dX12_unsubscribe_40 : decode cX12_unsubscribe 40 = .ok (.return_, 1) := by decide +kernel
theorem dX12_unsubscribe_41 : decode cX12_unsubscribe 41 = .ok (.aload_n 0, 1) := by decide +kernel
theorem dX12_unsubscribe_42 : decode cX12_unsubscribe 42 = .ok (.bipush 38, 2) := by decide +kernel
theorem dX12_unsubscribe_44 : decode cX12_unsubscribe 44 = .ok (.invokestatic 381, 3) := by decide +kernel
theorem dX12_unsubscribe_47 : decode cX12_unsubscribe 47 = .ok (.invokevirtual 419, 3) := by decide +kernel
theorem dX12_unsubscribe_50 : decode cX12_unsubscribe 50 = .ok (.iconst 0, 1) := by decide +kernel
theorem dX12_unsubscribe_51 : decode cX12_unsubscribe 51 = .ok (.istore_n 3, 1) := by decide +kernel
theorem dX12_unsubscribe_52 : decode cX12_unsubscribe 52 = .ok (.aload_n 0, 1) := by decide +kernel
theorem dX12_unsubscribe_53 : decode cX12_unsubscribe 53 = .ok (.getfield 283, 3) := by decide +kernel
theorem dX12_unsubscribe_56 : decode cX12_unsubscribe 56 = .ok (.ifCond .ne 21, 3) := by decide +kernel
theorem dX12_unsubscribe_59 : decode cX12_unsubscribe 59 = .ok (.aload_n 0, 1) := by decide +kernel
theorem dX12_unsubscribe_60 : decode cX12_unsubscribe 60 = .ok (.getfield 274, 3) := by decide +kernel
theorem dX12_unsubscribe_63 : decode cX12_unsubscribe 63 = .ok (.aload_n 0, 1) := by decide +kernel
theorem dX12_unsubscribe_64 : decode cX12_unsubscribe 64 = .ok (.getfield 277, 3) := by decide +kernel
theorem dX12_unsubscribe_67 : decode cX12_unsubscribe 67 = .ok (.if_icmp .ne 10, 3) := by decide +kernel
theorem dX12_unsubscribe_70 : decode cX12_unsubscribe 70 = .ok (.aload_n 0, 1) := by decide +kernel
theorem dX12_unsubscribe_71 : decode cX12_unsubscribe 71 = .ok (.sipush 130, 3) := by decide +kernel
theorem dX12_unsubscribe_74 : decode cX12_unsubscribe 74 = .ok (.invokevirtual 343, 3) := by decide +kernel
theorem dX12_unsubscribe_77 : decode cX12_unsubscribe 77 = .ok (.aload_n 0, 1) := by decide +kernel
theorem dX12_unsubscribe_78 : decode cX12_unsubscribe 78 = .ok (.getfield 283, 3) := by decide +kernel
theorem dX12_unsubscribe_81 : decode cX12_unsubscribe 81 = .ok (.ifCond .ne 44, 3) := by decide +kernel
theorem dX12_unsubscribe_84 : decode cX12_unsubscribe 84 = .ok (.aload_n 0, 1) := by decide +kernel
theorem dX12_unsubscribe_85 : decode cX12_unsubscribe 85 = .ok (.getfield 274, 3) := by decide +kernel
theorem dX12_unsubscribe_88 : decode cX12_unsubscribe 88 = .ok (.aload_n 0, 1) := by decide +kernel
theorem dX12_unsubscribe_89 : decode cX12_unsubscribe 89 = .ok (.getfield 277, 3) := by decide +kernel
theorem dX12_unsubscribe_92 : decode cX12_unsubscribe 92 = .ok (.if_icmp .ge 33, 3) := by decide +kernel
theorem dX12_unsubscribe_95 : decode cX12_unsubscribe 95 = .ok (.aload_n 0, 1) := by decide +kernel
theorem dX12_unsubscribe_96 : decode cX12_unsubscribe 96 = .ok (.invokevirtual 388, 3) := by decide +kernel
theorem dX12_unsubscribe_99 : decode cX12_unsubscribe 99 = .ok (.aload_n 0, 1) := by decide +kernel
theorem dX12_unsubscribe_100 : decode cX12_unsubscribe 100 = .ok (.getfield 234, 3) := by decide +kernel
theorem dX12_unsubscribe_103 : decode cX12_unsubscribe 103 = .ok (.iload_n 3, 1) := by decide +kernel
theorem dX12_unsubscribe_104 : decode cX12_unsubscribe 104 = .ok (.aload_n 0, 1) := by decide +kernel
theorem dX12_unsubscribe_105 : decode cX12_unsubscribe 105 = .ok (.getfield 353, 3) := by decide +kernel
theorem dX12_unsubscribe_108 : decode cX12_unsubscribe 108 = .ok (.iastore, 1) := by decide +kernel
theorem dX12_unsubscribe_109 : decode cX12_unsubscribe 109 = .ok (.aload_n 0, 1) := by decide +kernel
theorem dX12_unsubscribe_110 : decode cX12_unsubscribe 110 = .ok (.getfield 237, 3) := by decide +kernel
theorem dX12_unsubscribe_113 : decode cX12_unsubscribe 113 = .ok (.iload_n 3, 1) := by decide +kernel
theorem dX12_unsubscribe_114 : decode cX12_unsubscribe 114 = .ok (.aload_n 0, 1) := by decide +kernel
theorem dX12_unsubscribe_115 : decode cX12_unsubscribe 115 = .ok (.getfield 356, 3) := by decide +kernel
theorem dX12_unsubscribe_118 : decode cX12_unsubscribe 118 = .ok (.iastore, 1) := by decide +kernel
theorem dX12_unsubscribe_119 : decode cX12_unsubscribe 119 = .ok (.iinc 3 1, 3) := by decide +kernel
theorem dX12_unsubscribe_122 : decode cX12_unsubscribe 122 = .ok (.goto (-45), 3) := by decide +kernel
theorem dX12_unsubscribe_125 : decode cX12_unsubscribe 125 = .ok (.aload_n 0, 1) := by decide +kernel
theorem dX12_unsubscribe_126 : decode cX12_unsubscribe 126 = .ok (.getfield 283, 3) := by decide +kernel
theorem dX12_unsubscribe_129 : decode cX12_unsubscribe 129 = .ok (.ifCond .eq 4, 3) := by decide +kernel
theorem dX12_unsubscribe_132 : decode cX12_unsubscribe 132 = .ok (.return_, 1) := by decide +kernel
theorem dX12_unsubscribe_133 : decode cX12_unsubscribe 133 = .ok (.iconst 0, 1) := by decide +kernel
theorem dX12_unsubscribe_134 : decode cX12_unsubscribe 134 = .ok (.istore 4, 2) := by decide +kernel
theorem dX12_unsubscribe_136 : decode cX12_unsubscribe 136 = .ok (.iload 4, 2) := by decide +kernel
theorem dX12_unsubscribe_138 : decode cX12_unsubscribe 138 = .ok (.iload_n 3, 1) := by decide +kernel
theorem dX12_unsubscribe_139 : decode cX12_unsubscribe 139 = .ok (.if_icmp .ge 131, 3) := by decide +kernel
theorem dX12_unsubscribe_142 : decode cX12_unsubscribe 142 = .ok (.aload_n 0, 1) := by decide +kernel
theorem dX12_unsubscribe_143 : decode cX12_unsubscribe 143 = .ok (.iload_n 1, 1) := by decide +kernel
theorem dX12_unsubscribe_144 : decode cX12_unsubscribe 144 = .ok (.aload_n 0, 1) := by decide +kernel
theorem dX12_unsubscribe_145 : decode cX12_unsubscribe 145 = .ok (.getfield 234, 3) := by decide +kernel
theorem dX12_unsubscribe_148 : decode cX12_unsubscribe 148 = .ok (.iload 4, 2) := by decide +kernel
theorem dX12_unsubscribe_150 : decode cX12_unsubscribe 150 = .ok (.iaload, 1) := by decide +kernel
theorem dX12_unsubscribe_151 : decode cX12_unsubscribe 151 = .ok (.aload_n 0, 1) := by decide +kernel
theorem dX12_unsubscribe_152 : decode cX12_unsubscribe 152 = .ok (.getfield 237, 3) := by decide +kernel
theorem dX12_unsubscribe_155 : decode cX12_unsubscribe 155 = .ok (.iload 4, 2) := by decide +kernel
theorem dX12_unsubscribe_157 : decode cX12_unsubscribe 157 = .ok (.iaload, 1) := by decide +kernel
theorem dX12_unsubscribe_158 : decode cX12_unsubscribe 158 = .ok (.invokevirtual 570, 3) := by decide +kernel
theorem dX12_unsubscribe_161 : decode cX12_unsubscribe 161 = .ok (.istore 5, 2) := by decide +kernel
theorem dX12_unsubscribe_163 : decode cX12_unsubscribe 163 = .ok (.aload_n 0, 1) := by decide +kernel
theorem dX12_unsubscribe_164 : decode cX12_unsubscribe 164 = .ok (.getfield 31, 3) := by decide +kernel
theorem dX12_unsubscribe_167 : decode cX12_unsubscribe 167 = .ok (.aload_n 0, 1) := by decide +kernel
theorem dX12_unsubscribe_168 : decode cX12_unsubscribe 168 = .ok (.getfield 234, 3) := by decide +kernel
theorem dX12_unsubscribe_171 : decode cX12_unsubscribe 171 = .ok (.iload 4, 2) := by decide +kernel
theorem dX12_unsubscribe_173 : decode cX12_unsubscribe 173 = .ok (.iaload, 1) := by decide +kernel
theorem dX12_unsubscribe_174 : decode cX12_unsubscribe 174 = .ok (.aload_n 0, 1) := by decide +kernel
theorem dX12_unsubscribe_175 : decode cX12_unsubscribe 175 = .ok (.getfield 237, 3) := by decide +kernel
theorem dX12_unsubscribe_178 : decode cX12_unsubscribe 178 = .ok (.iload 4, 2) := by decide +kernel
theorem dX12_unsubscribe_180 : decode cX12_unsubscribe 180 = .ok (.iaload, 1) := by decide +kernel
theorem dX12_unsubscribe_181 : decode cX12_unsubscribe 181 = .ok (.invokestatic 395, 3) := by decide +kernel
theorem dX12_unsubscribe_184 : decode cX12_unsubscribe 184 = .ok (.ifCond .ne 27, 3) := by decide +kernel
theorem dX12_unsubscribe_187 : decode cX12_unsubscribe 187 = .ok (.aload_n 0, 1) := by decide +kernel
theorem dX12_unsubscribe_188 : decode cX12_unsubscribe 188 = .ok (.getfield 31, 3) := by decide +kernel
theorem dX12_unsubscribe_191 : decode cX12_unsubscribe 191 = .ok (.aload_n 0, 1) := by decide +kernel
theorem dX12_unsubscribe_192 : decode cX12_unsubscribe 192 = .ok (.getfield 234, 3) := by decide +kernel
theorem dX12_unsubscribe_195 : decode cX12_unsubscribe 195 = .ok (.iload 4, 2) := by decide +kernel
theorem dX12_unsubscribe_197 : decode cX12_unsubscribe 197 = .ok (.iaload, 1) := by decide +kernel
theorem dX12_unsubscribe_198 : decode cX12_unsubscribe 198 = .ok (.aload_n 0, 1) := by decide +kernel
theorem dX12_unsubscribe_199 : decode cX12_unsubscribe 199 = .ok (.getfield 237, 3) := by decide +kernel
theorem dX12_unsubscribe_202 : decode cX12_unsubscribe 202 = .ok (.iload 4, 2) := by decide +kernel
theorem dX12_unsubscribe_204 : decode cX12_unsubscribe 204 = .ok (.iaload, 1) := by decide +kernel
theorem dX12_unsubscribe_205 : decode cX12_unsubscribe 205 = .ok (.invokestatic 501, 3) := by decide +kernel
theorem dX12_unsubscribe_208 : decode cX12_unsubscribe 208 = .ok (.ifCond .le 7, 3) := by decide +kernel
theorem dX12_unsubscribe_211 : decode cX12_unsubscribe 211 = .ok (.iconst 1, 1) := by decide +kernel
theorem dX12_unsubscribe_212 : decode cX12_unsubscribe 212 = .ok (.goto 4, 3) := by decide +kernel
theorem dX12_unsubscribe_215 : decode cX12_unsubscribe 215 = .ok (.iconst 0, 1) := by decide +kernel
theorem dX12_unsubscribe_216 : decode cX12_unsubscribe 216 = .ok (.istore 6, 2) := by decide +kernel
theorem dX12_unsubscribe_218 : decode cX12_unsubscribe 218 = .ok (.aload_n 0, 1) := by decide +kernel
theorem dX12_unsubscribe_219 : decode cX12_unsubscribe 219 = .ok (.getfield 231, 3) := by decide +kernel
theorem dX12_unsubscribe_222 : decode cX12_unsubscribe 222 = .ok (.iload 4, 2) := by decide +kernel
theorem dX12_unsubscribe_224 : decode cX12_unsubscribe 224 = .ok (.iload 6, 2) := by decide +kernel
theorem dX12_unsubscribe_226 : decode cX12_unsubscribe 226 = .ok (.ifCond .ne 9, 3) := by decide +kernel
theorem dX12_unsubscribe_229 : decode cX12_unsubscribe 229 = .ok (.sipush 143, 3) := by decide +kernel
theorem dX12_unsubscribe_232 : decode cX12_unsubscribe 232 = .ok (.goto 14, 3) := by decide +kernel
theorem dX12_unsubscribe_235 : decode cX12_unsubscribe 235 = .ok (.iload 5, 2) := by decide +kernel
theorem dX12_unsubscribe_237 : decode cX12_unsubscribe 237 = .ok (.ifCond .ge 8, 3) := by decide +kernel
theorem dX12_unsubscribe_240 : decode cX12_unsubscribe 240 = .ok (.bipush 17, 2) := by decide +kernel
theorem dX12_unsubscribe_242 : decode cX12_unsubscribe 242 = .ok (.goto 4, 3) := by decide +kernel
theorem dX12_unsubscribe_245 : decode cX12_unsubscribe 245 = .ok (.iconst 0, 1) := by decide +kernel
theorem dX12_unsubscribe_246 : decode cX12_unsubscribe 246 = .ok (.iastore, 1) := by decide +kernel
theorem dX12_unsubscribe_247 : decode cX12_unsubscribe 247 = .ok (.iload 6, 2) := by decide +kernel
theorem dX12_unsubscribe_249 : decode cX12_unsubscribe 249 = .ok (.ifCond .eq 15, 3) := by decide +kernel
theorem dX12_unsubscribe_252 : decode cX12_unsubscribe 252 = .ok (.iload 5, 2) := by decide +kernel
theorem dX12_unsubscribe_254 : decode cX12_unsubscribe 254 = .ok (.ifCond .lt 10, 3) := by decide +kernel
theorem dX12_unsubscribe_257 : decode cX12_unsubscribe 257 = .ok (.aload_n 0, 1) := by decide +kernel
theorem dX12_unsubscribe_258 : decode cX12_unsubscribe 258 = .ok (.iload_n 1, 1) := by decide +kernel
theorem dX12_unsubscribe_259 : decode cX12_unsubscribe 259 = .ok (.iload 5, 2) := by decide +kernel
theorem dX12_unsubscribe_261 : decode cX12_unsubscribe 261 = .ok (.invokevirtual 573, 3) := by decide +kernel
theorem dX12_unsubscribe_264 : decode cX12_unsubscribe 264 = .ok (.iinc 4 1, 3) := by decide +kernel
theorem dX12_unsubscribe_267 : decode cX12_unsubscribe 267 = .ok (.goto (-131), 3) := by decide +kernel
theorem dX12_unsubscribe_270 : decode cX12_unsubscribe 270 = .ok (.aload_n 0, 1) := by decide +kernel
theorem dX12_unsubscribe_271 : decode cX12_unsubscribe 271 = .ok (.iconst 0, 1) := by decide +kernel
theorem dX12_unsubscribe_272 : decode cX12_unsubscribe 272 = .ok (.putfield 450, 3) := by decide +kernel
theorem dX12_unsubscribe_275 : decode cX12_unsubscribe 275 = .ok (.aload_n 0, 1) := by decide +kernel
theorem dX12_unsubscribe_276 : decode cX12_unsubscribe 276 = .ok (.iload_n 2, 1) := by decide +kernel
theorem dX12_unsubscribe_277 : decode cX12_unsubscribe 277 = .ok (.bipush 8, 2) := by decide +kernel
theorem dX12_unsubscribe_279 : decode cX12_unsubscribe 279 = .ok (.ishr, 1) := by decide +kernel
theorem dX12_unsubscribe_280 : decode cX12_unsubscribe 280 = .ok (.invokevirtual 453, 3) := by decide +kernel
theorem dX12_unsubscribe_283 : decode cX12_unsubscribe 283 = .ok (.aload_n 0, 1) := by decide +kernel
theorem dX12_unsubscribe_284 : decode cX12_unsubscribe 284 = .ok (.iload_n 2, 1) := by decide +kernel
theorem dX12_unsubscribe_285 : decode cX12_unsubscribe 285 = .ok (.invokevirtual 453, 3) := by decide +kernel
theorem dX12_unsubscribe_288 : decode cX12_unsubscribe 288 = .ok (.aload_n 0, 1) := by decide +kernel
theorem dX12_unsubscribe_289 : decode cX12_unsubscribe 289 = .ok (.iconst 0, 1) := by decide +kernel
theorem dX12_unsubscribe_290 : decode cX12_unsubscribe 290 = .ok (.invokevirtual 453, 3) := by decide +kernel
theorem dX12_unsubscribe_293 : decode cX12_unsubscribe 293 = .ok (.iconst 0, 1) := by decide +kernel
theorem dX12_unsubscribe_294 : decode cX12_unsubscribe 294 = .ok (.istore 4, 2) := by decide +kernel
theorem dX12_unsubscribe_296 : decode cX12_unsubscribe 296 = .ok (.iload 4, 2) := by decide +kernel
theorem dX12_unsubscribe_298 : decode cX12_unsubscribe 298 = .ok (.iload_n 3, 1) := by decide +kernel
theorem dX12_unsubscribe_299 : decode cX12_unsubscribe 299 = .ok (.if_icmp .ge 20, 3) := by decide +kernel
theorem dX12_unsubscribe_302 : decode cX12_unsubscribe 302 = .ok (.aload_n 0, 1) := by decide +kernel
theorem dX12_unsubscribe_303 : decode cX12_unsubscribe 303 = .ok (.aload_n 0, 1) := by decide +kernel
theorem dX12_unsubscribe_304 : decode cX12_unsubscribe 304 = .ok (.getfield 231, 3) := by decide +kernel
theorem dX12_unsubscribe_307 : decode cX12_unsubscribe 307 = .ok (.iload 4, 2) := by decide +kernel
theorem dX12_unsubscribe_309 : decode cX12_unsubscribe 309 = .ok (.iaload, 1) := by decide +kernel
theorem dX12_unsubscribe_310 : decode cX12_unsubscribe 310 = .ok (.invokevirtual 453, 3) := by decide +kernel
theorem dX12_unsubscribe_313 : decode cX12_unsubscribe 313 = .ok (.iinc 4 1, 3) := by decide +kernel
theorem dX12_unsubscribe_316 : decode cX12_unsubscribe 316 = .ok (.goto (-20), 3) := by decide +kernel
theorem dX12_unsubscribe_319 : decode cX12_unsubscribe 319 = .ok (.aload_n 0, 1) := by decide +kernel
theorem dX12_unsubscribe_320 : decode cX12_unsubscribe 320 = .ok (.aload_n 0, 1) := by decide +kernel
theorem dX12_unsubscribe_321 : decode cX12_unsubscribe 321 = .ok (.getfield 271, 3) := by decide +kernel
theorem dX12_unsubscribe_324 : decode cX12_unsubscribe 324 = .ok (.sipush 176, 3) := by decide +kernel
theorem dX12_unsubscribe_327 : decode cX12_unsubscribe 327 = .ok (.invokevirtual 456, 3) := by decide +kernel
theorem dX12_unsubscribe_330 : decode cX12_unsubscribe 330 = .ok (.return_, 1) := by decide +kernel
theorem dX12_unsubscribeOne_0 : decode cX12_unsubscribeOne 0 = .ok (.iload_n 2, 1) := by decide +kernel
theorem dX12_unsubscribeOne_1 : decode cX12_unsubscribeOne 1 = .ok (.istore_n 3, 1) := by decide +kernel
theorem dX12_unsubscribeOne_2 : decode cX12_unsubscribeOne 2 = .ok (.iload_n 3, 1) := by decide +kernel
theorem dX12_unsubscribeOne_3 : decode cX12_unsubscribeOne 3 = .ok (.iconst 1, 1) := by decide +kernel
theorem dX12_unsubscribeOne_4 : decode cX12_unsubscribeOne 4 = .ok (.iadd, 1) := by decide +kernel
theorem dX12_unsubscribeOne_5 : decode cX12_unsubscribeOne 5 = .ok (.aload_n 0, 1) := by decide +kernel
theorem dX12_unsubscribeOne_6 : decode cX12_unsubscribeOne 6 = .ok (.getfield 86, 3) := by decide +kernel
theorem dX12_unsubscribeOne_9 : decode cX12_unsubscribeOne 9 = .ok (.iload_n 1, 1) := by decide +kernel
theorem dX12_unsubscribeOne_10 : decode cX12_unsubscribeOne 10 = .ok (.iaload, 1) := by decide +kernel
theorem dX12_unsubscribeOne_11 : decode cX12_unsubscribeOne 11 = .ok (.if_icmp .ge 146, 3) := by decide +kernel
theorem dX12_unsubscribeOne_14 : decode cX12_unsubscribeOne 14 = .ok (.bipush 8, 2) := by decide +kernel
theorem dX12_unsubscribeOne_16 : decode cX12_unsubscribeOne 16 = .ok (.iload_n 1, 1) := by decide +kernel
theorem dX12_unsubscribeOne_17 : decode cX12_unsubscribeOne 17 = .ok (.imul, 1) := by decide +kernel
theorem dX12_unsubscribeOne_18 : decode cX12_unsubscribeOne 18 = .ok (.iload_n 3, 1) := by decide +kernel
theorem dX12_unsubscribeOne_19 : decode cX12_unsubscribeOne 19 = .ok (.iadd, 1) := by decide +kernel
theorem dX12_unsubscribeOne_20 : decode cX12_unsubscribeOne 20 = .ok (.istore 4, 2) := by decide +kernel
theorem dX12_unsubscribeOne_22 : decode cX12_unsubscribeOne 22 = .ok (.aload_n 0, 1) := by decide +kernel
theorem dX12_unsubscribeOne_23 : decode cX12_unsubscribeOne 23 = .ok (.getfield 89, 3) := by decide +kernel
theorem dX12_unsubscribeOne_26 : decode cX12_unsubscribeOne 26 = .ok (.iload 4, 2) := by decide +kernel
theorem dX12_unsubscribeOne_28 : decode cX12_unsubscribeOne 28 = .ok (.aload_n 0, 1) := by decide +kernel
theorem dX12_unsubscribeOne_29 : decode cX12_unsubscribeOne 29 = .ok (.getfield 89, 3) := by decide +kernel
theorem dX12_unsubscribeOne_32 : decode cX12_unsubscribeOne 32 = .ok (.iload 4, 2) := by decide +kernel
theorem dX12_unsubscribeOne_34 : decode cX12_unsubscribeOne 34 = .ok (.iconst 1, 1) := by decide +kernel
theorem dX12_unsubscribeOne_35 : decode cX12_unsubscribeOne 35 = .ok (.iadd, 1) := by decide +kernel
theorem dX12_unsubscribeOne_36 : decode cX12_unsubscribeOne 36 = .ok (.iaload, 1) := by decide +kernel
theorem dX12_unsubscribeOne_37 : decode cX12_unsubscribeOne 37 = .ok (.iastore, 1) := by decide +kernel
theorem dX12_unsubscribeOne_38 : decode cX12_unsubscribeOne 38 = .ok (.iconst 0, 1) := by decide +kernel
theorem dX12_unsubscribeOne_39 : decode cX12_unsubscribeOne 39 = .ok (.istore 5, 2) := by decide +kernel
theorem dX12_unsubscribeOne_41 : decode cX12_unsubscribeOne 41 = .ok (.iload 5, 2) := by decide +kernel
theorem dX12_unsubscribeOne_43 : decode cX12_unsubscribeOne 43 = .ok (.aload_n 0, 1) := by decide +kernel
theorem dX12_unsubscribeOne_44 : decode cX12_unsubscribeOne 44 = .ok (.getfield 89, 3) := by decide +kernel
theorem dX12_unsubscribeOne_47 : decode cX12_unsubscribeOne 47 = .ok (.iload 4, 2) := by decide +kernel
theorem dX12_unsubscribeOne_49 : decode cX12_unsubscribeOne 49 = .ok (.iaload, 1) := by decide +kernel
theorem dX12_unsubscribeOne_50 : decode cX12_unsubscribeOne 50 = .ok (.if_icmp .ge 37, 3) := by decide +kernel
theorem dX12_unsubscribeOne_53 : decode cX12_unsubscribeOne 53 = .ok (.aload_n 0, 1) := by decide +kernel
theorem dX12_unsubscribeOne_54 : decode cX12_unsubscribeOne 54 = .ok (.getfield 92, 3) := by decide +kernel
theorem dX12_unsubscribeOne_57 : decode cX12_unsubscribeOne 57 = .ok (.bipush 64, 2) := by decide +kernel
theorem dX12_unsubscribeOne_59 : decode cX12_unsubscribeOne 59 = .ok (.iload 4, 2) := by decide +kernel
theorem dX12_unsubscribeOne_61 : decode cX12_unsubscribeOne 61 = .ok (.imul, 1) := by decide +kernel
theorem dX12_unsubscribeOne_62 : decode cX12_unsubscribeOne 62 = .ok (.iload 5, 2) := by decide +kernel
theorem dX12_unsubscribeOne_64 : decode cX12_unsubscribeOne 64 = .ok (.iadd, 1) := by decide +kernel
theorem dX12_unsubscribeOne_65 : decode cX12_unsubscribeOne 65 = .ok (.aload_n 0, 1) := by decide +kernel
theorem dX12_unsubscribeOne_66 : decode cX12_unsubscribeOne 66 = .ok (.getfield 92, 3) := by decide +kernel
theorem dX12_unsubscribeOne_69 : decode cX12_unsubscribeOne 69 = .ok (.bipush 64, 2) := by decide +kernel
theorem dX12_unsubscribeOne_71 : decode cX12_unsubscribeOne 71 = .ok (.iload 4, 2) := by decide +kernel
theorem dX12_unsubscribeOne_73 : decode cX12_unsubscribeOne 73 = .ok (.iconst 1, 1) := by decide +kernel
theorem dX12_unsubscribeOne_74 : decode cX12_unsubscribeOne 74 = .ok (.iadd, 1) := by decide +kernel
theorem dX12_unsubscribeOne_75 : decode cX12_unsubscribeOne 75 = .ok (.imul, 1) := by decide +kernel
theorem dX12_unsubscribeOne_76 : decode cX12_unsubscribeOne 76 = .ok (.iload 5, 2) := by decide +kernel
theorem dX12_unsubscribeOne_78 : decode cX12_unsubscribeOne 78 = .ok (.iadd, 1) := by decide +kernel
theorem dX12_unsubscribeOne_79 : decode cX12_unsubscribeOne 79 = .ok (.baload, 1) := by decide +kernel
theorem dX12_unsubscribeOne_80 : decode cX12_unsubscribeOne 80 = .ok (.bastore, 1) := by decide +kernel
theorem dX12_unsubscribeOne_81 : decode cX12_unsubscribeOne 81 = .ok (.iinc 5 1, 3) := by decide +kernel
theorem dX12_unsubscribeOne_84 : decode cX12_unsubscribeOne 84 = .ok (.goto (-43), 3) := by decide +kernel
theorem dX12_unsubscribeOne_87 : decode cX12_unsubscribeOne 87 = .ok (.aload_n 0, 1) := by decide +kernel
theorem dX12_unsubscribeOne_88 : decode cX12_unsubscribeOne 88 = .ok (.getfield 95, 3) := by decide +kernel
theorem dX12_unsubscribeOne_91 : decode cX12_unsubscribeOne 91 = .ok (.iload 4, 2) := by decide +kernel
theorem dX12_unsubscribeOne_93 : decode cX12_unsubscribeOne 93 = .ok (.aload_n 0, 1) := by decide +kernel
theorem dX12_unsubscribeOne_94 : decode cX12_unsubscribeOne 94 = .ok (.getfield 95, 3) := by decide +kernel
theorem dX12_unsubscribeOne_97 : decode cX12_unsubscribeOne 97 = .ok (.iload 4, 2) := by decide +kernel
theorem dX12_unsubscribeOne_99 : decode cX12_unsubscribeOne 99 = .ok (.iconst 1, 1) := by decide +kernel
theorem dX12_unsubscribeOne_100 : decode cX12_unsubscribeOne 100 = .ok (.iadd, 1) := by decide +kernel
theorem dX12_unsubscribeOne_101 : decode cX12_unsubscribeOne 101 = .ok (.iaload, 1) := by decide +kernel
theorem dX12_unsubscribeOne_102 : decode cX12_unsubscribeOne 102 = .ok (.iastore, 1) := by decide +kernel
theorem dX12_unsubscribeOne_103 : decode cX12_unsubscribeOne 103 = .ok (.aload_n 0, 1) := by decide +kernel
theorem dX12_unsubscribeOne_104 : decode cX12_unsubscribeOne 104 = .ok (.getfield 98, 3) := by decide +kernel
theorem dX12_unsubscribeOne_107 : decode cX12_unsubscribeOne 107 = .ok (.iload 4, 2) := by decide +kernel
theorem dX12_unsubscribeOne_109 : decode cX12_unsubscribeOne 109 = .ok (.aload_n 0, 1) := by decide +kernel
theorem dX12_unsubscribeOne_110 : decode cX12_unsubscribeOne 110 = .ok (.getfield 98, 3) := by decide +kernel
theorem dX12_unsubscribeOne_113 : decode cX12_unsubscribeOne 113 = .ok (.iload 4, 2) := by decide +kernel
theorem dX12_unsubscribeOne_115 : decode cX12_unsubscribeOne 115 = .ok (.iconst 1, 1) := by decide +kernel
theorem dX12_unsubscribeOne_116 : decode cX12_unsubscribeOne 116 = .ok (.iadd, 1) := by decide +kernel
theorem dX12_unsubscribeOne_117 : decode cX12_unsubscribeOne 117 = .ok (.iaload, 1) := by decide +kernel
theorem dX12_unsubscribeOne_118 : decode cX12_unsubscribeOne 118 = .ok (.iastore, 1) := by decide +kernel
theorem dX12_unsubscribeOne_119 : decode cX12_unsubscribeOne 119 = .ok (.aload_n 0, 1) := by decide +kernel
theorem dX12_unsubscribeOne_120 : decode cX12_unsubscribeOne 120 = .ok (.getfield 101, 3) := by decide +kernel
theorem dX12_unsubscribeOne_123 : decode cX12_unsubscribeOne 123 = .ok (.iload 4, 2) := by decide +kernel
theorem dX12_unsubscribeOne_125 : decode cX12_unsubscribeOne 125 = .ok (.aload_n 0, 1) := by decide +kernel
theorem dX12_unsubscribeOne_126 : decode cX12_unsubscribeOne 126 = .ok (.getfield 101, 3) := by decide +kernel
theorem dX12_unsubscribeOne_129 : decode cX12_unsubscribeOne 129 = .ok (.iload 4, 2) := by decide +kernel
theorem dX12_unsubscribeOne_131 : decode cX12_unsubscribeOne 131 = .ok (.iconst 1, 1) := by decide +kernel
theorem dX12_unsubscribeOne_132 : decode cX12_unsubscribeOne 132 = .ok (.iadd, 1) := by decide +kernel
theorem dX12_unsubscribeOne_133 : decode cX12_unsubscribeOne 133 = .ok (.iaload, 1) := by decide +kernel
theorem dX12_unsubscribeOne_134 : decode cX12_unsubscribeOne 134 = .ok (.iastore, 1) := by decide +kernel
theorem dX12_unsubscribeOne_135 : decode cX12_unsubscribeOne 135 = .ok (.aload_n 0, 1) := by decide +kernel
theorem dX12_unsubscribeOne_136 : decode cX12_unsubscribeOne 136 = .ok (.getfield 104, 3) := by decide +kernel
theorem dX12_unsubscribeOne_139 : decode cX12_unsubscribeOne 139 = .ok (.iload 4, 2) := by decide +kernel
theorem dX12_unsubscribeOne_141 : decode cX12_unsubscribeOne 141 = .ok (.aload_n 0, 1) := by decide +kernel
theorem dX12_unsubscribeOne_142 : decode cX12_unsubscribeOne 142 = .ok (.getfield 104, 3) := by decide +kernel
theorem dX12_unsubscribeOne_145 : decode cX12_unsubscribeOne 145 = .ok (.iload 4, 2) := by decide +kernel
theorem dX12_unsubscribeOne_147 : decode cX12_unsubscribeOne 147 = .ok (.iconst 1, 1) := by decide +kernel
theorem dX12_unsubscribeOne_148 : decode cX12_unsubscribeOne 148 = .ok (.iadd, 1) := by decide +kernel
theorem dX12_unsubscribeOne_149 : decode cX12_unsubscribeOne 149 = .ok (.iaload, 1) := by decide +kernel
theorem dX12_unsubscribeOne_150 : decode cX12_unsubscribeOne 150 = .ok (.iastore, 1) := by decide +kernel
theorem dX12_unsubscribeOne_151 : decode cX12_unsubscribeOne 151 = .ok (.iinc 3 1, 3) := by decide +kernel
theorem dX12_unsubscribeOne_154 : decode cX12_unsubscribeOne 154 = .ok (.goto (-152), 3) := by decide +kernel
theorem dX12_unsubscribeOne_157 : decode cX12_unsubscribeOne 157 = .ok (.aload_n 0, 1) := by decide +kernel
theorem dX12_unsubscribeOne_158 : decode cX12_unsubscribeOne 158 = .ok (.getfield 86, 3) := by decide +kernel
theorem dX12_unsubscribeOne_161 : decode cX12_unsubscribeOne 161 = .ok (.iload_n 1, 1) := by decide +kernel
theorem dX12_unsubscribeOne_162 : decode cX12_unsubscribeOne 162 = .ok (.dup2, 1) := by decide +kernel
theorem dX12_unsubscribeOne_163 : decode cX12_unsubscribeOne 163 = .ok (.iaload, 1) := by decide +kernel
theorem dX12_unsubscribeOne_164 : decode cX12_unsubscribeOne 164 = .ok (.iconst 1, 1) := by decide +kernel
theorem dX12_unsubscribeOne_165 : decode cX12_unsubscribeOne 165 = .ok (.isub, 1) := by decide +kernel
theorem dX12_unsubscribeOne_166 : decode cX12_unsubscribeOne 166 = .ok (.iastore, 1) := by decide +kernel
theorem dX12_unsubscribeOne_167 : decode cX12_unsubscribeOne 167 = .ok (.return_, 1) := by decide +kernel
theorem dX12_disconnect_0 : decode cX12_disconnect 0 = .ok (.aload_n 0, 1) := by decide +kernel
theorem dX12_disconnect_1 : decode cX12_disconnect 1 = .ok (.getfield 34, 3) := by decide +kernel
theorem dX12_disconnect_4 : decode cX12_disconnect 4 = .ok (.aload_n 0, 1) := by decide +kernel
theorem dX12_disconnect_5 : decode cX12_disconnect 5 = .ok (.getfield 271, 3) := by decide +kernel
theorem dX12_disconnect_8 : decode cX12_disconnect 8 = .ok (.iaload, 1) := by decide +kernel
theorem dX12_disconnect_9 : decode cX12_disconnect 9 = .ok (.istore_n 1, 1) := by decide +kernel
theorem dX12_disconnect_10 : decode cX12_disconnect 10 = .ok (.aload_n 0, 1) := by decide +kernel
theorem dX12_disconnect_11 : decode cX12_disconnect 11 = .ok (.getfield 274, 3) := by decide +kernel
theorem dX12_disconnect_14 : decode cX12_disconnect 14 = .ok (.aload_n 0, 1) := by decide +kernel
theorem dX12_disconnect_15 : decode cX12_disconnect 15 = .ok (.getfield 277, 3) := by decide +kernel
theorem dX12_disconnect_18 : decode cX12_disconnect 18 = .ok (.if_icmp .ge 10, 3) := by decide +kernel
theorem dX12_disconnect_21 : decode cX12_disconnect 21 = .ok (.aload_n 0, 1) := by decide +kernel
theorem dX12_disconnect_22 : decode cX12_disconnect 22 = .ok (.invokevirtual 346, 3) := by decide +kernel
theorem dX12_disconnect_25 : decode cX12_disconnect 25 = .ok (.goto 4, 3) := by decide +kernel
theorem dX12_disconnect_28 : decode cX12_disconnect 28 = .ok (.iconst 0, 1) := by decide +kernel
theorem dX12_disconnect_29 : decode cX12_disconnect 29 = .ok (.istore_n 2, 1) := by decide +kernel
theorem dX12_disconnect_30 : decode cX12_disconnect 30 = .ok (.aload_n 0, 1) := by decide +kernel
theorem dX12_disconnect_31 : decode cX12_disconnect 31 = .ok (.getfield 274, 3) := by decide +kernel
theorem dX12_disconnect_34 : decode cX12_disconnect 34 = .ok (.aload_n 0, 1) := by decide +kernel
theorem dX12_disconnect_35 : decode cX12_disconnect 35 = .ok (.getfield 277, 3) := by decide +kernel
theorem dX12_disconnect_38 : decode cX12_disconnect 38 = .ok (.if_icmp .ge 7, 3) := by decide +kernel
theorem dX12_disconnect_41 : decode cX12_disconnect 41 = .ok (.iconst 1, 1) := by decide +kernel
theorem dX12_disconnect_42 : decode cX12_disconnect 42 = .ok (.goto 4, 3) := by decide +kernel
theorem dX12_disconnect_45 : decode cX12_disconnect 45 = .ok (.iconst 0, 1) := by decide +kernel
theorem dX12_disconnect_46 : decode cX12_disconnect 46 = .ok (.istore_n 3, 1) := by decide +kernel
theorem dX12_disconnect_47 : decode cX12_disconnect 47 = .ok (.iload_n 3, 1) := by decide +kernel
theorem dX12_disconnect_48 : decode cX12_disconnect 48 = .ok (.ifCond .eq 24, 3) := by decide +kernel
theorem dX12_disconnect_51 : decode cX12_disconnect 51 = .ok (.aload_n 0, 1) := by decide +kernel
theorem dX12_disconnect_52 : decode cX12_disconnect 52 = .ok (.bipush 17, 2) := by decide +kernel
theorem dX12_disconnect_54 : decode cX12_disconnect 54 = .ok (.invokestatic 381, 3) := by decide +kernel
theorem dX12_disconnect_57 : decode cX12_disconnect 57 = .ok (.bipush 31, 2) := by decide +kernel
theorem dX12_disconnect_59 : decode cX12_disconnect 59 = .ok (.invokestatic 381, 3) := by decide +kernel
theorem dX12_disconnect_62 : decode cX12_disconnect 62 = .ok (.lor, 1) := by decide +kernel
theorem dX12_disconnect_63 : decode cX12_disconnect 63 = .ok (.bipush 38, 2) := by decide +kernel
theorem dX12_disconnect_65 : decode cX12_disconnect 65 = .ok (.invokestatic 381, 3) := by decide +kernel
theorem dX12_disconnect_68 : decode cX12_disconnect 68 = .ok (.lor, 1) := by decide +kernel
theorem dX12_disconnect_69 : decode cX12_disconnect 69 = .ok (.invokevirtual 419, 3) := by decide +kernel
theorem dX12_disconnect_72 : decode cX12_disconnect 72 = .ok (.aload_n 0, 1) := by decide +kernel
theorem dX12_disconnect_73 : decode cX12_disconnect 73 = .ok (.getfield 283, 3) := by decide +kernel
theorem dX12_disconnect_76 : decode cX12_disconnect 76 = .ok (.ifCond .ne 21, 3) := by decide +kernel
theorem dX12_disconnect_79 : decode cX12_disconnect 79 = .ok (.aload_n 0, 1) := by decide +kernel
theorem dX12_disconnect_80 : decode cX12_disconnect 80 = .ok (.getfield 274, 3) := by decide +kernel
theorem dX12_disconnect_83 : decode cX12_disconnect 83 = .ok (.aload_n 0, 1) := by decide +kernel
theorem dX12_disconnect_84 : decode cX12_disconnect 84 = .ok (.getfield 277, 3) := by decide +kernel
theorem dX12_disconnect_87 : decode cX12_disconnect 87 = .ok (.if_icmp .ge 10, 3) := by decide +kernel
theorem dX12_disconnect_90 : decode cX12_disconnect 90 = .ok (.aload_n 0, 1) := by decide +kernel
theorem dX12_disconnect_91 : decode cX12_disconnect 91 = .ok (.sipush 129, 3) := by decide +kernel
theorem dX12_disconnect_94 : decode cX12_disconnect 94 = .ok (.invokevirtual 343, 3) := by decide +kernel
theorem dX12_disconnect_97 : decode cX12_disconnect 97 = .ok (.iload_n 3, 1) := by decide +kernel
theorem dX12_disconnect_98 : decode cX12_disconnect 98 = .ok (.ifCond .eq 17, 3) := by decide +kernel
theorem dX12_disconnect_101 : decode cX12_disconnect 101 = .ok (.aload_n 0, 1) := by decide +kernel
theorem dX12_disconnect_102 : decode cX12_disconnect 102 = .ok (.getfield 210, 3) := by decide +kernel
theorem dX12_disconnect_105 : decode cX12_disconnect 105 = .ok (.bipush 17, 2) := by decide +kernel
theorem dX12_disconnect_107 : decode cX12_disconnect 107 = .ok (.baload, 1) := by decide +kernel
theorem dX12_disconnect_108 : decode cX12_disconnect 108 = .ok (.ifCond .eq 7, 3) := by decide +kernel
theorem dX12_disconnect_111 : decode cX12_disconnect 111 = .ok (.iconst 1, 1) := by decide +kernel
theorem dX12_disconnect_112 : decode cX12_disconnect 112 = .ok (.goto 4, 3) := by decide +kernel
theorem dX12_disconnect_115 : decode cX12_disconnect 115 = .ok (.iconst 0, 1) := by decide +kernel
theorem dX12_disconnect_116 : decode cX12_disconnect 116 = .ok (.istore 4, 2) := by decide +kernel
theorem dX12_disconnect_118 : decode cX12_disconnect 118 = .ok (.aload_n 0, 1) := by decide +kernel
theorem dX12_disconnect_119 : decode cX12_disconnect 119 = .ok (.getfield 283, 3) := by decide +kernel
theorem dX12_disconnect_122 : decode cX12_disconnect 122 = .ok (.ifCond .ne 38, 3) := by decide +kernel
theorem dX12_disconnect_125 : decode cX12_disconnect 125 = .ok (.iload 4, 2) := by decide +kernel
theorem dX12_disconnect_127 : decode cX12_disconnect 127 = .ok (.ifCond .eq 33, 3) := by decide +kernel
theorem dX12_disconnect_130 : decode cX12_disconnect 130 = .ok (.aload_n 0, 1) := by decide +kernel
theorem dX12_disconnect_131 : decode cX12_disconnect 131 = .ok (.getfield 213, 3) := by decide +kernel
theorem dX12_disconnect_134 : decode cX12_disconnect 134 = .ok (.bipush 17, 2) := by decide +kernel
theorem dX12_disconnect_136 : decode cX12_disconnect 136 = .ok (.laload, 1) := by decide +kernel
theorem dX12_disconnect_137 : decode cX12_disconnect 137 = .ok (.lconst 0, 1) := by decide +kernel
theorem dX12_disconnect_138 : decode cX12_disconnect 138 = .ok (.lcmp, 1) := by decide +kernel
theorem dX12_disconnect_139 : decode cX12_disconnect 139 = .ok (.ifCond .eq 21, 3) := by decide +kernel
theorem dX12_disconnect_142 : decode cX12_disconnect 142 = .ok (.aload_n 0, 1) := by decide +kernel
theorem dX12_disconnect_143 : decode cX12_disconnect 143 = .ok (.getfield 61, 3) := by decide +kernel
theorem dX12_disconnect_146 : decode cX12_disconnect 146 = .ok (.iload_n 1, 1) := by decide +kernel
theorem dX12_disconnect_147 : decode cX12_disconnect 147 = .ok (.laload, 1) := by decide +kernel
theorem dX12_disconnect_148 : decode cX12_disconnect 148 = .ok (.lconst 0, 1) := by decide +kernel
theorem dX12_disconnect_149 : decode cX12_disconnect 149 = .ok (.lcmp, 1) := by decide +kernel
theorem dX12_disconnect_150 : decode cX12_disconnect 150 = .ok (.ifCond .ne 10, 3) := by decide +kernel
theorem dX12_disconnect_153 : decode cX12_disconnect 153 = .ok (.aload_n 0, 1) := by decide +kernel
theorem dX12_disconnect_154 : decode cX12_disconnect 154 = .ok (.sipush 130, 3) := by decide +kernel
theorem dX12_disconnect_157 : decode cX12_disconnect 157 = .ok (.invokevirtual 343, 3) := by decide +kernel
theorem dX12_disconnect_160 : decode cX12_disconnect 160 = .ok (.aload_n 0, 1) := by decide +kernel
theorem dX12_disconnect_161 : decode cX12_disconnect 161 = .ok (.getfield 283, 3) := by decide +kernel
theorem dX12_disconnect_164 : decode cX12_disconnect 164 = .ok (.ifCond .eq 4, 3) := by decide +kernel
theorem dX12_disconnect_167 : decode cX12_disconnect 167 = .ok (.return_, 1) := by decide +kernel
theorem dX12_disconnect_168 : decode cX12_disconnect 168 = .ok (.iload 4, 2) := by decide +kernel
theorem dX12_disconnect_170 : decode cX12_disconnect 170 = .ok (.ifCond .eq 16, 3) := by decide +kernel
theorem dX12_disconnect_173 : decode cX12_disconnect 173 = .ok (.aload_n 0, 1) := by decide +kernel
theorem dX12_disconnect_174 : decode cX12_disconnect 174 = .ok (.getfield 61, 3) := by decide +kernel
theorem dX12_disconnect_177 : decode cX12_disconnect 177 = .ok (.iload_n 1, 1) := by decide +kernel
theorem dX12_disconnect_178 : decode cX12_disconnect 178 = .ok (.aload_n 0, 1) := by decide +kernel
theorem dX12_disconnect_179 : decode cX12_disconnect 179 = .ok (.getfield 213, 3) := by decide +kernel
theorem dX12_disconnect_182 : decode cX12_disconnect 182 = .ok (.bipush 17, 2) := by decide +kernel
theorem dX12_disconnect_184 : decode cX12_disconnect 184 = .ok (.laload, 1) := by decide +kernel
theorem dX12_disconnect_185 : decode cX12_disconnect 185 = .ok (.lastore, 1) := by decide +kernel
theorem dX12_disconnect_186 : decode cX12_disconnect 186 = .ok (.iload_n 2, 1) := by decide +kernel
theorem dX12_disconnect_187 : decode cX12_disconnect 187 = .ok (.ifCond .ne 10, 3) := by decide +kernel
theorem dX12_disconnect_190 : decode cX12_disconnect 190 = .ok (.aload_n 0, 1) := by decide +kernel
theorem dX12_disconnect_191 : decode cX12_disconnect 191 = .ok (.getfield 74, 3) := by decide +kernel
theorem dX12_disconnect_194 : decode cX12_disconnect 194 = .ok (.iload_n 1, 1) := by decide +kernel
theorem dX12_disconnect_195 : decode cX12_disconnect 195 = .ok (.iconst (-1), 1) := by decide +kernel
theorem dX12_disconnect_196 : decode cX12_disconnect 196 = .ok (.iastore, 1) := by decide +kernel
theorem dX12_disconnect_197 : decode cX12_disconnect 197 = .ok (.aload_n 0, 1) := by decide +kernel
theorem dX12_disconnect_198 : decode cX12_disconnect 198 = .ok (.aload_n 0, 1) := by decide +kernel
theorem dX12_disconnect_199 : decode cX12_disconnect 199 = .ok (.getfield 271, 3) := by decide +kernel
theorem dX12_disconnect_202 : decode cX12_disconnect 202 = .ok (.invokevirtual 302, 3) := by decide +kernel
theorem dX12_disconnect_205 : decode cX12_disconnect 205 = .ok (.return_, 1) := by decide +kernel
theorem dX12_pass_0 : decode cX12_pass 0 = .ok (.aload_n 0, 1) := by decide +kernel
theorem dX12_pass_1 : decode cX12_pass 1 = .ok (.iload_n 1, 1) := by decide +kernel
theorem dX12_pass_2 : decode cX12_pass 2 = .ok (.ifCond .lt 10, 3) := by decide +kernel
theorem dX12_pass_5 : decode cX12_pass 5 = .ok (.iload_n 1, 1) := by decide +kernel
theorem dX12_pass_6 : decode cX12_pass 6 = .ok (.sipush 4000, 3) := by decide +kernel
theorem dX12_pass_9 : decode cX12_pass 9 = .ok (.if_icmp .le 7, 3) := by decide +kernel
theorem dX12_pass_12 : decode cX12_pass 12 = .ok (.iconst 1, 1) := by decide +kernel
theorem dX12_pass_13 : decode cX12_pass 13 = .ok (.goto 4, 3) := by decide +kernel
theorem dX12_pass_16 : decode cX12_pass 16 = .ok (.iconst 0, 1) := by decide +kernel
theorem dX12_pass_17 : decode cX12_pass 17 = .ok (.invokevirtual 253, 3) := by decide +kernel
theorem dX12_pass_20 : decode cX12_pass 20 = .ok (.ifCond .eq 5, 3) := by decide +kernel
theorem dX12_pass_23 : decode cX12_pass 23 = .ok (.iconst 0, 1) := by decide +kernel
theorem dX12_pass_24 : decode cX12_pass 24 = .ok (.ireturn, 1) := by decide +kernel
theorem dX12_pass_25 : decode cX12_pass 25 = .ok (.aload_n 0, 1) := by decide +kernel
theorem dX12_pass_26 : decode cX12_pass 26 = .ok (.getfield 334, 3) := by decide +kernel
theorem dX12_pass_29 : decode cX12_pass 29 = .ok (.istore_n 2, 1) := by decide +kernel
theorem dX12_pass_30 : decode cX12_pass 30 = .ok (.iconst 0, 1) := by decide +kernel
theorem dX12_pass_31 : decode cX12_pass 31 = .ok (.istore_n 3, 1) := by decide +kernel
theorem dX12_pass_32 : decode cX12_pass 32 = .ok (.iload_n 3, 1) := by decide +kernel
theorem dX12_pass_33 : decode cX12_pass 33 = .ok (.iload_n 1, 1) := by decide +kernel
theorem dX12_pass_34 : decode cX12_pass 34 = .ok (.if_icmp .ge 13, 3) := by decide +kernel
theorem dX12_pass_37 : decode cX12_pass 37 = .ok (.aload_n 0, 1) := by decide +kernel
theorem dX12_pass_38 : decode cX12_pass 38 = .ok (.invokevirtual 576, 3) := by decide +kernel
theorem dX12_pass_41 : decode cX12_pass 41 = .ok (.iinc 3 1, 3) := by decide +kernel
theorem dX12_pass_44 : decode cX12_pass 44 = .ok (.goto (-12), 3) := by decide +kernel
theorem dX12_pass_47 : decode cX12_pass 47 = .ok (.aload_n 0, 1) := by decide +kernel
theorem dX12_pass_48 : decode cX12_pass 48 = .ok (.getfield 334, 3) := by decide +kernel
theorem dX12_pass_51 : decode cX12_pass 51 = .ok (.iload_n 2, 1) := by decide +kernel
theorem dX12_pass_52 : decode cX12_pass 52 = .ok (.isub, 1) := by decide +kernel
theorem dX12_pass_53 : decode cX12_pass 53 = .ok (.ireturn, 1) := by decide +kernel
theorem dX12_second_0 : decode cX12_second 0 = .ok (.aload_n 0, 1) := by decide +kernel
theorem dX12_second_1 : decode cX12_second 1 = .ok (.dup, 1) := by decide +kernel
theorem dX12_second_2 : decode cX12_second 2 = .ok (.getfield 268, 3) := by decide +kernel
theorem dX12_second_5 : decode cX12_second 5 = .ok (.iconst 1, 1) := by decide +kernel
theorem dX12_second_6 : decode cX12_second 6 = .ok (.iadd, 1) := by decide +kernel
theorem dX12_second_7 : decode cX12_second 7 = .ok (.putfield 268, 3) := by decide +kernel
theorem dX12_second_10 : decode cX12_second 10 = .ok (.iconst 0, 1) := by decide +kernel
theorem dX12_second_11 : decode cX12_second 11 = .ok (.istore_n 1, 1) := by decide +kernel
theorem dX12_second_12 : decode cX12_second 12 = .ok (.iload_n 1, 1) := by decide +kernel
theorem dX12_second_13 : decode cX12_second 13 = .ok (.bipush 8, 2) := by decide +kernel
theorem dX12_second_15 : decode cX12_second 15 = .ok (.if_icmp .ge 94, 3) := by decide +kernel
theorem dX12_second_18 : decode cX12_second 18 = .ok (.aload_n 0, 1) := by decide +kernel
theorem dX12_second_19 : decode cX12_second 19 = .ok (.getfield 13, 3) := by decide +kernel
theorem dX12_second_22 : decode cX12_second 22 = .ok (.iload_n 1, 1) := by decide +kernel
theorem dX12_second_23 : decode cX12_second 23 = .ok (.baload, 1) := by decide +kernel
theorem dX12_second_24 : decode cX12_second 24 = .ok (.ifCond .eq 79, 3) := by decide +kernel
theorem dX12_second_27 : decode cX12_second 27 = .ok (.aload_n 0, 1) := by decide +kernel
theorem dX12_second_28 : decode cX12_second 28 = .ok (.getfield 34, 3) := by decide +kernel
theorem dX12_second_31 : decode cX12_second 31 = .ok (.iload_n 1, 1) := by decide +kernel
theorem dX12_second_32 : decode cX12_second 32 = .ok (.iaload, 1) := by decide +kernel
theorem dX12_second_33 : decode cX12_second 33 = .ok (.ifCond .ge 6, 3) := by decide +kernel
theorem dX12_second_36 : decode cX12_second 36 = .ok (.goto 67, 3) := by decide +kernel
theorem dX12_second_39 : decode cX12_second 39 = .ok (.aload_n 0, 1) := by decide +kernel
theorem dX12_second_40 : decode cX12_second 40 = .ok (.getfield 71, 3) := by decide +kernel
theorem dX12_second_43 : decode cX12_second 43 = .ok (.aload_n 0, 1) := by decide +kernel
theorem dX12_second_44 : decode cX12_second 44 = .ok (.getfield 34, 3) := by decide +kernel
theorem dX12_second_47 : decode cX12_second 47 = .ok (.iload_n 1, 1) := by decide +kernel
theorem dX12_second_48 : decode cX12_second 48 = .ok (.iaload, 1) := by decide +kernel
theorem dX12_second_49 : decode cX12_second 49 = .ok (.iaload, 1) := by decide +kernel
theorem dX12_second_50 : decode cX12_second 50 = .ok (.istore_n 2, 1) := by decide +kernel
theorem dX12_second_51 : decode cX12_second 51 = .ok (.iload_n 2, 1) := by decide +kernel
theorem dX12_second_52 : decode cX12_second 52 = .ok (.ifCond .eq 51, 3) := by decide +kernel
theorem dX12_second_55 : decode cX12_second 55 = .ok (.ldc2_w 579, 3) := by decide +kernel
theorem dX12_second_58 : decode cX12_second 58 = .ok (.aload_n 0, 1) := by decide +kernel
theorem dX12_second_59 : decode cX12_second 59 = .ok (.getfield 268, 3) := by decide +kernel
theorem dX12_second_62 : decode cX12_second 62 = .ok (.aload_n 0, 1) := by decide +kernel
theorem dX12_second_63 : decode cX12_second 63 = .ok (.getfield 37, 3) := by decide +kernel
theorem dX12_second_66 : decode cX12_second 66 = .ok (.iload_n 1, 1) := by decide +kernel
theorem dX12_second_67 : decode cX12_second 67 = .ok (.iaload, 1) := by decide +kernel
theorem dX12_second_68 : decode cX12_second 68 = .ok (.isub, 1) := by decide +kernel
theorem dX12_second_69 : decode cX12_second 69 = .ok (.i2l, 1) := by decide +kernel
theorem dX12_second_70 : decode cX12_second 70 = .ok (.lmul, 1) := by decide +kernel
theorem dX12_second_71 : decode cX12_second 71 = .ok (.ldc2_w 581, 3) := by decide +kernel
theorem dX12_second_74 : decode cX12_second 74 = .ok (.iload_n 2, 1) := by decide +kernel
theorem dX12_second_75 : decode cX12_second 75 = .ok (.i2l, 1) := by decide +kernel
theorem dX12_second_76 : decode cX12_second 76 = .ok (.lmul, 1) := by decide +kernel
theorem dX12_second_77 : decode cX12_second 77 = .ok (.lcmp, 1) := by decide +kernel
theorem dX12_second_78 : decode cX12_second 78 = .ok (.ifCond .gt 6, 3) := by decide +kernel
theorem dX12_second_81 : decode cX12_second 81 = .ok (.goto 22, 3) := by decide +kernel
theorem dX12_second_84 : decode cX12_second 84 = .ok (.aload_n 0, 1) := by decide +kernel
theorem dX12_second_85 : decode cX12_second 85 = .ok (.iload_n 1, 1) := by decide +kernel
theorem dX12_second_86 : decode cX12_second 86 = .ok (.sipush 224, 3) := by decide +kernel
theorem dX12_second_89 : decode cX12_second 89 = .ok (.iconst 2, 1) := by decide +kernel
theorem dX12_second_90 : decode cX12_second 90 = .ok (.sipush 141, 3) := by decide +kernel
theorem dX12_second_93 : decode cX12_second 93 = .ok (.iconst 0, 1) := by decide +kernel
theorem dX12_second_94 : decode cX12_second 94 = .ok (.iconst 4, 1) := by decide +kernel
theorem dX12_second_95 : decode cX12_second 95 = .ok (.invokevirtual 295, 3) := by decide +kernel
theorem dX12_second_98 : decode cX12_second 98 = .ok (.aload_n 0, 1) := by decide +kernel
theorem dX12_second_99 : decode cX12_second 99 = .ok (.iload_n 1, 1) := by decide +kernel
theorem dX12_second_100 : decode cX12_second 100 = .ok (.invokevirtual 302, 3) := by decide +kernel
theorem dX12_second_103 : decode cX12_second 103 = .ok (.iinc 1 1, 3) := by decide +kernel
theorem dX12_second_106 : decode cX12_second 106 = .ok (.goto (-94), 3) := by decide +kernel
theorem dX12_second_109 : decode cX12_second 109 = .ok (.iconst 0, 1) := by decide +kernel
theorem dX12_second_110 : decode cX12_second 110 = .ok (.istore_n 1, 1) := by decide +kernel
theorem dX12_second_111 : decode cX12_second 111 = .ok (.iload_n 1, 1) := by decide +kernel
theorem dX12_second_112 : decode cX12_second 112 = .ok (.bipush 12, 2) := by decide +kernel
theorem dX12_second_114 : decode cX12_second 114 = .ok (.if_icmp .ge 56, 3) := by decide +kernel
theorem dX12_second_117 : decode cX12_second 117 = .ok (.aload_n 0, 1) := by decide +kernel
theorem dX12_second_118 : decode cX12_second 118 = .ok (.getfield 46, 3) := by decide +kernel
theorem dX12_second_121 : decode cX12_second 121 = .ok (.iload_n 1, 1) := by decide +kernel
theorem dX12_second_122 : decode cX12_second 122 = .ok (.baload, 1) := by decide +kernel
theorem dX12_second_123 : decode cX12_second 123 = .ok (.ifCond .eq 41, 3) := by decide +kernel
theorem dX12_second_126 : decode cX12_second 126 = .ok (.aload_n 0, 1) := by decide +kernel
theorem dX12_second_127 : decode cX12_second 127 = .ok (.getfield 58, 3) := by decide +kernel
theorem dX12_second_130 : decode cX12_second 130 = .ok (.iload_n 1, 1) := by decide +kernel
theorem dX12_second_131 : decode cX12_second 131 = .ok (.iaload, 1) := by decide +kernel
theorem dX12_second_132 : decode cX12_second 132 = .ok (.ifCond .ge 32, 3) := by decide +kernel
theorem dX12_second_135 : decode cX12_second 135 = .ok (.aload_n 0, 1) := by decide +kernel
theorem dX12_second_136 : decode cX12_second 136 = .ok (.getfield 74, 3) := by decide +kernel
theorem dX12_second_139 : decode cX12_second 139 = .ok (.iload_n 1, 1) := by decide +kernel
theorem dX12_second_140 : decode cX12_second 140 = .ok (.iaload, 1) := by decide +kernel
theorem dX12_second_141 : decode cX12_second 141 = .ok (.ifCond .lt 23, 3) := by decide +kernel
theorem dX12_second_144 : decode cX12_second 144 = .ok (.aload_n 0, 1) := by decide +kernel
theorem dX12_second_145 : decode cX12_second 145 = .ok (.getfield 80, 3) := by decide +kernel
theorem dX12_second_148 : decode cX12_second 148 = .ok (.iload_n 1, 1) := by decide +kernel
theorem dX12_second_149 : decode cX12_second 149 = .ok (.laload, 1) := by decide +kernel
theorem dX12_second_150 : decode cX12_second 150 = .ok (.aload_n 0, 1) := by decide +kernel
theorem dX12_second_151 : decode cX12_second 151 = .ok (.getfield 268, 3) := by decide +kernel
theorem dX12_second_154 : decode cX12_second 154 = .ok (.i2l, 1) := by decide +kernel
theorem dX12_second_155 : decode cX12_second 155 = .ok (.lcmp, 1) := by decide +kernel
theorem dX12_second_156 : decode cX12_second 156 = .ok (.ifCond .gt 8, 3) := by decide +kernel
theorem dX12_second_159 : decode cX12_second 159 = .ok (.aload_n 0, 1) := by decide +kernel
theorem dX12_second_160 : decode cX12_second 160 = .ok (.iload_n 1, 1) := by decide +kernel
theorem dX12_second_161 : decode cX12_second 161 = .ok (.invokevirtual 318, 3) := by decide +kernel
theorem dX12_second_164 : decode cX12_second 164 = .ok (.iinc 1 1, 3) := by decide +kernel
theorem dX12_second_167 : decode cX12_second 167 = .ok (.goto (-56), 3) := by decide +kernel
theorem dX12_second_170 : decode cX12_second 170 = .ok (.iconst 0, 1) := by decide +kernel
theorem dX12_second_171 : decode cX12_second 171 = .ok (.istore_n 1, 1) := by decide +kernel
theorem dX12_second_172 : decode cX12_second 172 = .ok (.iload_n 1, 1) := by decide +kernel
theorem dX12_second_173 : decode cX12_second 173 = .ok (.bipush 12, 2) := by decide +kernel
theorem dX12_second_175 : decode cX12_second 175 = .ok (.if_icmp .ge 58, 3) := by decide +kernel
theorem dX12_second_178 : decode cX12_second 178 = .ok (.aload_n 0, 1) := by decide +kernel
theorem dX12_second_179 : decode cX12_second 179 = .ok (.getfield 46, 3) := by decide +kernel
theorem dX12_second_182 : decode cX12_second 182 = .ok (.iload_n 1, 1) := by decide +kernel
theorem dX12_second_183 : decode cX12_second 183 = .ok (.baload, 1) := by decide +kernel
theorem dX12_second_184 : decode cX12_second 184 = .ok (.ifCond .eq 43, 3) := by decide +kernel
theorem dX12_second_187 : decode cX12_second 187 = .ok (.aload_n 0, 1) := by decide +kernel
theorem dX12_second_188 : decode cX12_second 188 = .ok (.getfield 58, 3) := by decide +kernel
theorem dX12_second_191 : decode cX12_second 191 = .ok (.iload_n 1, 1) := by decide +kernel
theorem dX12_second_192 : decode cX12_second 192 = .ok (.iaload, 1) := by decide +kernel
theorem dX12_second_193 : decode cX12_second 193 = .ok (.ifCond .ge 34, 3) := by decide +kernel
theorem dX12_second_196 : decode cX12_second 196 = .ok (.aload_n 0, 1) := by decide +kernel
theorem dX12_second_197 : decode cX12_second 197 = .ok (.getfield 83, 3) := by decide +kernel
theorem dX12_second_200 : decode cX12_second 200 = .ok (.iload_n 1, 1) := by decide +kernel
theorem dX12_second_201 : decode cX12_second 201 = .ok (.laload, 1) := by decide +kernel
theorem dX12_second_202 : decode cX12_second 202 = .ok (.lconst 0, 1) := by decide +kernel
theorem dX12_second_203 : decode cX12_second 203 = .ok (.lcmp, 1) := by decide +kernel
theorem dX12_second_204 : decode cX12_second 204 = .ok (.ifCond .lt 23, 3) := by decide +kernel
theorem dX12_second_207 : decode cX12_second 207 = .ok (.aload_n 0, 1) := by decide +kernel
theorem dX12_second_208 : decode cX12_second 208 = .ok (.getfield 83, 3) := by decide +kernel
theorem dX12_second_211 : decode cX12_second 211 = .ok (.iload_n 1, 1) := by decide +kernel
theorem dX12_second_212 : decode cX12_second 212 = .ok (.laload, 1) := by decide +kernel
theorem dX12_second_213 : decode cX12_second 213 = .ok (.aload_n 0, 1) := by decide +kernel
theorem dX12_second_214 : decode cX12_second 214 = .ok (.getfield 268, 3) := by decide +kernel
theorem dX12_second_217 : decode cX12_second 217 = .ok (.i2l, 1) := by decide +kernel
theorem dX12_second_218 : decode cX12_second 218 = .ok (.lcmp, 1) := by decide +kernel
theorem dX12_second_219 : decode cX12_second 219 = .ok (.ifCond .gt 8, 3) := by decide +kernel
theorem dX12_second_222 : decode cX12_second 222 = .ok (.aload_n 0, 1) := by decide +kernel
theorem dX12_second_223 : decode cX12_second 223 = .ok (.iload_n 1, 1) := by decide +kernel
theorem dX12_second_224 : decode cX12_second 224 = .ok (.invokevirtual 321, 3) := by decide +kernel
theorem dX12_second_227 : decode cX12_second 227 = .ok (.iinc 1 1, 3) := by decide +kernel
theorem dX12_second_230 : decode cX12_second 230 = .ok (.goto (-58), 3) := by decide +kernel
theorem dX12_second_233 : decode cX12_second 233 = .ok (.aload_n 0, 1) := by decide +kernel
theorem dX12_second_234 : decode cX12_second 234 = .ok (.invokevirtual 292, 3) := by decide +kernel
theorem dX12_second_237 : decode cX12_second 237 = .ok (.return_, 1) := by decide +kernel
theorem dX12_isSession_0 : decode cX12_isSession 0 = .ok (.aload_n 0, 1) := by decide +kernel
theorem dX12_isSession_1 : decode cX12_isSession 1 = .ok (.iconst 0, 1) := by decide +kernel
theorem dX12_isSession_2 : decode cX12_isSession 2 = .ok (.putfield 1, 3) := by decide +kernel
theorem dX12_isSession_5 : decode cX12_isSession 5 = .ok (.aload_n 0, 1) := by decide +kernel
theorem dX12_isSession_6 : decode cX12_isSession 6 = .ok (.iload_n 1, 1) := by decide +kernel
theorem dX12_isSession_7 : decode cX12_isSession 7 = .ok (.invokevirtual 583, 3) := by decide +kernel
theorem dX12_isSession_10 : decode cX12_isSession 10 = .ok (.ireturn, 1) := by decide +kernel
theorem dX12_session_0 : decode cX12_session 0 = .ok (.aload_n 0, 1) := by decide +kernel
theorem dX12_session_1 : decode cX12_session 1 = .ok (.aload_n 0, 1) := by decide +kernel
theorem dX12_session_2 : decode cX12_session 2 = .ok (.iload_n 1, 1) := by decide +kernel
theorem dX12_session_3 : decode cX12_session 3 = .ok (.invokevirtual 583, 3) := by decide +kernel
theorem dX12_session_6 : decode cX12_session 6 = .ok (.ifCond .ne 7, 3) := by decide +kernel
theorem dX12_session_9 : decode cX12_session 9 = .ok (.iconst 1, 1) := by decide +kernel
theorem dX12_session_10 : decode cX12_session 10 = .ok (.goto 18, 3) := by decide +kernel
theorem dX12_session_13 : decode cX12_session 13 = .ok (.iload_n 2, 1) := by decide +kernel
theorem dX12_session_14 : decode cX12_session 14 = .ok (.ifCond .lt 9, 3) := by decide +kernel
theorem dX12_session_17 : decode cX12_session 17 = .ok (.iload_n 2, 1) := by decide +kernel
theorem dX12_session_18 : decode cX12_session 18 = .ok (.bipush 8, 2) := by decide +kernel
theorem dX12_session_20 : decode cX12_session 20 = .ok (.if_icmp .le 7, 3) := by decide +kernel
theorem dX12_session_23 : decode cX12_session 23 = .ok (.iconst 2, 1) := by decide +kernel
theorem dX12_session_24 : decode cX12_session 24 = .ok (.goto 4, 3) := by decide +kernel
theorem dX12_session_27 : decode cX12_session 27 = .ok (.iconst 0, 1) := by decide +kernel
theorem dX12_session_28 : decode cX12_session 28 = .ok (.invokevirtual 253, 3) := by decide +kernel
theorem dX12_session_31 : decode cX12_session 31 = .ok (.ifCond .eq 5, 3) := by decide +kernel
theorem dX12_session_34 : decode cX12_session 34 = .ok (.iconst 0, 1) := by decide +kernel
theorem dX12_session_35 : decode cX12_session 35 = .ok (.ireturn, 1) := by decide +kernel
theorem dX12_session_36 : decode cX12_session 36 = .ok (.iload_n 2, 1) := by decide +kernel
theorem dX12_session_37 : decode cX12_session 37 = .ok (.tableswitch 111 0 7 #[47, 54, 61, 68, 75, 82, 97, 104], 47) := by decide +kernel
theorem dX12_session_84 : decode cX12_session 84 = .ok (.aload_n 0, 1) := by decide +kernel
theorem dX12_session_85 : decode cX12_session 85 = .ok (.getfield 58, 3) := by decide +kernel
theorem dX12_session_88 : decode cX12_session 88 = .ok (.iload_n 1, 1) := by decide +kernel
theorem dX12_session_89 : decode cX12_session 89 = .ok (.iaload, 1) := by decide +kernel
theorem dX12_session_90 : decode cX12_session 90 = .ok (.ireturn, 1) := by decide +kernel
theorem dX12_session_91 : decode cX12_session 91 = .ok (.aload_n 0, 1) := by decide +kernel
theorem dX12_session_92 : decode cX12_session 92 = .ok (.getfield 86, 3) := by decide +kernel
theorem dX12_session_95 : decode cX12_session 95 = .ok (.iload_n 1, 1) := by decide +kernel
theorem dX12_session_96 : decode cX12_session 96 = .ok (.iaload, 1) := by decide +kernel
theorem dX12_session_97 : decode cX12_session 97 = .ok (.ireturn, 1) := by decide +kernel
theorem dX12_session_98 : decode cX12_session 98 = .ok (.aload_n 0, 1) := by decide +kernel
theorem dX12_session_99 : decode cX12_session 99 = .ok (.getfield 107, 3) := by decide +kernel
theorem dX12_session_102 : decode cX12_session 102 = .ok (.iload_n 1, 1) := by decide +kernel
theorem dX12_session_103 : decode cX12_session 103 = .ok (.iaload, 1) := by decide +kernel
theorem dX12_session_104 : decode cX12_session 104 = .ok (.ireturn, 1) := by decide +kernel
theorem dX12_session_105 : decode cX12_session 105 = .ok (.aload_n 0, 1) := by decide +kernel
theorem dX12_session_106 : decode cX12_session 106 = .ok (.getfield 128, 3) := by decide +kernel
theorem dX12_session_109 : decode cX12_session 109 = .ok (.iload_n 1, 1) := by decide +kernel
theorem dX12_session_110 : decode cX12_session 110 = .ok (.iaload, 1) := by decide +kernel
theorem dX12_session_111 : decode cX12_session 111 = .ok (.ireturn, 1) := by decide +kernel
theorem dX12_session_112 : decode cX12_session 112 = .ok (.aload_n 0, 1) := by decide +kernel
theorem dX12_session_113 : decode cX12_session 113 = .ok (.getfield 143, 3) := by decide +kernel
theorem dX12_session_116 : decode cX12_session 116 = .ok (.iload_n 1, 1) := by decide +kernel
theorem dX12_session_117 : decode cX12_session 117 = .ok (.iaload, 1) := by decide +kernel
theorem dX12_session_118 : decode cX12_session 118 = .ok (.ireturn, 1) := by decide +kernel
theorem dX12_session_119 : decode cX12_session 119 = .ok (.aload_n 0, 1) := by decide +kernel
theorem dX12_session_120 : decode cX12_session 120 = .ok (.getfield 74, 3) := by decide +kernel
theorem dX12_session_123 : decode cX12_session 123 = .ok (.iload_n 1, 1) := by decide +kernel
theorem dX12_session_124 : decode cX12_session 124 = .ok (.iaload, 1) := by decide +kernel
theorem dX12_session_125 : decode cX12_session 125 = .ok (.ifCond .lt 7, 3) := by decide +kernel
theorem dX12_session_128 : decode cX12_session 128 = .ok (.iconst 1, 1) := by decide +kernel
theorem dX12_session_129 : decode cX12_session 129 = .ok (.goto 4, 3) := by decide +kernel
theorem dX12_session_132 : decode cX12_session 132 = .ok (.iconst 0, 1) := by decide +kernel
theorem dX12_session_133 : decode cX12_session 133 = .ok (.ireturn, 1) := by decide +kernel
theorem dX12_session_134 : decode cX12_session 134 = .ok (.aload_n 0, 1) := by decide +kernel
theorem dX12_session_135 : decode cX12_session 135 = .ok (.getfield 52, 3) := by decide +kernel
theorem dX12_session_138 : decode cX12_session 138 = .ok (.iload_n 1, 1) := by decide +kernel
theorem dX12_session_139 : decode cX12_session 139 = .ok (.iaload, 1) := by decide +kernel
theorem dX12_session_140 : decode cX12_session 140 = .ok (.ireturn, 1) := by decide +kernel
theorem dX12_session_141 : decode cX12_session 141 = .ok (.aload_n 0, 1) := by decide +kernel
theorem dX12_session_142 : decode cX12_session 142 = .ok (.getfield 71, 3) := by decide +kernel
theorem dX12_session_145 : decode cX12_session 145 = .ok (.iload_n 1, 1) := by decide +kernel
theorem dX12_session_146 : decode cX12_session 146 = .ok (.iaload, 1) := by decide +kernel
theorem dX12_session_147 : decode cX12_session 147 = .ok (.ireturn, 1) := by decide +kernel
theorem dX12_session_148 : decode cX12_session 148 = .ok (.aload_n 0, 1) := by decide +kernel
theorem dX12_session_149 : decode cX12_session 149 = .ok (.getfield 65, 3) := by decide +kernel
theorem dX12_session_152 : decode cX12_session 152 = .ok (.iload_n 1, 1) := by decide +kernel
theorem dX12_session_153 : decode cX12_session 153 = .ok (.iaload, 1) := by decide +kernel
theorem dX12_session_154 : decode cX12_session 154 = .ok (.ireturn, 1) := by decide +kernel
theorem dX12_expiry_0 : decode cX12_expiry 0 = .ok (.aload_n 0, 1) := by decide +kernel
theorem dX12_expiry_1 : decode cX12_expiry 1 = .ok (.aload_n 0, 1) := by decide +kernel
theorem dX12_expiry_2 : decode cX12_expiry 2 = .ok (.iload_n 1, 1) := by decide +kernel
theorem dX12_expiry_3 : decode cX12_expiry 3 = .ok (.invokevirtual 583, 3) := by decide +kernel
theorem dX12_expiry_6 : decode cX12_expiry 6 = .ok (.ifCond .eq 7, 3) := by decide +kernel
theorem dX12_expiry_9 : decode cX12_expiry 9 = .ok (.iconst 0, 1) := by decide +kernel
theorem dX12_expiry_10 : decode cX12_expiry 10 = .ok (.goto 4, 3) := by decide +kernel
theorem dX12_expiry_13 : decode cX12_expiry 13 = .ok (.iconst 1, 1) := by decide +kernel
theorem dX12_expiry_14 : decode cX12_expiry 14 = .ok (.invokevirtual 253, 3) := by decide +kernel
theorem dX12_expiry_17 : decode cX12_expiry 17 = .ok (.ifCond .eq 7, 3) := by decide +kernel
theorem dX12_expiry_20 : decode cX12_expiry 20 = .ok (.lconst 0, 1) := by decide +kernel
theorem dX12_expiry_21 : decode cX12_expiry 21 = .ok (.goto 9, 3) := by decide +kernel
theorem dX12_expiry_24 : decode cX12_expiry 24 = .ok (.aload_n 0, 1) := by decide +kernel
theorem dX12_expiry_25 : decode cX12_expiry 25 = .ok (.getfield 61, 3) := by decide +kernel
theorem dX12_expiry_28 : decode cX12_expiry 28 = .ok (.iload_n 1, 1) := by decide +kernel
theorem dX12_expiry_29 : decode cX12_expiry 29 = .ok (.laload, 1) := by decide +kernel
theorem dX12_expiry_30 : decode cX12_expiry 30 = .ok (.lreturn, 1) := by decide +kernel
theorem dX12_id_0 : decode cX12_id 0 = .ok (.aload_n 0, 1) := by decide +kernel
theorem dX12_id_1 : decode cX12_id 1 = .ok (.aload_n 0, 1) := by decide +kernel
theorem dX12_id_2 : decode cX12_id 2 = .ok (.iload_n 1, 1) := by decide +kernel
theorem dX12_id_3 : decode cX12_id 3 = .ok (.invokevirtual 583, 3) := by decide +kernel
theorem dX12_id_6 : decode cX12_id 6 = .ok (.ifCond .eq 7, 3) := by decide +kernel
theorem dX12_id_9 : decode cX12_id 9 = .ok (.iconst 0, 1) := by decide +kernel
theorem dX12_id_10 : decode cX12_id 10 = .ok (.goto 4, 3) := by decide +kernel
theorem dX12_id_13 : decode cX12_id 13 = .ok (.iconst 1, 1) := by decide +kernel
theorem dX12_id_14 : decode cX12_id 14 = .ok (.invokevirtual 253, 3) := by decide +kernel
theorem dX12_id_17 : decode cX12_id 17 = .ok (.ifCond .eq 5, 3) := by decide +kernel
theorem dX12_id_20 : decode cX12_id 20 = .ok (.iconst 0, 1) := by decide +kernel
theorem dX12_id_21 : decode cX12_id 21 = .ok (.ireturn, 1) := by decide +kernel
theorem dX12_id_22 : decode cX12_id 22 = .ok (.iload_n 2, 1) := by decide +kernel
theorem dX12_id_23 : decode cX12_id 23 = .ok (.ifCond .lt 31, 3) := by decide +kernel
theorem dX12_id_26 : decode cX12_id 26 = .ok (.iload_n 2, 1) := by decide +kernel
theorem dX12_id_27 : decode cX12_id 27 = .ok (.aload_n 0, 1) := by decide +kernel
theorem dX12_id_28 : decode cX12_id 28 = .ok (.getfield 52, 3) := by decide +kernel
theorem dX12_id_31 : decode cX12_id 31 = .ok (.iload_n 1, 1) := by decide +kernel
theorem dX12_id_32 : decode cX12_id 32 = .ok (.iaload, 1) := by decide +kernel
theorem dX12_id_33 : decode cX12_id 33 = .ok (.if_icmp .ge 21, 3) := by decide +kernel
theorem dX12_id_36 : decode cX12_id 36 = .ok (.aload_n 0, 1) := by decide +kernel
theorem dX12_id_37 : decode cX12_id 37 = .ok (.getfield 55, 3) := by decide +kernel
theorem dX12_id_40 : decode cX12_id 40 = .ok (.bipush 20, 2) := by decide +kernel
theorem dX12_id_42 : decode cX12_id 42 = .ok (.iload_n 1, 1) := by decide +kernel
theorem dX12_id_43 : decode cX12_id 43 = .ok (.imul, 1) := by decide +kernel
theorem dX12_id_44 : decode cX12_id 44 = .ok (.iload_n 2, 1) := by decide +kernel
theorem dX12_id_45 : decode cX12_id 45 = .ok (.iadd, 1) := by decide +kernel
theorem dX12_id_46 : decode cX12_id 46 = .ok (.baload, 1) := by decide +kernel
theorem dX12_id_47 : decode cX12_id 47 = .ok (.sipush 255, 3) := by decide +kernel
theorem dX12_id_50 : decode cX12_id 50 = .ok (.iand, 1) := by decide +kernel
theorem dX12_id_51 : decode cX12_id 51 = .ok (.goto 4, 3) := by decide +kernel
theorem dX12_id_54 : decode cX12_id 54 = .ok (.iconst (-1), 1) := by decide +kernel
theorem dX12_id_55 : decode cX12_id 55 = .ok (.ireturn, 1) := by decide +kernel
theorem dX12_hasSub_0 : decode cX12_hasSub 0 = .ok (.aload_n 0, 1) := by decide +kernel
theorem dX12_hasSub_1 : decode cX12_hasSub 1 = .ok (.iload_n 1, 1) := by decide +kernel
theorem dX12_hasSub_2 : decode cX12_hasSub 2 = .ok (.invokevirtual 583, 3) := by decide +kernel
theorem dX12_hasSub_5 : decode cX12_hasSub 5 = .ok (.ifCond .eq 21, 3) := by decide +kernel
theorem dX12_hasSub_8 : decode cX12_hasSub 8 = .ok (.iload_n 2, 1) := by decide +kernel
theorem dX12_hasSub_9 : decode cX12_hasSub 9 = .ok (.ifCond .lt 17, 3) := by decide +kernel
theorem dX12_hasSub_12 : decode cX12_hasSub 12 = .ok (.iload_n 2, 1) := by decide +kernel
theorem dX12_hasSub_13 : decode cX12_hasSub 13 = .ok (.aload_n 0, 1) := by decide +kernel
theorem dX12_hasSub_14 : decode cX12_hasSub 14 = .ok (.getfield 86, 3) := by decide +kernel
theorem dX12_hasSub_17 : decode cX12_hasSub 17 = .ok (.iload_n 1, 1) := by decide +kernel
theorem dX12_hasSub_18 : decode cX12_hasSub 18 = .ok (.iaload, 1) := by decide +kernel
theorem dX12_hasSub_19 : decode cX12_hasSub 19 = .ok (.if_icmp .ge 7, 3) := by decide +kernel
theorem dX12_hasSub_22 : decode cX12_hasSub 22 = .ok (.iconst 1, 1) := by decide +kernel
theorem dX12_hasSub_23 : decode cX12_hasSub 23 = .ok (.goto 4, 3) := by decide +kernel
theorem dX12_hasSub_26 : decode cX12_hasSub 26 = .ok (.iconst 0, 1) := by decide +kernel
theorem dX12_hasSub_27 : decode cX12_hasSub 27 = .ok (.ireturn, 1) := by decide +kernel
theorem dX12_subscription_0 : decode cX12_subscription 0 = .ok (.aload_n 0, 1) := by decide +kernel
theorem dX12_subscription_1 : decode cX12_subscription 1 = .ok (.aload_n 0, 1) := by decide +kernel
theorem dX12_subscription_2 : decode cX12_subscription 2 = .ok (.iload_n 1, 1) := by decide +kernel
theorem dX12_subscription_3 : decode cX12_subscription 3 = .ok (.iload_n 2, 1) := by decide +kernel
theorem dX12_subscription_4 : decode cX12_subscription 4 = .ok (.invokevirtual 586, 3) := by decide +kernel
theorem dX12_subscription_7 : decode cX12_subscription 7 = .ok (.ifCond .ne 7, 3) := by decide +kernel
theorem dX12_subscription_10 : decode cX12_subscription 10 = .ok (.iconst 1, 1) := by decide +kernel
theorem dX12_subscription_11 : decode cX12_subscription 11 = .ok (.goto 17, 3) := by decide +kernel
theorem dX12_subscription_14 : decode cX12_subscription 14 = .ok (.iload_n 3, 1) := by decide +kernel
theorem dX12_subscription_15 : decode cX12_subscription 15 = .ok (.ifCond .lt 8, 3) := by decide +kernel
theorem dX12_subscription_18 : decode cX12_subscription 18 = .ok (.iload_n 3, 1) := by decide +kernel
theorem dX12_subscription_19 : decode cX12_subscription 19 = .ok (.iconst 3, 1) := by decide +kernel
theorem dX12_subscription_20 : decode cX12_subscription 20 = .ok (.if_icmp .le 7, 3) := by decide +kernel
theorem dX12_subscription_23 : decode cX12_subscription 23 = .ok (.iconst 2, 1) := by decide +kernel
theorem dX12_subscription_24 : decode cX12_subscription 24 = .ok (.goto 4, 3) := by decide +kernel
theorem dX12_subscription_27 : decode cX12_subscription 27 = .ok (.iconst 0, 1) := by decide +kernel
theorem dX12_subscription_28 : decode cX12_subscription 28 = .ok (.invokevirtual 253, 3) := by decide +kernel
theorem dX12_subscription_31 : decode cX12_subscription 31 = .ok (.ifCond .eq 5, 3) := by decide +kernel
theorem dX12_subscription_34 : decode cX12_subscription 34 = .ok (.iconst 0, 1) := by decide +kernel
theorem dX12_subscription_35 : decode cX12_subscription 35 = .ok (.ireturn, 1) := by decide +kernel
theorem dX12_subscription_36 : decode cX12_subscription 36 = .ok (.bipush 8, 2) := by decide +kernel
theorem dX12_subscription_38 : decode cX12_subscription 38 = .ok (.iload_n 1, 1) := by decide +kernel
theorem dX12_subscription_39 : decode cX12_subscription 39 = .ok (.imul, 1) := by decide +kernel
theorem dX12_subscription_40 : decode cX12_subscription 40 = .ok (.iload_n 2, 1) := by decide +kernel
theorem dX12_subscription_41 : decode cX12_subscription 41 = .ok (.iadd, 1) := by decide +kernel
theorem dX12_subscription_42 : decode cX12_subscription 42 = .ok (.istore 4, 2) := by decide +kernel
theorem dX12_subscription_44 : decode cX12_subscription 44 = .ok (.iload_n 3, 1) := by decide +kernel
theorem dX12_subscription_45 : decode cX12_subscription 45 = .ok (.ifCond .ne 13, 3) := by decide +kernel
theorem dX12_subscription_48 : decode cX12_subscription 48 = .ok (.aload_n 0, 1) := by decide +kernel
theorem dX12_subscription_49 : decode cX12_subscription 49 = .ok (.getfield 95, 3) := by decide +kernel
theorem dX12_subscription_52 : decode cX12_subscription 52 = .ok (.iload 4, 2) := by decide +kernel
theorem dX12_subscription_54 : decode cX12_subscription 54 = .ok (.iaload, 1) := by decide +kernel
theorem dX12_subscription_55 : decode cX12_subscription 55 = .ok (.goto 40, 3) := by decide +kernel
theorem dX12_subscription_58 : decode cX12_subscription 58 = .ok (.iload_n 3, 1) := by decide +kernel
theorem dX12_subscription_59 : decode cX12_subscription 59 = .ok (.iconst 1, 1) := by decide +kernel
theorem dX12_subscription_60 : decode cX12_subscription 60 = .ok (.if_icmp .ne 13, 3) := by decide +kernel
theorem dX12_subscription_63 : decode cX12_subscription 63 = .ok (.aload_n 0, 1) := by decide +kernel
theorem dX12_subscription_64 : decode cX12_subscription 64 = .ok (.getfield 98, 3) := by decide +kernel
theorem dX12_subscription_67 : decode cX12_subscription 67 = .ok (.iload 4, 2) := by decide +kernel
theorem dX12_subscription_69 : decode cX12_subscription 69 = .ok (.iaload, 1) := by decide +kernel
theorem dX12_subscription_70 : decode cX12_subscription 70 = .ok (.goto 25, 3) := by decide +kernel
theorem dX12_subscription_73 : decode cX12_subscription 73 = .ok (.iload_n 3, 1) := by decide +kernel
theorem dX12_subscription_74 : decode cX12_subscription 74 = .ok (.iconst 2, 1) := by decide +kernel
theorem dX12_subscription_75 : decode cX12_subscription 75 = .ok (.if_icmp .ne 13, 3) := by decide +kernel
theorem dX12_subscription_78 : decode cX12_subscription 78 = .ok (.aload_n 0, 1) := by decide +kernel
theorem dX12_subscription_79 : decode cX12_subscription 79 = .ok (.getfield 89, 3) := by decide +kernel
theorem dX12_subscription_82 : decode cX12_subscription 82 = .ok (.iload 4, 2) := by decide +kernel
theorem dX12_subscription_84 : decode cX12_subscription 84 = .ok (.iaload, 1) := by decide +kernel
theorem dX12_subscription_85 : decode cX12_subscription 85 = .ok (.goto 10, 3) := by decide +kernel
theorem dX12_subscription_88 : decode cX12_subscription 88 = .ok (.aload_n 0, 1) := by decide +kernel
theorem dX12_subscription_89 : decode cX12_subscription 89 = .ok (.getfield 101, 3) := by decide +kernel
theorem dX12_subscription_92 : decode cX12_subscription 92 = .ok (.iload 4, 2) := by decide +kernel
theorem dX12_subscription_94 : decode cX12_subscription 94 = .ok (.iaload, 1) := by decide +kernel
theorem dX12_subscription_95 : decode cX12_subscription 95 = .ok (.ireturn, 1) := by decide +kernel
theorem dX12_filter_0 : decode cX12_filter 0 = .ok (.aload_n 0, 1) := by decide +kernel
theorem dX12_filter_1 : decode cX12_filter 1 = .ok (.aload_n 0, 1) := by decide +kernel
theorem dX12_filter_2 : decode cX12_filter 2 = .ok (.iload_n 1, 1) := by decide +kernel
theorem dX12_filter_3 : decode cX12_filter 3 = .ok (.iload_n 2, 1) := by decide +kernel
theorem dX12_filter_4 : decode cX12_filter 4 = .ok (.invokevirtual 586, 3) := by decide +kernel
theorem dX12_filter_7 : decode cX12_filter 7 = .ok (.ifCond .eq 7, 3) := by decide +kernel
theorem dX12_filter_10 : decode cX12_filter 10 = .ok (.iconst 0, 1) := by decide +kernel
theorem dX12_filter_11 : decode cX12_filter 11 = .ok (.goto 4, 3) := by decide +kernel
theorem dX12_filter_14 : decode cX12_filter 14 = .ok (.iconst 1, 1) := by decide +kernel
theorem dX12_filter_15 : decode cX12_filter 15 = .ok (.invokevirtual 253, 3) := by decide +kernel
theorem dX12_filter_18 : decode cX12_filter 18 = .ok (.ifCond .eq 5, 3) := by decide +kernel
theorem dX12_filter_21 : decode cX12_filter 21 = .ok (.iconst 0, 1) := by decide +kernel
theorem dX12_filter_22 : decode cX12_filter 22 = .ok (.ireturn, 1) := by decide +kernel
theorem dX12_filter_23 : decode cX12_filter 23 = .ok (.bipush 8, 2) := by decide +kernel
theorem dX12_filter_25 : decode cX12_filter 25 = .ok (.iload_n 1, 1) := by decide +kernel
theorem dX12_filter_26 : decode cX12_filter 26 = .ok (.imul, 1) := by decide +kernel
theorem dX12_filter_27 : decode cX12_filter 27 = .ok (.iload_n 2, 1) := by decide +kernel
theorem dX12_filter_28 : decode cX12_filter 28 = .ok (.iadd, 1) := by decide +kernel
theorem dX12_filter_29 : decode cX12_filter 29 = .ok (.istore 4, 2) := by decide +kernel
theorem dX12_filter_31 : decode cX12_filter 31 = .ok (.iload_n 3, 1) := by decide +kernel
theorem dX12_filter_32 : decode cX12_filter 32 = .ok (.ifCond .lt 33, 3) := by decide +kernel
theorem dX12_filter_35 : decode cX12_filter 35 = .ok (.iload_n 3, 1) := by decide +kernel
theorem dX12_filter_36 : decode cX12_filter 36 = .ok (.aload_n 0, 1) := by decide +kernel
theorem dX12_filter_37 : decode cX12_filter 37 = .ok (.getfield 89, 3) := by decide +kernel
theorem dX12_filter_40 : decode cX12_filter 40 = .ok (.iload 4, 2) := by decide +kernel
theorem dX12_filter_42 : decode cX12_filter 42 = .ok (.iaload, 1) := by decide +kernel
theorem dX12_filter_43 : decode cX12_filter 43 = .ok (.if_icmp .ge 22, 3) := by decide +kernel
theorem dX12_filter_46 : decode cX12_filter 46 = .ok (.aload_n 0, 1) := by decide +kernel
theorem dX12_filter_47 : decode cX12_filter 47 = .ok (.getfield 92, 3) := by decide +kernel
theorem dX12_filter_50 : decode cX12_filter 50 = .ok (.bipush 64, 2) := by decide +kernel
theorem dX12_filter_52 : decode cX12_filter 52 = .ok (.iload 4, 2) := by decide +kernel
theorem dX12_filter_54 : decode cX12_filter 54 = .ok (.imul, 1) := by decide +kernel
theorem dX12_filter_55 : decode cX12_filter 55 = .ok (.iload_n 3, 1) := by decide +kernel
theorem dX12_filter_56 : decode cX12_filter 56 = .ok (.iadd, 1) := by decide +kernel
theorem dX12_filter_57 : decode cX12_filter 57 = .ok (.baload, 1) := by decide +kernel
theorem dX12_filter_58 : decode cX12_filter 58 = .ok (.sipush 255, 3) := by decide +kernel
theorem dX12_filter_61 : decode cX12_filter 61 = .ok (.iand, 1) := by decide +kernel
theorem dX12_filter_62 : decode cX12_filter 62 = .ok (.goto 4, 3) := by decide +kernel
theorem dX12_filter_65 : decode cX12_filter 65 = .ok (.iconst (-1), 1) := by decide +kernel
theorem dX12_filter_66 : decode cX12_filter 66 = .ok (.ireturn, 1) := by decide +kernel
theorem dX12_retained_0 : decode cX12_retained 0 = .ok (.aload_n 0, 1) := by decide +kernel
theorem dX12_retained_1 : decode cX12_retained 1 = .ok (.iload_n 2, 1) := by decide +kernel
theorem dX12_retained_2 : decode cX12_retained 2 = .ok (.ifCond .lt 8, 3) := by decide +kernel
theorem dX12_retained_5 : decode cX12_retained 5 = .ok (.iload_n 2, 1) := by decide +kernel
theorem dX12_retained_6 : decode cX12_retained 6 = .ok (.iconst 3, 1) := by decide +kernel
theorem dX12_retained_7 : decode cX12_retained 7 = .ok (.if_icmp .le 7, 3) := by decide +kernel
theorem dX12_retained_10 : decode cX12_retained 10 = .ok (.iconst 1, 1) := by decide +kernel
theorem dX12_retained_11 : decode cX12_retained 11 = .ok (.goto 4, 3) := by decide +kernel
theorem dX12_retained_14 : decode cX12_retained 14 = .ok (.iconst 0, 1) := by decide +kernel
theorem dX12_retained_15 : decode cX12_retained 15 = .ok (.invokevirtual 253, 3) := by decide +kernel
theorem dX12_retained_18 : decode cX12_retained 18 = .ok (.ifCond .eq 5, 3) := by decide +kernel
theorem dX12_retained_21 : decode cX12_retained 21 = .ok (.iconst 0, 1) := by decide +kernel
theorem dX12_retained_22 : decode cX12_retained 22 = .ok (.ireturn, 1) := by decide +kernel
theorem dX12_retained_23 : decode cX12_retained 23 = .ok (.aload_n 0, 1) := by decide +kernel
theorem dX12_retained_24 : decode cX12_retained 24 = .ok (.invokevirtual 486, 3) := by decide +kernel
theorem dX12_retained_27 : decode cX12_retained 27 = .ok (.iload_n 1, 1) := by decide +kernel
theorem dX12_retained_28 : decode cX12_retained 28 = .ok (.ifCond .lt 11, 3) := by decide +kernel
theorem dX12_retained_31 : decode cX12_retained 31 = .ok (.iload_n 1, 1) := by decide +kernel
theorem dX12_retained_32 : decode cX12_retained 32 = .ok (.aload_n 0, 1) := by decide +kernel
theorem dX12_retained_33 : decode cX12_retained 33 = .ok (.getfield 476, 3) := by decide +kernel
theorem dX12_retained_36 : decode cX12_retained 36 = .ok (.if_icmp .lt 5, 3) := by decide +kernel
theorem dX12_retained_39 : decode cX12_retained 39 = .ok (.iconst (-1), 1) := by decide +kernel
theorem dX12_retained_40 : decode cX12_retained 40 = .ok (.ireturn, 1) := by decide +kernel
theorem dX12_retained_41 : decode cX12_retained 41 = .ok (.aload_n 0, 1) := by decide +kernel
theorem dX12_retained_42 : decode cX12_retained 42 = .ok (.getfield 207, 3) := by decide +kernel
theorem dX12_retained_45 : decode cX12_retained 45 = .ok (.iload_n 1, 1) := by decide +kernel
theorem dX12_retained_46 : decode cX12_retained 46 = .ok (.iaload, 1) := by decide +kernel
theorem dX12_retained_47 : decode cX12_retained 47 = .ok (.istore_n 3, 1) := by decide +kernel
theorem dX12_retained_48 : decode cX12_retained 48 = .ok (.iload_n 2, 1) := by decide +kernel
theorem dX12_retained_49 : decode cX12_retained 49 = .ok (.iconst 3, 1) := by decide +kernel
theorem dX12_retained_50 : decode cX12_retained 50 = .ok (.if_icmp .ne 45, 3) := by decide +kernel
theorem dX12_retained_53 : decode cX12_retained 53 = .ok (.aload_n 0, 1) := by decide +kernel
theorem dX12_retained_54 : decode cX12_retained 54 = .ok (.getfield 165, 3) := by decide +kernel
theorem dX12_retained_57 : decode cX12_retained 57 = .ok (.iload_n 3, 1) := by decide +kernel
theorem dX12_retained_58 : decode cX12_retained 58 = .ok (.laload, 1) := by decide +kernel
theorem dX12_retained_59 : decode cX12_retained 59 = .ok (.lconst 0, 1) := by decide +kernel
theorem dX12_retained_60 : decode cX12_retained 60 = .ok (.lcmp, 1) := by decide +kernel
theorem dX12_retained_61 : decode cX12_retained 61 = .ok (.ifCond .ge 7, 3) := by decide +kernel
theorem dX12_retained_64 : decode cX12_retained 64 = .ok (.iconst (-1), 1) := by decide +kernel
theorem dX12_retained_65 : decode cX12_retained 65 = .ok (.goto 29, 3) := by decide +kernel
theorem dX12_retained_68 : decode cX12_retained 68 = .ok (.ldc2_w 589, 3) := by decide +kernel
theorem dX12_retained_71 : decode cX12_retained 71 = .ok (.aload_n 0, 1) := by decide +kernel
theorem dX12_retained_72 : decode cX12_retained 72 = .ok (.getfield 165, 3) := by decide +kernel
theorem dX12_retained_75 : decode cX12_retained 75 = .ok (.iload_n 3, 1) := by decide +kernel
theorem dX12_retained_76 : decode cX12_retained 76 = .ok (.laload, 1) := by decide +kernel
theorem dX12_retained_77 : decode cX12_retained 77 = .ok (.aload_n 0, 1) := by decide +kernel
theorem dX12_retained_78 : decode cX12_retained 78 = .ok (.getfield 268, 3) := by decide +kernel
theorem dX12_retained_81 : decode cX12_retained 81 = .ok (.aload_n 0, 1) := by decide +kernel
theorem dX12_retained_82 : decode cX12_retained 82 = .ok (.getfield 168, 3) := by decide +kernel
theorem dX12_retained_85 : decode cX12_retained 85 = .ok (.iload_n 3, 1) := by decide +kernel
theorem dX12_retained_86 : decode cX12_retained 86 = .ok (.iaload, 1) := by decide +kernel
theorem dX12_retained_87 : decode cX12_retained 87 = .ok (.isub, 1) := by decide +kernel
theorem dX12_retained_88 : decode cX12_retained 88 = .ok (.i2l, 1) := by decide +kernel
theorem dX12_retained_89 : decode cX12_retained 89 = .ok (.lsub, 1) := by decide +kernel
theorem dX12_retained_90 : decode cX12_retained 90 = .ok (.invokestatic 591, 3) := by decide +kernel
theorem dX12_retained_93 : decode cX12_retained 93 = .ok (.l2i, 1) := by decide +kernel
theorem dX12_retained_94 : decode cX12_retained 94 = .ok (.ireturn, 1) := by decide +kernel
theorem dX12_retained_95 : decode cX12_retained 95 = .ok (.iload_n 2, 1) := by decide +kernel
theorem dX12_retained_96 : decode cX12_retained 96 = .ok (.ifCond .ne 12, 3) := by decide +kernel
theorem dX12_retained_99 : decode cX12_retained 99 = .ok (.aload_n 0, 1) := by decide +kernel
theorem dX12_retained_100 : decode cX12_retained 100 = .ok (.getfield 153, 3) := by decide +kernel
theorem dX12_retained_103 : decode cX12_retained 103 = .ok (.iload_n 3, 1) := by decide +kernel
theorem dX12_retained_104 : decode cX12_retained 104 = .ok (.iaload, 1) := by decide +kernel
theorem dX12_retained_105 : decode cX12_retained 105 = .ok (.goto 23, 3) := by decide +kernel
theorem dX12_retained_108 : decode cX12_retained 108 = .ok (.iload_n 2, 1) := by decide +kernel
theorem dX12_retained_109 : decode cX12_retained 109 = .ok (.iconst 1, 1) := by decide +kernel
theorem dX12_retained_110 : decode cX12_retained 110 = .ok (.if_icmp .ne 12, 3) := by decide +kernel
theorem dX12_retained_113 : decode cX12_retained 113 = .ok (.aload_n 0, 1) := by decide +kernel
theorem dX12_retained_114 : decode cX12_retained 114 = .ok (.getfield 159, 3) := by decide +kernel
theorem dX12_retained_117 : decode cX12_retained 117 = .ok (.iload_n 3, 1) := by decide +kernel
theorem dX12_retained_118 : decode cX12_retained 118 = .ok (.iaload, 1) := by decide +kernel
theorem dX12_retained_119 : decode cX12_retained 119 = .ok (.goto 9, 3) := by decide +kernel
theorem dX12_retained_122 : decode cX12_retained 122 = .ok (.aload_n 0, 1) := by decide +kernel
theorem dX12_retained_123 : decode cX12_retained 123 = .ok (.getfield 195, 3) := by decide +kernel
theorem dX12_retained_126 : decode cX12_retained 126 = .ok (.iload_n 3, 1) := by decide +kernel
theorem dX12_retained_127 : decode cX12_retained 127 = .ok (.iaload, 1) := by decide +kernel
theorem dX12_retained_128 : decode cX12_retained 128 = .ok (.ireturn, 1) := by decide +kernel
theorem dX12_kept_0 : decode cX12_kept 0 = .ok (.aload_n 0, 1) := by decide +kernel
theorem dX12_kept_1 : decode cX12_kept 1 = .ok (.iconst 0, 1) := by decide +kernel
theorem dX12_kept_2 : decode cX12_kept 2 = .ok (.putfield 1, 3) := by decide +kernel
theorem dX12_kept_5 : decode cX12_kept 5 = .ok (.aload_n 0, 1) := by decide +kernel
theorem dX12_kept_6 : decode cX12_kept 6 = .ok (.invokevirtual 486, 3) := by decide +kernel
theorem dX12_kept_9 : decode cX12_kept 9 = .ok (.iload_n 1, 1) := by decide +kernel
theorem dX12_kept_10 : decode cX12_kept 10 = .ok (.ifCond .lt 11, 3) := by decide +kernel
theorem dX12_kept_13 : decode cX12_kept 13 = .ok (.iload_n 1, 1) := by decide +kernel
theorem dX12_kept_14 : decode cX12_kept 14 = .ok (.aload_n 0, 1) := by decide +kernel
theorem dX12_kept_15 : decode cX12_kept 15 = .ok (.getfield 476, 3) := by decide +kernel
theorem dX12_kept_18 : decode cX12_kept 18 = .ok (.if_icmp .lt 5, 3) := by decide +kernel
theorem dX12_kept_21 : decode cX12_kept 21 = .ok (.iconst (-1), 1) := by decide +kernel
theorem dX12_kept_22 : decode cX12_kept 22 = .ok (.ireturn, 1) := by decide +kernel
theorem dX12_kept_23 : decode cX12_kept 23 = .ok (.aload_n 0, 1) := by decide +kernel
theorem dX12_kept_24 : decode cX12_kept 24 = .ok (.getfield 207, 3) := by decide +kernel
theorem dX12_kept_27 : decode cX12_kept 27 = .ok (.iload_n 1, 1) := by decide +kernel
theorem dX12_kept_28 : decode cX12_kept 28 = .ok (.iaload, 1) := by decide +kernel
theorem dX12_kept_29 : decode cX12_kept 29 = .ok (.istore 4, 2) := by decide +kernel
theorem dX12_kept_31 : decode cX12_kept 31 = .ok (.iload_n 2, 1) := by decide +kernel
theorem dX12_kept_32 : decode cX12_kept 32 = .ok (.ifCond .eq 13, 3) := by decide +kernel
theorem dX12_kept_35 : decode cX12_kept 35 = .ok (.aload_n 0, 1) := by decide +kernel
theorem dX12_kept_36 : decode cX12_kept 36 = .ok (.getfield 159, 3) := by decide +kernel
theorem dX12_kept_39 : decode cX12_kept 39 = .ok (.iload 4, 2) := by decide +kernel
theorem dX12_kept_41 : decode cX12_kept 41 = .ok (.iaload, 1) := by decide +kernel
theorem dX12_kept_42 : decode cX12_kept 42 = .ok (.goto 10, 3) := by decide +kernel
theorem dX12_kept_45 : decode cX12_kept 45 = .ok (.aload_n 0, 1) := by decide +kernel
theorem dX12_kept_46 : decode cX12_kept 46 = .ok (.getfield 153, 3) := by decide +kernel
theorem dX12_kept_49 : decode cX12_kept 49 = .ok (.iload 4, 2) := by decide +kernel
theorem dX12_kept_51 : decode cX12_kept 51 = .ok (.iaload, 1) := by decide +kernel
theorem dX12_kept_52 : decode cX12_kept 52 = .ok (.istore 5, 2) := by decide +kernel
theorem dX12_kept_54 : decode cX12_kept 54 = .ok (.iload_n 3, 1) := by decide +kernel
theorem dX12_kept_55 : decode cX12_kept 55 = .ok (.ifCond .lt 9, 3) := by decide +kernel
theorem dX12_kept_58 : decode cX12_kept 58 = .ok (.iload_n 3, 1) := by decide +kernel
theorem dX12_kept_59 : decode cX12_kept 59 = .ok (.iload 5, 2) := by decide +kernel
theorem dX12_kept_61 : decode cX12_kept 61 = .ok (.if_icmp .lt 7, 3) := by decide +kernel
theorem dX12_kept_64 : decode cX12_kept 64 = .ok (.iconst (-1), 1) := by decide +kernel
theorem dX12_kept_65 : decode cX12_kept 65 = .ok (.goto 34, 3) := by decide +kernel
theorem dX12_kept_68 : decode cX12_kept 68 = .ok (.aload_n 0, 1) := by decide +kernel
theorem dX12_kept_69 : decode cX12_kept 69 = .ok (.getfield 150, 3) := by decide +kernel
theorem dX12_kept_72 : decode cX12_kept 72 = .ok (.iload_n 2, 1) := by decide +kernel
theorem dX12_kept_73 : decode cX12_kept 73 = .ok (.ifCond .eq 13, 3) := by decide +kernel
theorem dX12_kept_76 : decode cX12_kept 76 = .ok (.aload_n 0, 1) := by decide +kernel
theorem dX12_kept_77 : decode cX12_kept 77 = .ok (.getfield 156, 3) := by decide +kernel
theorem dX12_kept_80 : decode cX12_kept 80 = .ok (.iload 4, 2) := by decide +kernel
theorem dX12_kept_82 : decode cX12_kept 82 = .ok (.iaload, 1) := by decide +kernel
theorem dX12_kept_83 : decode cX12_kept 83 = .ok (.goto 9, 3) := by decide +kernel
theorem dX12_kept_86 : decode cX12_kept 86 = .ok (.sipush 480, 3) := by decide +kernel
theorem dX12_kept_89 : decode cX12_kept 89 = .ok (.iload 4, 2) := by decide +kernel
theorem dX12_kept_91 : decode cX12_kept 91 = .ok (.imul, 1) := by decide +kernel
theorem dX12_kept_92 : decode cX12_kept 92 = .ok (.iload_n 3, 1) := by decide +kernel
theorem dX12_kept_93 : decode cX12_kept 93 = .ok (.iadd, 1) := by decide +kernel
theorem dX12_kept_94 : decode cX12_kept 94 = .ok (.baload, 1) := by decide +kernel
theorem dX12_kept_95 : decode cX12_kept 95 = .ok (.sipush 255, 3) := by decide +kernel
theorem dX12_kept_98 : decode cX12_kept 98 = .ok (.iand, 1) := by decide +kernel
theorem dX12_kept_99 : decode cX12_kept 99 = .ok (.ireturn, 1) := by decide +kernel
theorem dX12_told_0 : decode cX12_told 0 = .ok (.aload_n 0, 1) := by decide +kernel
theorem dX12_told_1 : decode cX12_told 1 = .ok (.iload_n 1, 1) := by decide +kernel
theorem dX12_told_2 : decode cX12_told 2 = .ok (.ifCond .lt 9, 3) := by decide +kernel
theorem dX12_told_5 : decode cX12_told 5 = .ok (.iload_n 1, 1) := by decide +kernel
theorem dX12_told_6 : decode cX12_told 6 = .ok (.bipush 7, 2) := by decide +kernel
theorem dX12_told_8 : decode cX12_told 8 = .ok (.if_icmp .le 7, 3) := by decide +kernel
theorem dX12_told_11 : decode cX12_told 11 = .ok (.iconst 1, 1) := by decide +kernel
theorem dX12_told_12 : decode cX12_told 12 = .ok (.goto 4, 3) := by decide +kernel
theorem dX12_told_15 : decode cX12_told 15 = .ok (.iconst 0, 1) := by decide +kernel
theorem dX12_told_16 : decode cX12_told 16 = .ok (.invokevirtual 253, 3) := by decide +kernel
theorem dX12_told_19 : decode cX12_told 19 = .ok (.ifCond .eq 5, 3) := by decide +kernel
theorem dX12_told_22 : decode cX12_told 22 = .ok (.iconst 0, 1) := by decide +kernel
theorem dX12_told_23 : decode cX12_told 23 = .ok (.ireturn, 1) := by decide +kernel
theorem dX12_told_24 : decode cX12_told 24 = .ok (.aload_n 0, 1) := by decide +kernel
theorem dX12_told_25 : decode cX12_told 25 = .ok (.invokevirtual 486, 3) := by decide +kernel
theorem dX12_told_28 : decode cX12_told 28 = .ok (.iconst 0, 1) := by decide +kernel
theorem dX12_told_29 : decode cX12_told 29 = .ok (.istore_n 2, 1) := by decide +kernel
theorem dX12_told_30 : decode cX12_told 30 = .ok (.iconst 0, 1) := by decide +kernel
theorem dX12_told_31 : decode cX12_told 31 = .ok (.istore_n 3, 1) := by decide +kernel
theorem dX12_told_32 : decode cX12_told 32 = .ok (.iload_n 3, 1) := by decide +kernel
theorem dX12_told_33 : decode cX12_told 33 = .ok (.bipush 12, 2) := by decide +kernel
theorem dX12_told_35 : decode cX12_told 35 = .ok (.if_icmp .ge 26, 3) := by decide +kernel
theorem dX12_told_38 : decode cX12_told 38 = .ok (.iload_n 2, 1) := by decide +kernel
theorem dX12_told_39 : decode cX12_told 39 = .ok (.aload_n 0, 1) := by decide +kernel
theorem dX12_told_40 : decode cX12_told 40 = .ok (.getfield 46, 3) := by decide +kernel
theorem dX12_told_43 : decode cX12_told 43 = .ok (.iload_n 3, 1) := by decide +kernel
theorem dX12_told_44 : decode cX12_told 44 = .ok (.baload, 1) := by decide +kernel
theorem dX12_told_45 : decode cX12_told 45 = .ok (.ifCond .eq 7, 3) := by decide +kernel
theorem dX12_told_48 : decode cX12_told 48 = .ok (.iconst 1, 1) := by decide +kernel
theorem dX12_told_49 : decode cX12_told 49 = .ok (.goto 4, 3) := by decide +kernel
theorem dX12_told_52 : decode cX12_told 52 = .ok (.iconst 0, 1) := by decide +kernel
theorem dX12_told_53 : decode cX12_told 53 = .ok (.iadd, 1) := by decide +kernel
theorem dX12_told_54 : decode cX12_told 54 = .ok (.istore_n 2, 1) := by decide +kernel
theorem dX12_told_55 : decode cX12_told 55 = .ok (.iinc 3 1, 3) := by decide +kernel
theorem dX12_told_58 : decode cX12_told 58 = .ok (.goto (-26), 3) := by decide +kernel
theorem dX12_told_61 : decode cX12_told 61 = .ok (.iload_n 1, 1) := by decide +kernel
theorem dX12_told_62 : decode cX12_told 62 = .ok (.tableswitch 74 0 6 #[42, 44, 49, 54, 59, 64, 69], 42) := by decide +kernel
theorem dX12_told_104 : decode cX12_told 104 = .ok (.iload_n 2, 1) := by decide +kernel
theorem dX12_told_105 : decode cX12_told 105 = .ok (.ireturn, 1) := by decide +kernel
theorem dX12_told_106 : decode cX12_told 106 = .ok (.aload_n 0, 1) := by decide +kernel
theorem dX12_told_107 : decode cX12_told 107 = .ok (.getfield 476, 3) := by decide +kernel
theorem dX12_told_110 : decode cX12_told 110 = .ok (.ireturn, 1) := by decide +kernel
theorem dX12_told_111 : decode cX12_told 111 = .ok (.aload_n 0, 1) := by decide +kernel
theorem dX12_told_112 : decode cX12_told 112 = .ok (.getfield 265, 3) := by decide +kernel
theorem dX12_told_115 : decode cX12_told 115 = .ok (.ireturn, 1) := by decide +kernel
theorem dX12_told_116 : decode cX12_told 116 = .ok (.aload_n 0, 1) := by decide +kernel
theorem dX12_told_117 : decode cX12_told 117 = .ok (.getfield 315, 3) := by decide +kernel
theorem dX12_told_120 : decode cX12_told 120 = .ok (.ireturn, 1) := by decide +kernel
theorem dX12_told_121 : decode cX12_told 121 = .ok (.aload_n 0, 1) := by decide +kernel
theorem dX12_told_122 : decode cX12_told 122 = .ok (.getfield 508, 3) := by decide +kernel
theorem dX12_told_125 : decode cX12_told 125 = .ok (.ireturn, 1) := by decide +kernel
theorem dX12_told_126 : decode cX12_told 126 = .ok (.aload_n 0, 1) := by decide +kernel
theorem dX12_told_127 : decode cX12_told 127 = .ok (.getfield 541, 3) := by decide +kernel
theorem dX12_told_130 : decode cX12_told 130 = .ok (.ireturn, 1) := by decide +kernel
theorem dX12_told_131 : decode cX12_told 131 = .ok (.aload_n 0, 1) := by decide +kernel
theorem dX12_told_132 : decode cX12_told 132 = .ok (.getfield 268, 3) := by decide +kernel
theorem dX12_told_135 : decode cX12_told 135 = .ok (.ireturn, 1) := by decide +kernel
theorem dX12_told_136 : decode cX12_told 136 = .ok (.aload_n 0, 1) := by decide +kernel
theorem dX12_told_137 : decode cX12_told 137 = .ok (.getfield 470, 3) := by decide +kernel
theorem dX12_told_140 : decode cX12_told 140 = .ok (.ireturn, 1) := by decide +kernel
